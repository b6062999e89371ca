theorem dX12_sum_125 : decode cX12_sum 125 = .ok (.istore 10, 2) := by decide +kernel
theorem dX12_sum_127 : decode cX12_sum 127 = .ok (.aload_n 0, 1) := by decide +kernel
theorem dX12_sum_128 : decode cX12_sum 128 = .ok (.getfield 106, 3) := by decide +kernel
theorem dX12_sum_131 : decode cX12_sum 131 = .ok (.iload 8, 2) := by decide +kernel
theorem dX12_sum_133 : decode cX12_sum 133 = .ok (.iload 9, 2) := by decide +kernel
theorem dX12_sum_135 : decode cX12_sum 135 = .ok (.iload_n 3, 1) := by decide +kernel
theorem dX12_sum_136 : decode cX12_sum 136 = .ok (.if_icmp .ge 12, 3) := by decide +kernel
theorem dX12_sum_139 : decode cX12_sum 139 = .ok (.aload_n 1, 1) := by decide +kernel
theorem dX12_sum_140 : decode cX12_sum 140 = .ok (.iload_n 2, 1) := by decide +kernel
theorem dX12_sum_141 : decode cX12_sum 141 = .ok (.iload 9, 2) := by decide +kernel
theorem dX12_sum_143 : decode cX12_sum 143 = .ok (.iadd, 1) := by decide +kernel
theorem dX12_sum_144 : decode cX12_sum 144 = .ok (.baload, 1) := by decide +kernel
theorem dX12_sum_145 : decode cX12_sum 145 = .ok (.goto 35, 3) := by decide +kernel
theorem dX12_sum_148 : decode cX12_sum 148 = .ok (.iload 9, 2) := by decide +kernel
theorem dX12_sum_150 : decode cX12_sum 150 = .ok (.iload_n 3, 1) := by decide +kernel
theorem dX12_sum_151 : decode cX12_sum 151 = .ok (.if_icmp .ne 9, 3) := by decide +kernel
theorem dX12_sum_154 : decode cX12_sum 154 = .ok (.sipush 128, 3) := by decide +kernel
theorem dX12_sum_157 : decode cX12_sum 157 = .ok (.goto 23, 3) := by decide +kernel
theorem dX12_sum_160 : decode cX12_sum 160 = .ok (.iload 10, 2) := by decide +kernel
theorem dX12_sum_162 : decode cX12_sum 162 = .ok (.iconst 4, 1) := by decide +kernel
theorem dX12_sum_163 : decode cX12_sum 163 = .ok (.if_icmp .ge 16, 3) := by decide +kernel
theorem dX12_sum_166 : decode cX12_sum 166 = .ok (.bipush 8, 2) := by decide +kernel
theorem dX12_sum_168 : decode cX12_sum 168 = .ok (.iload_n 3, 1) := by decide +kernel
theorem dX12_sum_169 : decode cX12_sum 169 = .ok (.imul, 1) := by decide +kernel
theorem dX12_sum_170 : decode cX12_sum 170 = .ok (.bipush 8, 2) := by decide +kernel
theorem dX12_sum_172 : decode cX12_sum 172 = .ok (.iload 10, 2) := by decide +kernel
theorem dX12_sum_174 : decode cX12_sum 174 = .ok (.imul, 1) := by decide +kernel
theorem dX12_sum_175 : decode cX12_sum 175 = .ok (.ishr, 1) := by decide +kernel
theorem dX12_sum_176 : decode cX12_sum 176 = .ok (.goto 4, 3) := by decide +kernel
theorem dX12_sum_179 : decode cX12_sum 179 = .ok (.iconst 0, 1) := by decide +kernel
theorem dX12_sum_180 : decode cX12_sum 180 = .ok (.i2b, 1) := by decide +kernel
theorem dX12_sum_181 : decode cX12_sum 181 = .ok (.bastore, 1) := by decide +kernel
theorem dX12_sum_182 : decode cX12_sum 182 = .ok (.iinc 8 1, 3) := by decide +kernel
theorem dX12_sum_185 : decode cX12_sum 185 = .ok (.goto (-87), 3) := by decide +kernel
theorem dX12_sum_188 : decode cX12_sum 188 = .ok (.aload_n 0, 1) := by decide +kernel
theorem dX12_sum_189 : decode cX12_sum 189 = .ok (.invokevirtual 276, 3) := by decide +kernel
theorem dX12_sum_192 : decode cX12_sum 192 = .ok (.iinc 7 1, 3) := by decide +kernel
theorem dX12_sum_195 : decode cX12_sum 195 = .ok (.goto (-107), 3) := by decide +kernel
theorem dX12_sum_198 : decode cX12_sum 198 = .ok (.iconst 0, 1) := by decide +kernel
theorem dX12_sum_199 : decode cX12_sum 199 = .ok (.istore 7, 2) := by decide +kernel
theorem dX12_sum_201 : decode cX12_sum 201 = .ok (.iload 7, 2) := by decide +kernel
theorem dX12_sum_203 : decode cX12_sum 203 = .ok (.bipush 32, 2) := by decide +kernel
theorem dX12_sum_205 : decode cX12_sum 205 = .ok (.if_icmp .ge 38, 3) := by decide +kernel
theorem dX12_sum_208 : decode cX12_sum 208 = .ok (.aload 4, 2) := by decide +kernel
theorem dX12_sum_210 : decode cX12_sum 210 = .ok (.iload 5, 2) := by decide +kernel
theorem dX12_sum_212 : decode cX12_sum 212 = .ok (.iload 7, 2) := by decide +kernel
theorem dX12_sum_214 : decode cX12_sum 214 = .ok (.iadd, 1) := by decide +kernel
theorem dX12_sum_215 : decode cX12_sum 215 = .ok (.aload_n 0, 1) := by decide +kernel
theorem dX12_sum_216 : decode cX12_sum 216 = .ok (.getfield 103, 3) := by decide +kernel
theorem dX12_sum_219 : decode cX12_sum 219 = .ok (.iload 7, 2) := by decide +kernel
theorem dX12_sum_221 : decode cX12_sum 221 = .ok (.iconst 4, 1) := by decide +kernel
theorem dX12_sum_222 : decode cX12_sum 222 = .ok (.idiv, 1) := by decide +kernel
theorem dX12_sum_223 : decode cX12_sum 223 = .ok (.iaload, 1) := by decide +kernel
theorem dX12_sum_224 : decode cX12_sum 224 = .ok (.bipush 24, 2) := by decide +kernel
theorem dX12_sum_226 : decode cX12_sum 226 = .ok (.bipush 8, 2) := by decide +kernel
theorem dX12_sum_228 : decode cX12_sum 228 = .ok (.iload 7, 2) := by decide +kernel
theorem dX12_sum_230 : decode cX12_sum 230 = .ok (.iconst 4, 1) := by decide +kernel
theorem dX12_sum_231 : decode cX12_sum 231 = .ok (.irem, 1) := by decide +kernel
theorem dX12_sum_232 : decode cX12_sum 232 = .ok (.imul, 1) := by decide +kernel
theorem dX12_sum_233 : decode cX12_sum 233 = .ok (.isub, 1) := by decide +kernel
theorem dX12_sum_234 : decode cX12_sum 234 = .ok (.ishr, 1) := by decide +kernel
theorem dX12_sum_235 : decode cX12_sum 235 = .ok (.i2b, 1) := by decide +kernel
theorem dX12_sum_236 : decode cX12_sum 236 = .ok (.bastore, 1) := by decide +kernel
theorem dX12_sum_237 : decode cX12_sum 237 = .ok (.iinc 7 1, 3) := by decide +kernel
theorem dX12_sum_240 : decode cX12_sum 240 = .ok (.goto (-39), 3) := by decide +kernel
theorem dX12_sum_243 : decode cX12_sum 243 = .ok (.return_, 1) := by decide +kernel
theorem dX12_sign_0 : decode cX12_sign 0 = .ok (.iconst 0, 1) := by decide +kernel
theorem dX12_sign_1 : decode cX12_sign 1 = .ok (.istore 9, 2) := by decide +kernel
theorem dX12_sign_3 : decode cX12_sign 3 = .ok (.iload 9, 2) := by decide +kernel
theorem dX12_sign_5 : decode cX12_sign 5 = .ok (.bipush 64, 2) := by decide +kernel
theorem dX12_sign_7 : decode cX12_sign 7 = .ok (.if_icmp .ge 53, 3) := by decide +kernel
theorem dX12_sign_10 : decode cX12_sign 10 = .ok (.iload 9, 2) := by decide +kernel
theorem dX12_sign_12 : decode cX12_sign 12 = .ok (.iload_n 3, 1) := by decide +kernel
theorem dX12_sign_13 : decode cX12_sign 13 = .ok (.if_icmp .ge 12, 3) := by decide +kernel
theorem dX12_sign_16 : decode cX12_sign 16 = .ok (.aload_n 1, 1) := by decide +kernel
theorem dX12_sign_17 : decode cX12_sign 17 = .ok (.iload_n 2, 1) := by decide +kernel
theorem dX12_sign_18 : decode cX12_sign 18 = .ok (.iload 9, 2) := by decide +kernel
theorem dX12_sign_20 : decode cX12_sign 20 = .ok (.iadd, 1) := by decide +kernel
theorem dX12_sign_21 : decode cX12_sign 21 = .ok (.baload, 1) := by decide +kernel
theorem dX12_sign_22 : decode cX12_sign 22 = .ok (.goto 4, 3) := by decide +kernel
theorem dX12_sign_25 : decode cX12_sign 25 = .ok (.iconst 0, 1) := by decide +kernel
theorem dX12_sign_26 : decode cX12_sign 26 = .ok (.istore 10, 2) := by decide +kernel
theorem dX12_sign_28 : decode cX12_sign 28 = .ok (.aload_n 0, 1) := by decide +kernel
theorem dX12_sign_29 : decode cX12_sign 29 = .ok (.getfield 109, 3) := by decide +kernel
theorem dX12_sign_32 : decode cX12_sign 32 = .ok (.iload 9, 2) := by decide +kernel
theorem dX12_sign_34 : decode cX12_sign 34 = .ok (.iload 10, 2) := by decide +kernel
theorem dX12_sign_36 : decode cX12_sign 36 = .ok (.bipush 54, 2) := by decide +kernel
theorem dX12_sign_38 : decode cX12_sign 38 = .ok (.ixor, 1) := by decide +kernel
theorem dX12_sign_39 : decode cX12_sign 39 = .ok (.i2b, 1) := by decide +kernel
theorem dX12_sign_40 : decode cX12_sign 40 = .ok (.bastore, 1) := by decide +kernel
theorem dX12_sign_41 : decode cX12_sign 41 = .ok (.aload_n 0, 1) := by decide +kernel
theorem dX12_sign_42 : decode cX12_sign 42 = .ok (.getfield 112, 3) := by decide +kernel
theorem dX12_sign_45 : decode cX12_sign 45 = .ok (.iload 9, 2) := by decide +kernel
theorem dX12_sign_47 : decode cX12_sign 47 = .ok (.iload 10, 2) := by decide +kernel
theorem dX12_sign_49 : decode cX12_sign 49 = .ok (.bipush 92, 2) := by decide +kernel
theorem dX12_sign_51 : decode cX12_sign 51 = .ok (.ixor, 1) := by decide +kernel
theorem dX12_sign_52 : decode cX12_sign 52 = .ok (.i2b, 1) := by decide +kernel
theorem dX12_sign_53 : decode cX12_sign 53 = .ok (.bastore, 1) := by decide +kernel
theorem dX12_sign_54 : decode cX12_sign 54 = .ok (.iinc 9 1, 3) := by decide +kernel
theorem dX12_sign_57 : decode cX12_sign 57 = .ok (.goto (-54), 3) := by decide +kernel
theorem dX12_sign_60 : decode cX12_sign 60 = .ok (.aload 4, 2) := by decide +kernel
theorem dX12_sign_62 : decode cX12_sign 62 = .ok (.iload 5, 2) := by decide +kernel
theorem dX12_sign_64 : decode cX12_sign 64 = .ok (.aload_n 0, 1) := by decide +kernel
theorem dX12_sign_65 : decode cX12_sign 65 = .ok (.getfield 109, 3) := by decide +kernel
theorem dX12_sign_68 : decode cX12_sign 68 = .ok (.bipush 64, 2) := by decide +kernel
theorem dX12_sign_70 : decode cX12_sign 70 = .ok (.iload 6, 2) := by decide +kernel
theorem dX12_sign_72 : decode cX12_sign 72 = .ok (.invokestatic 279, 3) := by decide +kernel
theorem dX12_sign_75 : decode cX12_sign 75 = .ok (.aload_n 0, 1) := by decide +kernel
theorem dX12_sign_76 : decode cX12_sign 76 = .ok (.aload_n 0, 1) := by decide +kernel
theorem dX12_sign_77 : decode cX12_sign 77 = .ok (.getfield 109, 3) := by decide +kernel
theorem dX12_sign_80 : decode cX12_sign 80 = .ok (.iconst 0, 1) := by decide +kernel
theorem dX12_sign_81 : decode cX12_sign 81 = .ok (.bipush 64, 2) := by decide +kernel
theorem dX12_sign_83 : decode cX12_sign 83 = .ok (.iload 6, 2) := by decide +kernel
theorem dX12_sign_85 : decode cX12_sign 85 = .ok (.iadd, 1) := by decide +kernel
theorem dX12_sign_86 : decode cX12_sign 86 = .ok (.aload_n 0, 1) := by decide +kernel
theorem dX12_sign_87 : decode cX12_sign 87 = .ok (.getfield 112, 3) := by decide +kernel
theorem dX12_sign_90 : decode cX12_sign 90 = .ok (.bipush 64, 2) := by decide +kernel
theorem dX12_sign_92 : decode cX12_sign 92 = .ok (.invokevirtual 283, 3) := by decide +kernel
theorem dX12_sign_95 : decode cX12_sign 95 = .ok (.aload_n 0, 1) := by decide +kernel
theorem dX12_sign_96 : decode cX12_sign 96 = .ok (.aload_n 0, 1) := by decide +kernel
theorem dX12_sign_97 : decode cX12_sign 97 = .ok (.getfield 112, 3) := by decide +kernel
theorem dX12_sign_100 : decode cX12_sign 100 = .ok (.iconst 0, 1) := by decide +kernel
theorem dX12_sign_101 : decode cX12_sign 101 = .ok (.bipush 96, 2) := by decide +kernel
theorem dX12_sign_103 : decode cX12_sign 103 = .ok (.aload 7, 2) := by decide +kernel
theorem dX12_sign_105 : decode cX12_sign 105 = .ok (.iload 8, 2) := by decide +kernel
theorem dX12_sign_107 : decode cX12_sign 107 = .ok (.invokevirtual 283, 3) := by decide +kernel
theorem dX12_sign_110 : decode cX12_sign 110 = .ok (.return_, 1) := by decide +kernel
theorem dX12_text_0 : decode cX12_text 0 = .ok (.lload_n 1, 1) := by decide +kernel
theorem dX12_text_1 : decode cX12_text 1 = .ok (.lstore_n 3, 1) := by decide +kernel
theorem dX12_text_2 : decode cX12_text 2 = .ok (.lload_n 3, 1) := by decide +kernel
theorem dX12_text_3 : decode cX12_text 3 = .ok (.lconst 0, 1) := by decide +kernel
theorem dX12_text_4 : decode cX12_text 4 = .ok (.lcmp, 1) := by decide +kernel
theorem dX12_text_5 : decode cX12_text 5 = .ok (.ifCond .eq 33, 3) := by decide +kernel
theorem dX12_text_8 : decode cX12_text 8 = .ok (.aload_n 0, 1) := by decide +kernel
theorem dX12_text_9 : decode cX12_text 9 = .ok (.getfield 115, 3) := by decide +kernel
theorem dX12_text_12 : decode cX12_text 12 = .ok (.aload_n 0, 1) := by decide +kernel
theorem dX12_text_13 : decode cX12_text 13 = .ok (.getfield 287, 3) := by decide +kernel
theorem dX12_text_16 : decode cX12_text 16 = .ok (.lload_n 3, 1) := by decide +kernel
theorem dX12_text_17 : decode cX12_text 17 = .ok (.l2i, 1) := by decide +kernel
theorem dX12_text_18 : decode cX12_text 18 = .ok (.i2b, 1) := by decide +kernel
theorem dX12_text_19 : decode cX12_text 19 = .ok (.bastore, 1) := by decide +kernel
theorem dX12_text_20 : decode cX12_text 20 = .ok (.aload_n 0, 1) := by decide +kernel
theorem dX12_text_21 : decode cX12_text 21 = .ok (.dup, 1) := by decide +kernel
theorem dX12_text_22 : decode cX12_text 22 = .ok (.getfield 287, 3) := by decide +kernel
theorem dX12_text_25 : decode cX12_text 25 = .ok (.iconst 1, 1) := by decide +kernel
theorem dX12_text_26 : decode cX12_text 26 = .ok (.iadd, 1) := by decide +kernel
theorem dX12_text_27 : decode cX12_text 27 = .ok (.putfield 287, 3) := by decide +kernel
theorem dX12_text_30 : decode cX12_text 30 = .ok (.lload_n 3, 1) := by decide +kernel
theorem dX12_text_31 : decode cX12_text 31 = .ok (.bipush 8, 2) := by decide +kernel
theorem dX12_text_33 : decode cX12_text 33 = .ok (.lushr, 1) := by decide +kernel
theorem dX12_text_34 : decode cX12_text 34 = .ok (.lstore_n 3, 1) := by decide +kernel
theorem dX12_text_35 : decode cX12_text 35 = .ok (.goto (-33), 3) := by decide +kernel
theorem dX12_text_38 : decode cX12_text 38 = .ok (.return_, 1) := by decide +kernel
theorem dX12_label_0 : decode cX12_label 0 = .ok (.aload_n 0, 1) := by decide +kernel
theorem dX12_label_1 : decode cX12_label 1 = .ok (.ldc2_w 290, 3) := by decide +kernel
theorem dX12_label_4 : decode cX12_label 4 = .ok (.invokevirtual 292, 3) := by decide +kernel
theorem dX12_label_7 : decode cX12_label 7 = .ok (.iload_n 1, 1) := by decide +kernel
theorem dX12_label_8 : decode cX12_label 8 = .ok (.tableswitch 139 0 8 #[52, 60, 70, 80, 90, 100, 108, 116, 124], 52) := by decide +kernel
theorem dX12_label_60 : decode cX12_label 60 = .ok (.aload_n 0, 1) := by decide +kernel
theorem dX12_label_61 : decode cX12_label 61 = .ok (.ldc2_w 296, 3) := by decide +kernel
theorem dX12_label_64 : decode cX12_label 64 = .ok (.invokevirtual 292, 3) := by decide +kernel
theorem dX12_label_67 : decode cX12_label 67 = .ok (.return_, 1) := by decide +kernel
theorem dX12_label_68 : decode cX12_label 68 = .ok (.aload_n 0, 1) := by decide +kernel
theorem dX12_label_69 : decode cX12_label 69 = .ok (.ldc2_w 298, 3) := by decide +kernel
theorem dX12_label_72 : decode cX12_label 72 = .ok (.invokevirtual 292, 3) := by decide +kernel
theorem dX12_label_75 : decode cX12_label 75 = .ok (.goto 87, 3) := by decide +kernel
theorem dX12_label_78 : decode cX12_label 78 = .ok (.aload_n 0, 1) := by decide +kernel
theorem dX12_label_79 : decode cX12_label 79 = .ok (.ldc2_w 300, 3) := by decide +kernel
theorem dX12_label_82 : decode cX12_label 82 = .ok (.invokevirtual 292, 3) := by decide +kernel
theorem dX12_label_85 : decode cX12_label 85 = .ok (.goto 77, 3) := by decide +kernel
theorem dX12_label_88 : decode cX12_label 88 = .ok (.aload_n 0, 1) := by decide +kernel
theorem dX12_label_89 : decode cX12_label 89 = .ok (.ldc2_w 302, 3) := by decide +kernel
theorem dX12_label_92 : decode cX12_label 92 = .ok (.invokevirtual 292, 3) := by decide +kernel
theorem dX12_label_95 : decode cX12_label 95 = .ok (.goto 67, 3) := by decide +kernel
theorem dX12_label_98 : decode cX12_label 98 = .ok (.aload_n 0, 1) := by decide +kernel
theorem dX12_label_99 : decode cX12_label 99 = .ok (.ldc2_w 304, 3) := by decide +kernel
theorem dX12_label_102 : decode cX12_label 102 = .ok (.invokevirtual 292, 3) := by decide +kernel
theorem dX12_label_105 : decode cX12_label 105 = .ok (.goto 57, 3) := by decide +kernel
theorem dX12_label_108 : decode cX12_label 108 = .ok (.aload_n 0, 1) := by decide +kernel
theorem dX12_label_109 : decode cX12_label 109 = .ok (.ldc2_w 306, 3) := by decide +kernel
theorem dX12_label_112 : decode cX12_label 112 = .ok (.invokevirtual 292, 3) := by decide +kernel
theorem dX12_label_115 : decode cX12_label 115 = .ok (.return_, 1) := by decide +kernel
theorem dX12_label_116 : decode cX12_label 116 = .ok (.aload_n 0, 1) := by decide +kernel
theorem dX12_label_117 : decode cX12_label 117 = .ok (.ldc2_w 308, 3) := by decide +kernel
theorem dX12_label_120 : decode cX12_label 120 = .ok (.invokevirtual 292, 3) := by decide +kernel
theorem dX12_label_123 : decode cX12_label 123 = .ok (.return_, 1) := by decide +kernel
theorem dX12_label_124 : decode cX12_label 124 = .ok (.aload_n 0, 1) := by decide +kernel
theorem dX12_label_125 : decode cX12_label 125 = .ok (.ldc2_w 310, 3) := by decide +kernel
theorem dX12_label_128 : decode cX12_label 128 = .ok (.invokevirtual 292, 3) := by decide +kernel
theorem dX12_label_131 : decode cX12_label 131 = .ok (.return_, 1) := by decide +kernel
theorem dX12_label_132 : decode cX12_label 132 = .ok (.aload_n 0, 1) := by decide +kernel
theorem dX12_label_133 : decode cX12_label 133 = .ok (.ldc2_w 312, 3) := by decide +kernel
theorem dX12_label_136 : decode cX12_label 136 = .ok (.invokevirtual 292, 3) := by decide +kernel
theorem dX12_label_139 : decode cX12_label 139 = .ok (.aload_n 0, 1) := by decide +kernel
theorem dX12_label_140 : decode cX12_label 140 = .ok (.ldc2_w 314, 3) := by decide +kernel
theorem dX12_label_143 : decode cX12_label 143 = .ok (.invokevirtual 292, 3) := by decide +kernel
theorem dX12_label_146 : decode cX12_label 146 = .ok (.return_, 1) := by decide +kernel
theorem dX12_label_147 : decode cX12_label 147 = .ok (.aload_n 0, 1) := by decide +kernel
theorem dX12_label_148 : decode cX12_label 148 = .ok (.ldc2_w 316, 3) := by decide +kernel
theorem dX12_label_151 : decode cX12_label 151 = .ok (.invokevirtual 292, 3) := by decide +kernel
theorem dX12_label_154 : decode cX12_label 154 = .ok (.aload_n 0, 1) := by decide +kernel
theorem dX12_label_155 : decode cX12_label 155 = .ok (.ldc2_w 318, 3) := by decide +kernel
theorem dX12_label_158 : decode cX12_label 158 = .ok (.invokevirtual 292, 3) := by decide +kernel
theorem dX12_label_161 : decode cX12_label 161 = .ok (.return_, 1) := by decide +kernel
theorem dX12_label_162 : decode cX12_label 162 = .ok (.aload_n 0, 1) := by decide +kernel
theorem dX12_label_163 : decode cX12_label 163 = .ok (.ldc2_w 320, 3) := by decide +kernel
theorem dX12_label_166 : decode cX12_label 166 = .ok (.invokevirtual 292, 3) := by decide +kernel
theorem dX12_label_169 : decode cX12_label 169 = .ok (.return_, 1) := by decide +kernel
theorem dX12_expand_0 : decode cX12_expand 0 = .ok (.aload_n 0, 1) := by decide +kernel
theorem dX12_expand_1 : decode cX12_expand 1 = .ok (.iconst 3, 1) := by decide +kernel
theorem dX12_expand_2 : decode cX12_expand 2 = .ok (.putfield 287, 3) := by decide +kernel
theorem dX12_expand_5 : decode cX12_expand 5 = .ok (.aload_n 0, 1) := by decide +kernel
theorem dX12_expand_6 : decode cX12_expand 6 = .ok (.iload_n 3, 1) := by decide +kernel
theorem dX12_expand_7 : decode cX12_expand 7 = .ok (.invokevirtual 322, 3) := by decide +kernel
theorem dX12_expand_10 : decode cX12_expand 10 = .ok (.aload_n 0, 1) := by decide +kernel
theorem dX12_expand_11 : decode cX12_expand 11 = .ok (.getfield 115, 3) := by decide +kernel
theorem dX12_expand_14 : decode cX12_expand 14 = .ok (.iconst 0, 1) := by decide +kernel
theorem dX12_expand_15 : decode cX12_expand 15 = .ok (.iconst 0, 1) := by decide +kernel
theorem dX12_expand_16 : decode cX12_expand 16 = .ok (.bastore, 1) := by decide +kernel
theorem dX12_expand_17 : decode cX12_expand 17 = .ok (.aload_n 0, 1) := by decide +kernel
theorem dX12_expand_18 : decode cX12_expand 18 = .ok (.getfield 115, 3) := by decide +kernel
theorem dX12_expand_21 : decode cX12_expand 21 = .ok (.iconst 1, 1) := by decide +kernel
theorem dX12_expand_22 : decode cX12_expand 22 = .ok (.iload 8, 2) := by decide +kernel
theorem dX12_expand_24 : decode cX12_expand 24 = .ok (.i2b, 1) := by decide +kernel
theorem dX12_expand_25 : decode cX12_expand 25 = .ok (.bastore, 1) := by decide +kernel
theorem dX12_expand_26 : decode cX12_expand 26 = .ok (.aload_n 0, 1) := by decide +kernel
theorem dX12_expand_27 : decode cX12_expand 27 = .ok (.getfield 115, 3) := by decide +kernel
theorem dX12_expand_30 : decode cX12_expand 30 = .ok (.iconst 2, 1) := by decide +kernel
theorem dX12_expand_31 : decode cX12_expand 31 = .ok (.aload_n 0, 1) := by decide +kernel
theorem dX12_expand_32 : decode cX12_expand 32 = .ok (.getfield 287, 3) := by decide +kernel
theorem dX12_expand_35 : decode cX12_expand 35 = .ok (.iconst 3, 1) := by decide +kernel
theorem dX12_expand_36 : decode cX12_expand 36 = .ok (.isub, 1) := by decide +kernel
theorem dX12_expand_37 : decode cX12_expand 37 = .ok (.i2b, 1) := by decide +kernel
theorem dX12_expand_38 : decode cX12_expand 38 = .ok (.bastore, 1) := by decide +kernel
theorem dX12_expand_39 : decode cX12_expand 39 = .ok (.aload_n 0, 1) := by decide +kernel
theorem dX12_expand_40 : decode cX12_expand 40 = .ok (.getfield 115, 3) := by decide +kernel
theorem dX12_expand_43 : decode cX12_expand 43 = .ok (.aload_n 0, 1) := by decide +kernel
theorem dX12_expand_44 : decode cX12_expand 44 = .ok (.getfield 287, 3) := by decide +kernel
theorem dX12_expand_47 : decode cX12_expand 47 = .ok (.iload 5, 2) := by decide +kernel
theorem dX12_expand_49 : decode cX12_expand 49 = .ok (.i2b, 1) := by decide +kernel
theorem dX12_expand_50 : decode cX12_expand 50 = .ok (.bastore, 1) := by decide +kernel
theorem dX12_expand_51 : decode cX12_expand 51 = .ok (.aload_n 0, 1) := by decide +kernel
theorem dX12_expand_52 : decode cX12_expand 52 = .ok (.dup, 1) := by decide +kernel
theorem dX12_expand_53 : decode cX12_expand 53 = .ok (.getfield 287, 3) := by decide +kernel
theorem dX12_expand_56 : decode cX12_expand 56 = .ok (.iconst 1, 1) := by decide +kernel
theorem dX12_expand_57 : decode cX12_expand 57 = .ok (.iadd, 1) := by decide +kernel
theorem dX12_expand_58 : decode cX12_expand 58 = .ok (.putfield 287, 3) := by decide +kernel
theorem dX12_expand_61 : decode cX12_expand 61 = .ok (.aload 4, 2) := by decide +kernel
theorem dX12_expand_63 : decode cX12_expand 63 = .ok (.iconst 0, 1) := by decide +kernel
theorem dX12_expand_64 : decode cX12_expand 64 = .ok (.aload_n 0, 1) := by decide +kernel
theorem dX12_expand_65 : decode cX12_expand 65 = .ok (.getfield 115, 3) := by decide +kernel
theorem dX12_expand_68 : decode cX12_expand 68 = .ok (.aload_n 0, 1) := by decide +kernel
theorem dX12_expand_69 : decode cX12_expand 69 = .ok (.getfield 287, 3) := by decide +kernel
theorem dX12_expand_72 : decode cX12_expand 72 = .ok (.iload 5, 2) := by decide +kernel
theorem dX12_expand_74 : decode cX12_expand 74 = .ok (.invokestatic 279, 3) := by decide +kernel
theorem dX12_expand_77 : decode cX12_expand 77 = .ok (.aload_n 0, 1) := by decide +kernel
theorem dX12_expand_78 : decode cX12_expand 78 = .ok (.dup, 1) := by decide +kernel
theorem dX12_expand_79 : decode cX12_expand 79 = .ok (.getfield 287, 3) := by decide +kernel
theorem dX12_expand_82 : decode cX12_expand 82 = .ok (.iload 5, 2) := by decide +kernel
theorem dX12_expand_84 : decode cX12_expand 84 = .ok (.iadd, 1) := by decide +kernel
theorem dX12_expand_85 : decode cX12_expand 85 = .ok (.putfield 287, 3) := by decide +kernel
theorem dX12_expand_88 : decode cX12_expand 88 = .ok (.aload_n 0, 1) := by decide +kernel
theorem dX12_expand_89 : decode cX12_expand 89 = .ok (.getfield 115, 3) := by decide +kernel
theorem dX12_expand_92 : decode cX12_expand 92 = .ok (.aload_n 0, 1) := by decide +kernel
theorem dX12_expand_93 : decode cX12_expand 93 = .ok (.getfield 287, 3) := by decide +kernel
theorem dX12_expand_96 : decode cX12_expand 96 = .ok (.iconst 1, 1) := by decide +kernel
theorem dX12_expand_97 : decode cX12_expand 97 = .ok (.bastore, 1) := by decide +kernel
theorem dX12_expand_98 : decode cX12_expand 98 = .ok (.aload_n 0, 1) := by decide +kernel
theorem dX12_expand_99 : decode cX12_expand 99 = .ok (.dup, 1) := by decide +kernel
theorem dX12_expand_100 : decode cX12_expand 100 = .ok (.getfield 287, 3) := by decide +kernel
theorem dX12_expand_103 : decode cX12_expand 103 = .ok (.iconst 1, 1) := by decide +kernel
theorem dX12_expand_104 : decode cX12_expand 104 = .ok (.iadd, 1) := by decide +kernel
theorem dX12_expand_105 : decode cX12_expand 105 = .ok (.putfield 287, 3) := by decide +kernel
theorem dX12_expand_108 : decode cX12_expand 108 = .ok (.aload_n 0, 1) := by decide +kernel
theorem dX12_expand_109 : decode cX12_expand 109 = .ok (.aload_n 1, 1) := by decide +kernel
theorem dX12_expand_110 : decode cX12_expand 110 = .ok (.iload_n 2, 1) := by decide +kernel
theorem dX12_expand_111 : decode cX12_expand 111 = .ok (.bipush 32, 2) := by decide +kernel
theorem dX12_expand_113 : decode cX12_expand 113 = .ok (.aload_n 0, 1) := by decide +kernel
theorem dX12_expand_114 : decode cX12_expand 114 = .ok (.getfield 115, 3) := by decide +kernel
theorem dX12_expand_117 : decode cX12_expand 117 = .ok (.iconst 0, 1) := by decide +kernel
theorem dX12_expand_118 : decode cX12_expand 118 = .ok (.aload_n 0, 1) := by decide +kernel
theorem dX12_expand_119 : decode cX12_expand 119 = .ok (.getfield 287, 3) := by decide +kernel
theorem dX12_expand_122 : decode cX12_expand 122 = .ok (.aload_n 0, 1) := by decide +kernel
theorem dX12_expand_123 : decode cX12_expand 123 = .ok (.getfield 118, 3) := by decide +kernel
theorem dX12_expand_126 : decode cX12_expand 126 = .ok (.iconst 0, 1) := by decide +kernel
theorem dX12_expand_127 : decode cX12_expand 127 = .ok (.invokevirtual 326, 3) := by decide +kernel
theorem dX12_expand_130 : decode cX12_expand 130 = .ok (.aload_n 0, 1) := by decide +kernel
theorem dX12_expand_131 : decode cX12_expand 131 = .ok (.getfield 118, 3) := by decide +kernel
theorem dX12_expand_134 : decode cX12_expand 134 = .ok (.iconst 0, 1) := by decide +kernel
theorem dX12_expand_135 : decode cX12_expand 135 = .ok (.aload 6, 2) := by decide +kernel
theorem dX12_expand_137 : decode cX12_expand 137 = .ok (.iload 7, 2) := by decide +kernel
theorem dX12_expand_139 : decode cX12_expand 139 = .ok (.iload 8, 2) := by decide +kernel
theorem dX12_expand_141 : decode cX12_expand 141 = .ok (.invokestatic 279, 3) := by decide +kernel
theorem dX12_expand_144 : decode cX12_expand 144 = .ok (.return_, 1) := by decide +kernel
theorem dX12_beginSchedule_0 : decode cX12_beginSchedule 0 = .ok (.aload_n 0, 1) := by decide +kernel
theorem dX12_beginSchedule_1 : decode cX12_beginSchedule 1 = .ok (.aload_n 0, 1) := by decide +kernel
theorem dX12_beginSchedule_2 : decode cX12_beginSchedule 2 = .ok (.getfield 121, 3) := by decide +kernel
theorem dX12_beginSchedule_5 : decode cX12_beginSchedule 5 = .ok (.iconst 0, 1) := by decide +kernel
theorem dX12_beginSchedule_6 : decode cX12_beginSchedule 6 = .ok (.iconst 0, 1) := by decide +kernel
theorem dX12_beginSchedule_7 : decode cX12_beginSchedule 7 = .ok (.aload_n 0, 1) := by decide +kernel
theorem dX12_beginSchedule_8 : decode cX12_beginSchedule 8 = .ok (.getfield 124, 3) := by decide +kernel
theorem dX12_beginSchedule_11 : decode cX12_beginSchedule 11 = .ok (.iconst 0, 1) := by decide +kernel
theorem dX12_beginSchedule_12 : decode cX12_beginSchedule 12 = .ok (.invokevirtual 283, 3) := by decide +kernel
theorem dX12_beginSchedule_15 : decode cX12_beginSchedule 15 = .ok (.aload_n 0, 1) := by decide +kernel
theorem dX12_beginSchedule_16 : decode cX12_beginSchedule 16 = .ok (.aload_n 0, 1) := by decide +kernel
theorem dX12_beginSchedule_17 : decode cX12_beginSchedule 17 = .ok (.getfield 121, 3) := by decide +kernel
theorem dX12_beginSchedule_20 : decode cX12_beginSchedule 20 = .ok (.iconst 0, 1) := by decide +kernel
theorem dX12_beginSchedule_21 : decode cX12_beginSchedule 21 = .ok (.bipush 32, 2) := by decide +kernel
theorem dX12_beginSchedule_23 : decode cX12_beginSchedule 23 = .ok (.aload_n 0, 1) := by decide +kernel
theorem dX12_beginSchedule_24 : decode cX12_beginSchedule 24 = .ok (.getfield 21, 3) := by decide +kernel
theorem dX12_beginSchedule_27 : decode cX12_beginSchedule 27 = .ok (.bipush 64, 2) := by decide +kernel
theorem dX12_beginSchedule_29 : decode cX12_beginSchedule 29 = .ok (.iload_n 1, 1) := by decide +kernel
theorem dX12_beginSchedule_30 : decode cX12_beginSchedule 30 = .ok (.imul, 1) := by decide +kernel
theorem dX12_beginSchedule_31 : decode cX12_beginSchedule 31 = .ok (.aload_n 0, 1) := by decide +kernel
theorem dX12_beginSchedule_32 : decode cX12_beginSchedule 32 = .ok (.getfield 24, 3) := by decide +kernel
theorem dX12_beginSchedule_35 : decode cX12_beginSchedule 35 = .ok (.iload_n 1, 1) := by decide +kernel
theorem dX12_beginSchedule_36 : decode cX12_beginSchedule 36 = .ok (.iaload, 1) := by decide +kernel
theorem dX12_beginSchedule_37 : decode cX12_beginSchedule 37 = .ok (.aload_n 0, 1) := by decide +kernel
theorem dX12_beginSchedule_38 : decode cX12_beginSchedule 38 = .ok (.getfield 127, 3) := by decide +kernel
theorem dX12_beginSchedule_41 : decode cX12_beginSchedule 41 = .ok (.iconst 0, 1) := by decide +kernel
theorem dX12_beginSchedule_42 : decode cX12_beginSchedule 42 = .ok (.invokevirtual 326, 3) := by decide +kernel
theorem dX12_beginSchedule_45 : decode cX12_beginSchedule 45 = .ok (.aload_n 0, 1) := by decide +kernel
theorem dX12_beginSchedule_46 : decode cX12_beginSchedule 46 = .ok (.aload_n 0, 1) := by decide +kernel
theorem dX12_beginSchedule_47 : decode cX12_beginSchedule 47 = .ok (.getfield 127, 3) := by decide +kernel
theorem dX12_beginSchedule_50 : decode cX12_beginSchedule 50 = .ok (.iconst 0, 1) := by decide +kernel
theorem dX12_beginSchedule_51 : decode cX12_beginSchedule 51 = .ok (.iconst 0, 1) := by decide +kernel
theorem dX12_beginSchedule_52 : decode cX12_beginSchedule 52 = .ok (.aload_n 0, 1) := by decide +kernel
theorem dX12_beginSchedule_53 : decode cX12_beginSchedule 53 = .ok (.getfield 124, 3) := by decide +kernel
theorem dX12_beginSchedule_56 : decode cX12_beginSchedule 56 = .ok (.bipush 32, 2) := by decide +kernel
theorem dX12_beginSchedule_58 : decode cX12_beginSchedule 58 = .ok (.aload_n 0, 1) := by decide +kernel
theorem dX12_beginSchedule_59 : decode cX12_beginSchedule 59 = .ok (.getfield 133, 3) := by decide +kernel
theorem dX12_beginSchedule_62 : decode cX12_beginSchedule 62 = .ok (.iconst 0, 1) := by decide +kernel
theorem dX12_beginSchedule_63 : decode cX12_beginSchedule 63 = .ok (.bipush 32, 2) := by decide +kernel
theorem dX12_beginSchedule_65 : decode cX12_beginSchedule 65 = .ok (.invokevirtual 330, 3) := by decide +kernel
theorem dX12_beginSchedule_68 : decode cX12_beginSchedule 68 = .ok (.aload_n 0, 1) := by decide +kernel
theorem dX12_beginSchedule_69 : decode cX12_beginSchedule 69 = .ok (.aload_n 0, 1) := by decide +kernel
theorem dX12_beginSchedule_70 : decode cX12_beginSchedule 70 = .ok (.getfield 133, 3) := by decide +kernel
theorem dX12_beginSchedule_73 : decode cX12_beginSchedule 73 = .ok (.iconst 0, 1) := by decide +kernel
theorem dX12_beginSchedule_74 : decode cX12_beginSchedule 74 = .ok (.bipush 32, 2) := by decide +kernel
theorem dX12_beginSchedule_76 : decode cX12_beginSchedule 76 = .ok (.aload_n 0, 1) := by decide +kernel
theorem dX12_beginSchedule_77 : decode cX12_beginSchedule 77 = .ok (.getfield 121, 3) := by decide +kernel
theorem dX12_beginSchedule_80 : decode cX12_beginSchedule 80 = .ok (.iconst 0, 1) := by decide +kernel
theorem dX12_beginSchedule_81 : decode cX12_beginSchedule 81 = .ok (.bipush 32, 2) := by decide +kernel
theorem dX12_beginSchedule_83 : decode cX12_beginSchedule 83 = .ok (.aload_n 0, 1) := by decide +kernel
theorem dX12_beginSchedule_84 : decode cX12_beginSchedule 84 = .ok (.getfield 130, 3) := by decide +kernel
theorem dX12_beginSchedule_87 : decode cX12_beginSchedule 87 = .ok (.iconst 0, 1) := by decide +kernel
theorem dX12_beginSchedule_88 : decode cX12_beginSchedule 88 = .ok (.invokevirtual 326, 3) := by decide +kernel
theorem dX12_beginSchedule_91 : decode cX12_beginSchedule 91 = .ok (.aload_n 0, 1) := by decide +kernel
theorem dX12_beginSchedule_92 : decode cX12_beginSchedule 92 = .ok (.aload_n 0, 1) := by decide +kernel
theorem dX12_beginSchedule_93 : decode cX12_beginSchedule 93 = .ok (.getfield 130, 3) := by decide +kernel
theorem dX12_beginSchedule_96 : decode cX12_beginSchedule 96 = .ok (.iconst 0, 1) := by decide +kernel
theorem dX12_beginSchedule_97 : decode cX12_beginSchedule 97 = .ok (.iconst 0, 1) := by decide +kernel
theorem dX12_beginSchedule_98 : decode cX12_beginSchedule 98 = .ok (.aload_n 0, 1) := by decide +kernel
theorem dX12_beginSchedule_99 : decode cX12_beginSchedule 99 = .ok (.getfield 124, 3) := by decide +kernel
theorem dX12_beginSchedule_102 : decode cX12_beginSchedule 102 = .ok (.bipush 32, 2) := by decide +kernel
theorem dX12_beginSchedule_104 : decode cX12_beginSchedule 104 = .ok (.aload_n 0, 1) := by decide +kernel
theorem dX12_beginSchedule_105 : decode cX12_beginSchedule 105 = .ok (.getfield 133, 3) := by decide +kernel
theorem dX12_beginSchedule_108 : decode cX12_beginSchedule 108 = .ok (.iconst 0, 1) := by decide +kernel
theorem dX12_beginSchedule_109 : decode cX12_beginSchedule 109 = .ok (.bipush 32, 2) := by decide +kernel
theorem dX12_beginSchedule_111 : decode cX12_beginSchedule 111 = .ok (.invokevirtual 330, 3) := by decide +kernel
theorem dX12_beginSchedule_114 : decode cX12_beginSchedule 114 = .ok (.aload_n 0, 1) := by decide +kernel
theorem dX12_beginSchedule_115 : decode cX12_beginSchedule 115 = .ok (.aload_n 0, 1) := by decide +kernel
theorem dX12_beginSchedule_116 : decode cX12_beginSchedule 116 = .ok (.getfield 133, 3) := by decide +kernel
theorem dX12_beginSchedule_119 : decode cX12_beginSchedule 119 = .ok (.iconst 0, 1) := by decide +kernel
theorem dX12_beginSchedule_120 : decode cX12_beginSchedule 120 = .ok (.bipush 32, 2) := by decide +kernel
theorem dX12_beginSchedule_122 : decode cX12_beginSchedule 122 = .ok (.aload_n 0, 1) := by decide +kernel
theorem dX12_beginSchedule_123 : decode cX12_beginSchedule 123 = .ok (.getfield 121, 3) := by decide +kernel
theorem dX12_beginSchedule_126 : decode cX12_beginSchedule 126 = .ok (.iconst 0, 1) := by decide +kernel
theorem dX12_beginSchedule_127 : decode cX12_beginSchedule 127 = .ok (.bipush 32, 2) := by decide +kernel
theorem dX12_beginSchedule_129 : decode cX12_beginSchedule 129 = .ok (.aload_n 0, 1) := by decide +kernel
theorem dX12_beginSchedule_130 : decode cX12_beginSchedule 130 = .ok (.getfield 82, 3) := by decide +kernel
theorem dX12_beginSchedule_133 : decode cX12_beginSchedule 133 = .ok (.bipush 32, 2) := by decide +kernel
theorem dX12_beginSchedule_135 : decode cX12_beginSchedule 135 = .ok (.iload_n 1, 1) := by decide +kernel
theorem dX12_beginSchedule_136 : decode cX12_beginSchedule 136 = .ok (.imul, 1) := by decide +kernel
theorem dX12_beginSchedule_137 : decode cX12_beginSchedule 137 = .ok (.invokevirtual 326, 3) := by decide +kernel
theorem dX12_beginSchedule_140 : decode cX12_beginSchedule 140 = .ok (.return_, 1) := by decide +kernel
theorem dX12_hear_0 : decode cX12_hear 0 = .ok (.aload_n 0, 1) := by decide +kernel
theorem dX12_hear_1 : decode cX12_hear 1 = .ok (.aload_n 0, 1) := by decide +kernel
theorem dX12_hear_2 : decode cX12_hear 2 = .ok (.getfield 67, 3) := by decide +kernel
theorem dX12_hear_5 : decode cX12_hear 5 = .ok (.sipush 400, 3) := by decide +kernel
theorem dX12_hear_8 : decode cX12_hear 8 = .ok (.iload_n 1, 1) := by decide +kernel
theorem dX12_hear_9 : decode cX12_hear 9 = .ok (.imul, 1) := by decide +kernel
theorem dX12_hear_10 : decode cX12_hear 10 = .ok (.aload_n 0, 1) := by decide +kernel
theorem dX12_hear_11 : decode cX12_hear 11 = .ok (.getfield 70, 3) := by decide +kernel
theorem dX12_hear_14 : decode cX12_hear 14 = .ok (.iload_n 1, 1) := by decide +kernel
theorem dX12_hear_15 : decode cX12_hear 15 = .ok (.iaload, 1) := by decide +kernel
theorem dX12_hear_16 : decode cX12_hear 16 = .ok (.aload_n 0, 1) := by decide +kernel
theorem dX12_hear_17 : decode cX12_hear 17 = .ok (.getfield 136, 3) := by decide +kernel
theorem dX12_hear_20 : decode cX12_hear 20 = .ok (.iconst 0, 1) := by decide +kernel
theorem dX12_hear_21 : decode cX12_hear 21 = .ok (.invokevirtual 283, 3) := by decide +kernel
theorem dX12_hear_24 : decode cX12_hear 24 = .ok (.return_, 1) := by decide +kernel
theorem dX12_append_0 : decode cX12_append 0 = .ok (.aload_n 2, 1) := by decide +kernel
theorem dX12_append_1 : decode cX12_append 1 = .ok (.iload_n 3, 1) := by decide +kernel
theorem dX12_append_2 : decode cX12_append 2 = .ok (.aload_n 0, 1) := by decide +kernel
theorem dX12_append_3 : decode cX12_append 3 = .ok (.getfield 67, 3) := by decide +kernel
theorem dX12_append_6 : decode cX12_append 6 = .ok (.sipush 400, 3) := by decide +kernel
theorem dX12_append_9 : decode cX12_append 9 = .ok (.iload_n 1, 1) := by decide +kernel
theorem dX12_append_10 : decode cX12_append 10 = .ok (.imul, 1) := by decide +kernel
theorem dX12_append_11 : decode cX12_append 11 = .ok (.aload_n 0, 1) := by decide +kernel
theorem dX12_append_12 : decode cX12_append 12 = .ok (.getfield 70, 3) := by decide +kernel
theorem dX12_append_15 : decode cX12_append 15 = .ok (.iload_n 1, 1) := by decide +kernel
theorem dX12_append_16 : decode cX12_append 16 = .ok (.iaload, 1) := by decide +kernel
theorem dX12_append_17 : decode cX12_append 17 = .ok (.iadd, 1) := by decide +kernel
theorem dX12_append_18 : decode cX12_append 18 = .ok (.iload 4, 2) := by decide +kernel
theorem dX12_append_20 : decode cX12_append 20 = .ok (.invokestatic 279, 3) := by decide +kernel
theorem dX12_append_23 : decode cX12_append 23 = .ok (.aload_n 0, 1) := by decide +kernel
theorem dX12_append_24 : decode cX12_append 24 = .ok (.getfield 70, 3) := by decide +kernel
theorem dX12_append_27 : decode cX12_append 27 = .ok (.iload_n 1, 1) := by decide +kernel
theorem dX12_append_28 : decode cX12_append 28 = .ok (.dup2, 1) := by decide +kernel
theorem dX12_append_29 : decode cX12_append 29 = .ok (.iaload, 1) := by decide +kernel
theorem dX12_append_30 : decode cX12_append 30 = .ok (.iload 4, 2) := by decide +kernel
theorem dX12_append_32 : decode cX12_append 32 = .ok (.iadd, 1) := by decide +kernel
theorem dX12_append_33 : decode cX12_append 33 = .ok (.iastore, 1) := by decide +kernel
theorem dX12_append_34 : decode cX12_append 34 = .ok (.return_, 1) := by decide +kernel
theorem dX12_prove_0 : decode cX12_prove 0 = .ok (.aload_n 0, 1) := by decide +kernel
theorem dX12_prove_1 : decode cX12_prove 1 = .ok (.iload_n 1, 1) := by decide +kernel
theorem dX12_prove_2 : decode cX12_prove 2 = .ok (.invokevirtual 334, 3) := by decide +kernel
theorem dX12_prove_5 : decode cX12_prove 5 = .ok (.aload_n 0, 1) := by decide +kernel
theorem dX12_prove_6 : decode cX12_prove 6 = .ok (.aload_n 2, 1) := by decide +kernel
theorem dX12_prove_7 : decode cX12_prove 7 = .ok (.bipush 32, 2) := by decide +kernel
theorem dX12_prove_9 : decode cX12_prove 9 = .ok (.iload_n 1, 1) := by decide +kernel
theorem dX12_prove_10 : decode cX12_prove 10 = .ok (.imul, 1) := by decide +kernel
theorem dX12_prove_11 : decode cX12_prove 11 = .ok (.bipush 7, 2) := by decide +kernel
theorem dX12_prove_13 : decode cX12_prove 13 = .ok (.aload_n 0, 1) := by decide +kernel
theorem dX12_prove_14 : decode cX12_prove 14 = .ok (.getfield 124, 3) := by decide +kernel
theorem dX12_prove_17 : decode cX12_prove 17 = .ok (.iconst 0, 1) := by decide +kernel
theorem dX12_prove_18 : decode cX12_prove 18 = .ok (.aload_n 0, 1) := by decide +kernel
theorem dX12_prove_19 : decode cX12_prove 19 = .ok (.getfield 139, 3) := by decide +kernel
theorem dX12_prove_22 : decode cX12_prove 22 = .ok (.iconst 0, 1) := by decide +kernel
theorem dX12_prove_23 : decode cX12_prove 23 = .ok (.bipush 32, 2) := by decide +kernel
theorem dX12_prove_25 : decode cX12_prove 25 = .ok (.invokevirtual 330, 3) := by decide +kernel
theorem dX12_prove_28 : decode cX12_prove 28 = .ok (.aload_n 0, 1) := by decide +kernel
theorem dX12_prove_29 : decode cX12_prove 29 = .ok (.aload_n 0, 1) := by decide +kernel
theorem dX12_prove_30 : decode cX12_prove 30 = .ok (.getfield 139, 3) := by decide +kernel
theorem dX12_prove_33 : decode cX12_prove 33 = .ok (.iconst 0, 1) := by decide +kernel
theorem dX12_prove_34 : decode cX12_prove 34 = .ok (.bipush 32, 2) := by decide +kernel
theorem dX12_prove_36 : decode cX12_prove 36 = .ok (.aload_n 0, 1) := by decide +kernel
theorem dX12_prove_37 : decode cX12_prove 37 = .ok (.getfield 136, 3) := by decide +kernel
theorem dX12_prove_40 : decode cX12_prove 40 = .ok (.iconst 0, 1) := by decide +kernel
theorem dX12_prove_41 : decode cX12_prove 41 = .ok (.bipush 32, 2) := by decide +kernel
theorem dX12_prove_43 : decode cX12_prove 43 = .ok (.aload_n 3, 1) := by decide +kernel
theorem dX12_prove_44 : decode cX12_prove 44 = .ok (.iload 4, 2) := by decide +kernel
theorem dX12_prove_46 : decode cX12_prove 46 = .ok (.invokevirtual 326, 3) := by decide +kernel
theorem dX12_prove_49 : decode cX12_prove 49 = .ok (.return_, 1) := by decide +kernel
theorem dX12_word_0 : decode cX12_word 0 = .ok (.aload_n 0, 1) := by decide +kernel
theorem dX12_word_1 : decode cX12_word 1 = .ok (.iload_n 1, 1) := by decide +kernel
theorem dX12_word_2 : decode cX12_word 2 = .ok (.baload, 1) := by decide +kernel
theorem dX12_word_3 : decode cX12_word 3 = .ok (.sipush 255, 3) := by decide +kernel
theorem dX12_word_6 : decode cX12_word 6 = .ok (.iand, 1) := by decide +kernel
theorem dX12_word_7 : decode cX12_word 7 = .ok (.aload_n 0, 1) := by decide +kernel
theorem dX12_word_8 : decode cX12_word 8 = .ok (.iload_n 1, 1) := by decide +kernel
theorem dX12_word_9 : decode cX12_word 9 = .ok (.iconst 1, 1) := by decide +kernel
theorem dX12_word_10 : decode cX12_word 10 = .ok (.iadd, 1) := by decide +kernel
theorem dX12_word_11 : decode cX12_word 11 = .ok (.baload, 1) := by decide +kernel
theorem dX12_word_12 : decode cX12_word 12 = .ok (.sipush 255, 3) := by decide +kernel
theorem dX12_word_15 : decode cX12_word 15 = .ok (.iand, 1) := by decide +kernel
theorem dX12_word_16 : decode cX12_word 16 = .ok (.bipush 8, 2) := by decide +kernel
theorem dX12_word_18 : decode cX12_word 18 = .ok (.ishl, 1) := by decide +kernel
theorem dX12_word_19 : decode cX12_word 19 = .ok (.ior, 1) := by decide +kernel
theorem dX12_word_20 : decode cX12_word 20 = .ok (.aload_n 0, 1) := by decide +kernel
theorem dX12_word_21 : decode cX12_word 21 = .ok (.iload_n 1, 1) := by decide +kernel
theorem dX12_word_22 : decode cX12_word 22 = .ok (.iconst 2, 1) := by decide +kernel
theorem dX12_word_23 : decode cX12_word 23 = .ok (.iadd, 1) := by decide +kernel
theorem dX12_word_24 : decode cX12_word 24 = .ok (.baload, 1) := by decide +kernel
theorem dX12_word_25 : decode cX12_word 25 = .ok (.sipush 255, 3) := by decide +kernel
theorem dX12_word_28 : decode cX12_word 28 = .ok (.iand, 1) := by decide +kernel
theorem dX12_word_29 : decode cX12_word 29 = .ok (.bipush 16, 2) := by decide +kernel
theorem dX12_word_31 : decode cX12_word 31 = .ok (.ishl, 1) := by decide +kernel
theorem dX12_word_32 : decode cX12_word 32 = .ok (.ior, 1) := by decide +kernel
theorem dX12_word_33 : decode cX12_word 33 = .ok (.aload_n 0, 1) := by decide +kernel
theorem dX12_word_34 : decode cX12_word 34 = .ok (.iload_n 1, 1) := by decide +kernel
theorem dX12_word_35 : decode cX12_word 35 = .ok (.iconst 3, 1) := by decide +kernel
theorem dX12_word_36 : decode cX12_word 36 = .ok (.iadd, 1) := by decide +kernel
theorem dX12_word_37 : decode cX12_word 37 = .ok (.baload, 1) := by decide +kernel
theorem dX12_word_38 : decode cX12_word 38 = .ok (.sipush 255, 3) := by decide +kernel
theorem dX12_word_41 : decode cX12_word 41 = .ok (.iand, 1) := by decide +kernel
theorem dX12_word_42 : decode cX12_word 42 = .ok (.bipush 24, 2) := by decide +kernel
theorem dX12_word_44 : decode cX12_word 44 = .ok (.ishl, 1) := by decide +kernel
theorem dX12_word_45 : decode cX12_word 45 = .ok (.ior, 1) := by decide +kernel
theorem dX12_word_46 : decode cX12_word 46 = .ok (.ireturn, 1) := by decide +kernel
theorem dX12_quarter_0 : decode cX12_quarter 0 = .ok (.aload_n 0, 1) := by decide +kernel
theorem dX12_quarter_1 : decode cX12_quarter 1 = .ok (.getfield 142, 3) := by decide +kernel
theorem dX12_quarter_4 : decode cX12_quarter 4 = .ok (.iload_n 1, 1) := by decide +kernel
theorem dX12_quarter_5 : decode cX12_quarter 5 = .ok (.dup2, 1) := by decide +kernel
theorem dX12_quarter_6 : decode cX12_quarter 6 = .ok (.iaload, 1) := by decide +kernel
theorem dX12_quarter_7 : decode cX12_quarter 7 = .ok (.aload_n 0, 1) := by decide +kernel
theorem dX12_quarter_8 : decode cX12_quarter 8 = .ok (.getfield 142, 3) := by decide +kernel
theorem dX12_quarter_11 : decode cX12_quarter 11 = .ok (.iload_n 2, 1) := by decide +kernel
theorem dX12_quarter_12 : decode cX12_quarter 12 = .ok (.iaload, 1) := by decide +kernel
theorem dX12_quarter_13 : decode cX12_quarter 13 = .ok (.iadd, 1) := by decide +kernel
theorem dX12_quarter_14 : decode cX12_quarter 14 = .ok (.iastore, 1) := by decide +kernel
theorem dX12_quarter_15 : decode cX12_quarter 15 = .ok (.aload_n 0, 1) := by decide +kernel
theorem dX12_quarter_16 : decode cX12_quarter 16 = .ok (.getfield 142, 3) := by decide +kernel
theorem dX12_quarter_19 : decode cX12_quarter 19 = .ok (.iload 4, 2) := by decide +kernel
theorem dX12_quarter_21 : decode cX12_quarter 21 = .ok (.aload_n 0, 1) := by decide +kernel
theorem dX12_quarter_22 : decode cX12_quarter 22 = .ok (.getfield 142, 3) := by decide +kernel
theorem dX12_quarter_25 : decode cX12_quarter 25 = .ok (.iload 4, 2) := by decide +kernel
theorem dX12_quarter_27 : decode cX12_quarter 27 = .ok (.iaload, 1) := by decide +kernel
theorem dX12_quarter_28 : decode cX12_quarter 28 = .ok (.aload_n 0, 1) := by decide +kernel
theorem dX12_quarter_29 : decode cX12_quarter 29 = .ok (.getfield 142, 3) := by decide +kernel
theorem dX12_quarter_32 : decode cX12_quarter 32 = .ok (.iload_n 1, 1) := by decide +kernel
theorem dX12_quarter_33 : decode cX12_quarter 33 = .ok (.iaload, 1) := by decide +kernel
theorem dX12_quarter_34 : decode cX12_quarter 34 = .ok (.ixor, 1) := by decide +kernel
theorem dX12_quarter_35 : decode cX12_quarter 35 = .ok (.bipush 16, 2) := by decide +kernel
theorem dX12_quarter_37 : decode cX12_quarter 37 = .ok (.invokestatic 264, 3) := by decide +kernel
theorem dX12_quarter_40 : decode cX12_quarter 40 = .ok (.iastore, 1) := by decide +kernel
theorem dX12_quarter_41 : decode cX12_quarter 41 = .ok (.aload_n 0, 1) := by decide +kernel
theorem dX12_quarter_42 : decode cX12_quarter 42 = .ok (.getfield 142, 3) := by decide +kernel
theorem dX12_quarter_45 : decode cX12_quarter 45 = .ok (.iload_n 3, 1) := by decide +kernel
theorem dX12_quarter_46 : decode cX12_quarter 46 = .ok (.dup2, 1) := by decide +kernel
theorem dX12_quarter_47 : decode cX12_quarter 47 = .ok (.iaload, 1) := by decide +kernel
theorem dX12_quarter_48 : decode cX12_quarter 48 = .ok (.aload_n 0, 1) := by decide +kernel
theorem dX12_quarter_49 : decode cX12_quarter 49 = .ok (.getfield 142, 3) := by decide +kernel
theorem dX12_quarter_52 : decode cX12_quarter 52 = .ok (.iload 4, 2) := by decide +kernel
theorem dX12_quarter_54 : decode cX12_quarter 54 = .ok (.iaload, 1) := by decide +kernel
theorem dX12_quarter_55 : decode cX12_quarter 55 = .ok (.iadd, 1) := by decide +kernel
theorem dX12_quarter_56 : decode cX12_quarter 56 = .ok (.iastore, 1) := by decide +kernel
theorem dX12_quarter_57 : decode cX12_quarter 57 = .ok (.aload_n 0, 1) := by decide +kernel
theorem dX12_quarter_58 : decode cX12_quarter 58 = .ok (.getfield 142, 3) := by decide +kernel
theorem dX12_quarter_61 : decode cX12_quarter 61 = .ok (.iload_n 2, 1) := by decide +kernel
theorem dX12_quarter_62 : decode cX12_quarter 62 = .ok (.aload_n 0, 1) := by decide +kernel
theorem dX12_quarter_63 : decode cX12_quarter 63 = .ok (.getfield 142, 3) := by decide +kernel
theorem dX12_quarter_66 : decode cX12_quarter 66 = .ok (.iload_n 2, 1) := by decide +kernel
theorem dX12_quarter_67 : decode cX12_quarter 67 = .ok (.iaload, 1) := by decide +kernel
theorem dX12_quarter_68 : decode cX12_quarter 68 = .ok (.aload_n 0, 1) := by decide +kernel
theorem dX12_quarter_69 : decode cX12_quarter 69 = .ok (.getfield 142, 3) := by decide +kernel
theorem dX12_quarter_72 : decode cX12_quarter 72 = .ok (.iload_n 3, 1) := by decide +kernel
theorem dX12_quarter_73 : decode cX12_quarter 73 = .ok (.iaload, 1) := by decide +kernel
theorem dX12_quarter_74 : decode cX12_quarter 74 = .ok (.ixor, 1) := by decide +kernel
theorem dX12_quarter_75 : decode cX12_quarter 75 = .ok (.bipush 20, 2) := by decide +kernel
theorem dX12_quarter_77 : decode cX12_quarter 77 = .ok (.invokestatic 264, 3) := by decide +kernel
theorem dX12_quarter_80 : decode cX12_quarter 80 = .ok (.iastore, 1) := by decide +kernel
theorem dX12_quarter_81 : decode cX12_quarter 81 = .ok (.aload_n 0, 1) := by decide +kernel
theorem dX12_quarter_82 : decode cX12_quarter 82 = .ok (.getfield 142, 3) := by decide +kernel
theorem dX12_quarter_85 : decode cX12_quarter 85 = .ok (.iload_n 1, 1) := by decide +kernel
theorem dX12_quarter_86 : decode cX12_quarter 86 = .ok (.dup2, 1) := by decide +kernel
theorem dX12_quarter_87 : decode cX12_quarter 87 = .ok (.iaload, 1) := by decide +kernel
theorem dX12_quarter_88 : decode cX12_quarter 88 = .ok (.aload_n 0, 1) := by decide +kernel
theorem dX12_quarter_89 : decode cX12_quarter 89 = .ok (.getfield 142, 3) := by decide +kernel
theorem dX12_quarter_92 : decode cX12_quarter 92 = .ok (.iload_n 2, 1) := by decide +kernel
theorem dX12_quarter_93 : decode cX12_quarter 93 = .ok (.iaload, 1) := by decide +kernel
theorem dX12_quarter_94 : decode cX12_quarter 94 = .ok (.iadd, 1) := by decide +kernel
theorem dX12_quarter_95 : decode cX12_quarter 95 = .ok (.iastore, 1) := by decide +kernel
theorem dX12_quarter_96 : decode cX12_quarter 96 = .ok (.aload_n 0, 1) := by decide +kernel
theorem dX12_quarter_97 : decode cX12_quarter 97 = .ok (.getfield 142, 3) := by decide +kernel
theorem dX12_quarter_100 : decode cX12_quarter 100 = .ok (.iload 4, 2) := by decide +kernel
theorem dX12_quarter_102 : decode cX12_quarter 102 = .ok (.aload_n 0, 1) := by decide +kernel
theorem dX12_quarter_103 : decode cX12_quarter 103 = .ok (.getfield 142, 3) := by decide +kernel
theorem dX12_quarter_106 : decode cX12_quarter 106 = .ok (.iload 4, 2) := by decide +kernel
theorem dX12_quarter_108 : decode cX12_quarter 108 = .ok (.iaload, 1) := by decide +kernel
theorem dX12_quarter_109 : decode cX12_quarter 109 = .ok (.aload_n 0, 1) := by decide +kernel
theorem dX12_quarter_110 : decode cX12_quarter 110 = .ok (.getfield 142, 3) := by decide +kernel
theorem dX12_quarter_113 : decode cX12_quarter 113 = .ok (.iload_n 1, 1) := by decide +kernel
theorem dX12_quarter_114 : decode cX12_quarter 114 = .ok (.iaload, 1) := by decide +kernel
theorem dX12_quarter_115 : decode cX12_quarter 115 = .ok (.ixor, 1) := by decide +kernel
theorem dX12_quarter_116 : decode cX12_quarter 116 = .ok (.bipush 24, 2) := by decide +kernel
theorem dX12_quarter_118 : decode cX12_quarter 118 = .ok (.invokestatic 264, 3) := by decide +kernel
theorem dX12_quarter_121 : decode cX12_quarter 121 = .ok (.iastore, 1) := by decide +kernel
theorem dX12_quarter_122 : decode cX12_quarter 122 = .ok (.aload_n 0, 1) := by decide +kernel
theorem dX12_quarter_123 : decode cX12_quarter 123 = .ok (.getfield 142, 3) := by decide +kernel
theorem dX12_quarter_126 : decode cX12_quarter 126 = .ok (.iload_n 3, 1) := by decide +kernel
theorem dX12_quarter_127 : decode cX12_quarter 127 = .ok (.dup2, 1) := by decide +kernel
theorem dX12_quarter_128 : decode cX12_quarter 128 = .ok (.iaload, 1) := by decide +kernel
theorem dX12_quarter_129 : decode cX12_quarter 129 = .ok (.aload_n 0, 1) := by decide +kernel
theorem dX12_quarter_130 : decode cX12_quarter 130 = .ok (.getfield 142, 3) := by decide +kernel
theorem dX12_quarter_133 : decode cX12_quarter 133 = .ok (.iload 4, 2) := by decide +kernel
theorem dX12_quarter_135 : decode cX12_quarter 135 = .ok (.iaload, 1) := by decide +kernel
theorem dX12_quarter_136 : decode cX12_quarter 136 = .ok (.iadd, 1) := by decide +kernel
theorem dX12_quarter_137 : decode cX12_quarter 137 = .ok (.iastore, 1) := by decide +kernel
theorem dX12_quarter_138 : decode cX12_quarter 138 = .ok (.aload_n 0, 1) := by decide +kernel
theorem dX12_quarter_139 : decode cX12_quarter 139 = .ok (.getfield 142, 3) := by decide +kernel
theorem dX12_quarter_142 : decode cX12_quarter 142 = .ok (.iload_n 2, 1) := by decide +kernel
theorem dX12_quarter_143 : decode cX12_quarter 143 = .ok (.aload_n 0, 1) := by decide +kernel
theorem dX12_quarter_144 : decode cX12_quarter 144 = .ok (.getfield 142, 3) := by decide +kernel
theorem dX12_quarter_147 : decode cX12_quarter 147 = .ok (.iload_n 2, 1) := by decide +kernel
theorem dX12_quarter_148 : decode cX12_quarter 148 = .ok (.iaload, 1) := by decide +kernel
theorem dX12_quarter_149 : decode cX12_quarter 149 = .ok (.aload_n 0, 1) := by decide +kernel
theorem dX12_quarter_150 : decode cX12_quarter 150 = .ok (.getfield 142, 3) := by decide +kernel
theorem dX12_quarter_153 : decode cX12_quarter 153 = .ok (.iload_n 3, 1) := by decide +kernel
theorem dX12_quarter_154 : decode cX12_quarter 154 = .ok (.iaload, 1) := by decide +kernel
theorem dX12_quarter_155 : decode cX12_quarter 155 = .ok (.ixor, 1) := by decide +kernel
theorem dX12_quarter_156 : decode cX12_quarter 156 = .ok (.bipush 25, 2) := by decide +kernel
theorem dX12_quarter_158 : decode cX12_quarter 158 = .ok (.invokestatic 264, 3) := by decide +kernel
theorem dX12_quarter_161 : decode cX12_quarter 161 = .ok (.iastore, 1) := by decide +kernel
theorem dX12_quarter_162 : decode cX12_quarter 162 = .ok (.return_, 1) := by decide +kernel
theorem dX12_streamOf_0 : decode cX12_streamOf 0 = .ok (.aload_n 0, 1) := by decide +kernel
theorem dX12_streamOf_1 : decode cX12_streamOf 1 = .ok (.getfield 145, 3) := by decide +kernel
theorem dX12_streamOf_4 : decode cX12_streamOf 4 = .ok (.iconst 0, 1) := by decide +kernel
theorem dX12_streamOf_5 : decode cX12_streamOf 5 = .ok (.ldc_w 337, 3) := by decide +kernel
theorem dX12_streamOf_8 : decode cX12_streamOf 8 = .ok (.iastore, 1) := by decide +kernel
theorem dX12_streamOf_9 : decode cX12_streamOf 9 = .ok (.aload_n 0, 1) := by decide +kernel
theorem dX12_streamOf_10 : decode cX12_streamOf 10 = .ok (.getfield 145, 3) := by decide +kernel
theorem dX12_streamOf_13 : decode cX12_streamOf 13 = .ok (.iconst 1, 1) := by decide +kernel
theorem dX12_streamOf_14 : decode cX12_streamOf 14 = .ok (.ldc_w 338, 3) := by decide +kernel
theorem dX12_streamOf_17 : decode cX12_streamOf 17 = .ok (.iastore, 1) := by decide +kernel
theorem dX12_streamOf_18 : decode cX12_streamOf 18 = .ok (.aload_n 0, 1) := by decide +kernel
theorem dX12_streamOf_19 : decode cX12_streamOf 19 = .ok (.getfield 145, 3) := by decide +kernel
theorem dX12_streamOf_22 : decode cX12_streamOf 22 = .ok (.iconst 2, 1) := by decide +kernel
theorem dX12_streamOf_23 : decode cX12_streamOf 23 = .ok (.ldc_w 339, 3) := by decide +kernel
theorem dX12_streamOf_26 : decode cX12_streamOf 26 = .ok (.iastore, 1) := by decide +kernel
theorem dX12_streamOf_27 : decode cX12_streamOf 27 = .ok (.aload_n 0, 1) := by decide +kernel
theorem dX12_streamOf_28 : decode cX12_streamOf 28 = .ok (.getfield 145, 3) := by decide +kernel
theorem dX12_streamOf_31 : decode cX12_streamOf 31 = .ok (.iconst 3, 1) := by decide +kernel
theorem dX12_streamOf_32 : decode cX12_streamOf 32 = .ok (.ldc_w 340, 3) := by decide +kernel
theorem dX12_streamOf_35 : decode cX12_streamOf 35 = .ok (.iastore, 1) := by decide +kernel
theorem dX12_streamOf_36 : decode cX12_streamOf 36 = .ok (.iconst 0, 1) := by decide +kernel
theorem dX12_streamOf_37 : decode cX12_streamOf 37 = .ok (.istore_n 2, 1) := by decide +kernel
theorem dX12_streamOf_38 : decode cX12_streamOf 38 = .ok (.iload_n 2, 1) := by decide +kernel
theorem dX12_streamOf_39 : decode cX12_streamOf 39 = .ok (.bipush 8, 2) := by decide +kernel
theorem dX12_streamOf_41 : decode cX12_streamOf 41 = .ok (.if_icmp .ge 27, 3) := by decide +kernel
theorem dX12_streamOf_44 : decode cX12_streamOf 44 = .ok (.aload_n 0, 1) := by decide +kernel
theorem dX12_streamOf_45 : decode cX12_streamOf 45 = .ok (.getfield 145, 3) := by decide +kernel
theorem dX12_streamOf_48 : decode cX12_streamOf 48 = .ok (.iconst 4, 1) := by decide +kernel
theorem dX12_streamOf_49 : decode cX12_streamOf 49 = .ok (.iload_n 2, 1) := by decide +kernel
theorem dX12_streamOf_50 : decode cX12_streamOf 50 = .ok (.iadd, 1) := by decide +kernel
theorem dX12_streamOf_51 : decode cX12_streamOf 51 = .ok (.aload_n 0, 1) := by decide +kernel
theorem dX12_streamOf_52 : decode cX12_streamOf 52 = .ok (.getfield 151, 3) := by decide +kernel
theorem dX12_streamOf_55 : decode cX12_streamOf 55 = .ok (.iconst 4, 1) := by decide +kernel
theorem dX12_streamOf_56 : decode cX12_streamOf 56 = .ok (.iload_n 2, 1) := by decide +kernel
theorem dX12_streamOf_57 : decode cX12_streamOf 57 = .ok (.imul, 1) := by decide +kernel
theorem dX12_streamOf_58 : decode cX12_streamOf 58 = .ok (.invokestatic 341, 3) := by decide +kernel
theorem dX12_streamOf_61 : decode cX12_streamOf 61 = .ok (.iastore, 1) := by decide +kernel
theorem dX12_streamOf_62 : decode cX12_streamOf 62 = .ok (.iinc 2 1, 3) := by decide +kernel
theorem dX12_streamOf_65 : decode cX12_streamOf 65 = .ok (.goto (-27), 3) := by decide +kernel
theorem dX12_streamOf_68 : decode cX12_streamOf 68 = .ok (.aload_n 0, 1) := by decide +kernel
theorem dX12_streamOf_69 : decode cX12_streamOf 69 = .ok (.getfield 145, 3) := by decide +kernel
theorem dX12_streamOf_72 : decode cX12_streamOf 72 = .ok (.bipush 12, 2) := by decide +kernel
theorem dX12_streamOf_74 : decode cX12_streamOf 74 = .ok (.iload_n 1, 1) := by decide +kernel
theorem dX12_streamOf_75 : decode cX12_streamOf 75 = .ok (.iastore, 1) := by decide +kernel
theorem dX12_streamOf_76 : decode cX12_streamOf 76 = .ok (.iconst 0, 1) := by decide +kernel
theorem dX12_streamOf_77 : decode cX12_streamOf 77 = .ok (.istore_n 2, 1) := by decide +kernel
theorem dX12_streamOf_78 : decode cX12_streamOf 78 = .ok (.iload_n 2, 1) := by decide +kernel
theorem dX12_streamOf_79 : decode cX12_streamOf 79 = .ok (.iconst 3, 1) := by decide +kernel
theorem dX12_streamOf_80 : decode cX12_streamOf 80 = .ok (.if_icmp .ge 28, 3) := by decide +kernel
theorem dX12_streamOf_83 : decode cX12_streamOf 83 = .ok (.aload_n 0, 1) := by decide +kernel
theorem dX12_streamOf_84 : decode cX12_streamOf 84 = .ok (.getfield 145, 3) := by decide +kernel
theorem dX12_streamOf_87 : decode cX12_streamOf 87 = .ok (.bipush 13, 2) := by decide +kernel
theorem dX12_streamOf_89 : decode cX12_streamOf 89 = .ok (.iload_n 2, 1) := by decide +kernel
theorem dX12_streamOf_90 : decode cX12_streamOf 90 = .ok (.iadd, 1) := by decide +kernel
theorem dX12_streamOf_91 : decode cX12_streamOf 91 = .ok (.aload_n 0, 1) := by decide +kernel
theorem dX12_streamOf_92 : decode cX12_streamOf 92 = .ok (.getfield 154, 3) := by decide +kernel
theorem dX12_streamOf_95 : decode cX12_streamOf 95 = .ok (.iconst 4, 1) := by decide +kernel
theorem dX12_streamOf_96 : decode cX12_streamOf 96 = .ok (.iload_n 2, 1) := by decide +kernel
theorem dX12_streamOf_97 : decode cX12_streamOf 97 = .ok (.imul, 1) := by decide +kernel
theorem dX12_streamOf_98 : decode cX12_streamOf 98 = .ok (.invokestatic 341, 3) := by decide +kernel
theorem dX12_streamOf_101 : decode cX12_streamOf 101 = .ok (.iastore, 1) := by decide +kernel
theorem dX12_streamOf_102 : decode cX12_streamOf 102 = .ok (.iinc 2 1, 3) := by decide +kernel
theorem dX12_streamOf_105 : decode cX12_streamOf 105 = .ok (.goto (-27), 3) := by decide +kernel
theorem dX12_streamOf_108 : decode cX12_streamOf 108 = .ok (.iconst 0, 1) := by decide +kernel
theorem dX12_streamOf_109 : decode cX12_streamOf 109 = .ok (.istore_n 2, 1) := by decide +kernel
theorem dX12_streamOf_110 : decode cX12_streamOf 110 = .ok (.iload_n 2, 1) := by decide +kernel
theorem dX12_streamOf_111 : decode cX12_streamOf 111 = .ok (.bipush 16, 2) := by decide +kernel
theorem dX12_streamOf_113 : decode cX12_streamOf 113 = .ok (.if_icmp .ge 21, 3) := by decide +kernel
theorem dX12_streamOf_116 : decode cX12_streamOf 116 = .ok (.aload_n 0, 1) := by decide +kernel
theorem dX12_streamOf_117 : decode cX12_streamOf 117 = .ok (.getfield 142, 3) := by decide +kernel
theorem dX12_streamOf_120 : decode cX12_streamOf 120 = .ok (.iload_n 2, 1) := by decide +kernel
theorem dX12_streamOf_121 : decode cX12_streamOf 121 = .ok (.aload_n 0, 1) := by decide +kernel
theorem dX12_streamOf_122 : decode cX12_streamOf 122 = .ok (.getfield 145, 3) := by decide +kernel
theorem dX12_streamOf_125 : decode cX12_streamOf 125 = .ok (.iload_n 2, 1) := by decide +kernel
theorem dX12_streamOf_126 : decode cX12_streamOf 126 = .ok (.iaload, 1) := by decide +kernel
theorem dX12_streamOf_127 : decode cX12_streamOf 127 = .ok (.iastore, 1) := by decide +kernel
theorem dX12_streamOf_128 : decode cX12_streamOf 128 = .ok (.iinc 2 1, 3) := by decide +kernel
theorem dX12_streamOf_131 : decode cX12_streamOf 131 = .ok (.goto (-21), 3) := by decide +kernel
theorem dX12_streamOf_134 : decode cX12_streamOf 134 = .ok (.iconst 0, 1) := by decide +kernel
theorem dX12_streamOf_135 : decode cX12_streamOf 135 = .ok (.istore_n 2, 1) := by decide +kernel
theorem dX12_streamOf_136 : decode cX12_streamOf 136 = .ok (.iload_n 2, 1) := by decide +kernel
theorem dX12_streamOf_137 : decode cX12_streamOf 137 = .ok (.bipush 10, 2) := by decide +kernel
theorem dX12_streamOf_139 : decode cX12_streamOf 139 = .ok (.if_icmp .ge 93, 3) := by decide +kernel
theorem dX12_streamOf_142 : decode cX12_streamOf 142 = .ok (.aload_n 0, 1) := by decide +kernel
theorem dX12_streamOf_143 : decode cX12_streamOf 143 = .ok (.iconst 0, 1) := by decide +kernel
theorem dX12_streamOf_144 : decode cX12_streamOf 144 = .ok (.iconst 4, 1) := by decide +kernel
theorem dX12_streamOf_145 : decode cX12_streamOf 145 = .ok (.bipush 8, 2) := by decide +kernel
theorem dX12_streamOf_147 : decode cX12_streamOf 147 = .ok (.bipush 12, 2) := by decide +kernel
theorem dX12_streamOf_149 : decode cX12_streamOf 149 = .ok (.invokevirtual 345, 3) := by decide +kernel
theorem dX12_streamOf_152 : decode cX12_streamOf 152 = .ok (.aload_n 0, 1) := by decide +kernel
theorem dX12_streamOf_153 : decode cX12_streamOf 153 = .ok (.iconst 1, 1) := by decide +kernel
theorem dX12_streamOf_154 : decode cX12_streamOf 154 = .ok (.iconst 5, 1) := by decide +kernel
theorem dX12_streamOf_155 : decode cX12_streamOf 155 = .ok (.bipush 9, 2) := by decide +kernel
theorem dX12_streamOf_157 : decode cX12_streamOf 157 = .ok (.bipush 13, 2) := by decide +kernel
theorem dX12_streamOf_159 : decode cX12_streamOf 159 = .ok (.invokevirtual 345, 3) := by decide +kernel
theorem dX12_streamOf_162 : decode cX12_streamOf 162 = .ok (.aload_n 0, 1) := by decide +kernel
theorem dX12_streamOf_163 : decode cX12_streamOf 163 = .ok (.iconst 2, 1) := by decide +kernel
theorem dX12_streamOf_164 : decode cX12_streamOf 164 = .ok (.bipush 6, 2) := by decide +kernel
theorem dX12_streamOf_166 : decode cX12_streamOf 166 = .ok (.bipush 10, 2) := by decide +kernel
theorem dX12_streamOf_168 : decode cX12_streamOf 168 = .ok (.bipush 14, 2) := by decide +kernel
theorem dX12_streamOf_170 : decode cX12_streamOf 170 = .ok (.invokevirtual 345, 3) := by decide +kernel
theorem dX12_streamOf_173 : decode cX12_streamOf 173 = .ok (.aload_n 0, 1) := by decide +kernel
theorem dX12_streamOf_174 : decode cX12_streamOf 174 = .ok (.iconst 3, 1) := by decide +kernel
theorem dX12_streamOf_175 : decode cX12_streamOf 175 = .ok (.bipush 7, 2) := by decide +kernel
theorem dX12_streamOf_177 : decode cX12_streamOf 177 = .ok (.bipush 11, 2) := by decide +kernel
theorem dX12_streamOf_179 : decode cX12_streamOf 179 = .ok (.bipush 15, 2) := by decide +kernel
theorem dX12_streamOf_181 : decode cX12_streamOf 181 = .ok (.invokevirtual 345, 3) := by decide +kernel
theorem dX12_streamOf_184 : decode cX12_streamOf 184 = .ok (.aload_n 0, 1) := by decide +kernel
theorem dX12_streamOf_185 : decode cX12_streamOf 185 = .ok (.iconst 0, 1) := by decide +kernel
theorem dX12_streamOf_186 : decode cX12_streamOf 186 = .ok (.iconst 5, 1) := by decide +kernel
theorem dX12_streamOf_187 : decode cX12_streamOf 187 = .ok (.bipush 10, 2) := by decide +kernel
theorem dX12_streamOf_189 : decode cX12_streamOf 189 = .ok (.bipush 15, 2) := by decide +kernel
theorem dX12_streamOf_191 : decode cX12_streamOf 191 = .ok (.invokevirtual 345, 3) := by decide +kernel
theorem dX12_streamOf_194 : decode cX12_streamOf 194 = .ok (.aload_n 0, 1) := by decide +kernel
theorem dX12_streamOf_195 : decode cX12_streamOf 195 = .ok (.iconst 1, 1) := by decide +kernel
theorem dX12_streamOf_196 : decode cX12_streamOf 196 = .ok (.bipush 6, 2) := by decide +kernel
theorem dX12_streamOf_198 : decode cX12_streamOf 198 = .ok (.bipush 11, 2) := by decide +kernel
theorem dX12_streamOf_200 : decode cX12_streamOf 200 = .ok (.bipush 12, 2) := by decide +kernel
theorem dX12_streamOf_202 : decode cX12_streamOf 202 = .ok (.invokevirtual 345, 3) := by decide +kernel
theorem dX12_streamOf_205 : decode cX12_streamOf 205 = .ok (.aload_n 0, 1) := by decide +kernel
theorem dX12_streamOf_206 : decode cX12_streamOf 206 = .ok (.iconst 2, 1) := by decide +kernel
theorem dX12_streamOf_207 : decode cX12_streamOf 207 = .ok (.bipush 7, 2) := by decide +kernel
theorem dX12_streamOf_209 : decode cX12_streamOf 209 = .ok (.bipush 8, 2) := by decide +kernel
theorem dX12_streamOf_211 : decode cX12_streamOf 211 = .ok (.bipush 13, 2) := by decide +kernel
theorem dX12_streamOf_213 : decode cX12_streamOf 213 = .ok (.invokevirtual 345, 3) := by decide +kernel
theorem dX12_streamOf_216 : decode cX12_streamOf 216 = .ok (.aload_n 0, 1) := by decide +kernel
theorem dX12_streamOf_217 : decode cX12_streamOf 217 = .ok (.iconst 3, 1) := by decide +kernel
theorem dX12_streamOf_218 : decode cX12_streamOf 218 = .ok (.iconst 4, 1) := by decide +kernel
theorem dX12_streamOf_219 : decode cX12_streamOf 219 = .ok (.bipush 9, 2) := by decide +kernel
theorem dX12_streamOf_221 : decode cX12_streamOf 221 = .ok (.bipush 14, 2) := by decide +kernel
theorem dX12_streamOf_223 : decode cX12_streamOf 223 = .ok (.invokevirtual 345, 3) := by decide +kernel
theorem dX12_streamOf_226 : decode cX12_streamOf 226 = .ok (.iinc 2 1, 3) := by decide +kernel
theorem dX12_streamOf_229 : decode cX12_streamOf 229 = .ok (.goto (-93), 3) := by decide +kernel
theorem dX12_streamOf_232 : decode cX12_streamOf 232 = .ok (.iconst 0, 1) := by decide +kernel
theorem dX12_streamOf_233 : decode cX12_streamOf 233 = .ok (.istore_n 2, 1) := by decide +kernel
theorem dX12_streamOf_234 : decode cX12_streamOf 234 = .ok (.iload_n 2, 1) := by decide +kernel
theorem dX12_streamOf_235 : decode cX12_streamOf 235 = .ok (.bipush 64, 2) := by decide +kernel
theorem dX12_streamOf_237 : decode cX12_streamOf 237 = .ok (.if_icmp .ge 40, 3) := by decide +kernel
theorem dX12_streamOf_240 : decode cX12_streamOf 240 = .ok (.aload_n 0, 1) := by decide +kernel
theorem dX12_streamOf_241 : decode cX12_streamOf 241 = .ok (.getfield 148, 3) := by decide +kernel
theorem dX12_streamOf_244 : decode cX12_streamOf 244 = .ok (.iload_n 2, 1) := by decide +kernel
theorem dX12_streamOf_245 : decode cX12_streamOf 245 = .ok (.aload_n 0, 1) := by decide +kernel
theorem dX12_streamOf_246 : decode cX12_streamOf 246 = .ok (.getfield 142, 3) := by decide +kernel
theorem dX12_streamOf_249 : decode cX12_streamOf 249 = .ok (.iload_n 2, 1) := by decide +kernel
theorem dX12_streamOf_250 : decode cX12_streamOf 250 = .ok (.iconst 4, 1) := by decide +kernel
theorem dX12_streamOf_251 : decode cX12_streamOf 251 = .ok (.idiv, 1) := by decide +kernel
theorem dX12_streamOf_252 : decode cX12_streamOf 252 = .ok (.iaload, 1) := by decide +kernel
theorem dX12_streamOf_253 : decode cX12_streamOf 253 = .ok (.aload_n 0, 1) := by decide +kernel
theorem dX12_streamOf_254 : decode cX12_streamOf 254 = .ok (.getfield 145, 3) := by decide +kernel
theorem dX12_streamOf_257 : decode cX12_streamOf 257 = .ok (.iload_n 2, 1) := by decide +kernel
theorem dX12_streamOf_258 : decode cX12_streamOf 258 = .ok (.iconst 4, 1) := by decide +kernel
theorem dX12_streamOf_259 : decode cX12_streamOf 259 = .ok (.idiv, 1) := by decide +kernel
theorem dX12_streamOf_260 : decode cX12_streamOf 260 = .ok (.iaload, 1) := by decide +kernel
theorem dX12_streamOf_261 : decode cX12_streamOf 261 = .ok (.iadd, 1) := by decide +kernel
theorem dX12_streamOf_262 : decode cX12_streamOf 262 = .ok (.bipush 8, 2) := by decide +kernel
theorem dX12_streamOf_264 : decode cX12_streamOf 264 = .ok (.iload_n 2, 1) := by decide +kernel
theorem dX12_streamOf_265 : decode cX12_streamOf 265 = .ok (.iconst 4, 1) := by decide +kernel
theorem dX12_streamOf_266 : decode cX12_streamOf 266 = .ok (.irem, 1) := by decide +kernel
theorem dX12_streamOf_267 : decode cX12_streamOf 267 = .ok (.imul, 1) := by decide +kernel
theorem dX12_streamOf_268 : decode cX12_streamOf 268 = .ok (.ishr, 1) := by decide +kernel
theorem dX12_streamOf_269 : decode cX12_streamOf 269 = .ok (.i2b, 1) := by decide +kernel
theorem dX12_streamOf_270 : decode cX12_streamOf 270 = .ok (.bastore, 1) := by decide +kernel
theorem dX12_streamOf_271 : decode cX12_streamOf 271 = .ok (.iinc 2 1, 3) := by decide +kernel
theorem dX12_streamOf_274 : decode cX12_streamOf 274 = .ok (.goto (-40), 3) := by decide +kernel
theorem dX12_streamOf_277 : decode cX12_streamOf 277 = .ok (.return_, 1) := by decide +kernel
theorem dX12_cover_0 : decode cX12_cover 0 = .ok (.iconst 0, 1) := by decide +kernel
theorem dX12_cover_1 : decode cX12_cover 1 = .ok (.istore 4, 2) := by decide +kernel
theorem dX12_cover_3 : decode cX12_cover 3 = .ok (.iload 4, 2) := by decide +kernel
theorem dX12_cover_5 : decode cX12_cover 5 = .ok (.iload_n 3, 1) := by decide +kernel
theorem dX12_cover_6 : decode cX12_cover 6 = .ok (.if_icmp .ge 48, 3) := by decide +kernel
theorem dX12_cover_9 : decode cX12_cover 9 = .ok (.iload 4, 2) := by decide +kernel
theorem dX12_cover_11 : decode cX12_cover 11 = .ok (.bipush 64, 2) := by decide +kernel
theorem dX12_cover_13 : decode cX12_cover 13 = .ok (.irem, 1) := by decide +kernel
theorem dX12_cover_14 : decode cX12_cover 14 = .ok (.ifCond .ne 14, 3) := by decide +kernel
theorem dX12_cover_17 : decode cX12_cover 17 = .ok (.aload_n 0, 1) := by decide +kernel
theorem dX12_cover_18 : decode cX12_cover 18 = .ok (.iconst 1, 1) := by decide +kernel
theorem dX12_cover_19 : decode cX12_cover 19 = .ok (.iload 4, 2) := by decide +kernel
theorem dX12_cover_21 : decode cX12_cover 21 = .ok (.bipush 64, 2) := by decide +kernel
theorem dX12_cover_23 : decode cX12_cover 23 = .ok (.idiv, 1) := by decide +kernel
theorem dX12_cover_24 : decode cX12_cover 24 = .ok (.iadd, 1) := by decide +kernel
theorem dX12_cover_25 : decode cX12_cover 25 = .ok (.invokevirtual 349, 3) := by decide +kernel
theorem dX12_cover_28 : decode cX12_cover 28 = .ok (.aload_n 1, 1) := by decide +kernel
theorem dX12_cover_29 : decode cX12_cover 29 = .ok (.iload_n 2, 1) := by decide +kernel
theorem dX12_cover_30 : decode cX12_cover 30 = .ok (.iload 4, 2) := by decide +kernel
theorem dX12_cover_32 : decode cX12_cover 32 = .ok (.iadd, 1) := by decide +kernel
theorem dX12_cover_33 : decode cX12_cover 33 = .ok (.dup2, 1) := by decide +kernel
theorem dX12_cover_34 : decode cX12_cover 34 = .ok (.baload, 1) := by decide +kernel
theorem dX12_cover_35 : decode cX12_cover 35 = .ok (.aload_n 0, 1) := by decide +kernel
theorem dX12_cover_36 : decode cX12_cover 36 = .ok (.getfield 148, 3) := by decide +kernel
theorem dX12_cover_39 : decode cX12_cover 39 = .ok (.iload 4, 2) := by decide +kernel
theorem dX12_cover_41 : decode cX12_cover 41 = .ok (.bipush 64, 2) := by decide +kernel
theorem dX12_cover_43 : decode cX12_cover 43 = .ok (.irem, 1) := by decide +kernel
theorem dX12_cover_44 : decode cX12_cover 44 = .ok (.baload, 1) := by decide +kernel
theorem dX12_cover_45 : decode cX12_cover 45 = .ok (.ixor, 1) := by decide +kernel
theorem dX12_cover_46 : decode cX12_cover 46 = .ok (.i2b, 1) := by decide +kernel
theorem dX12_cover_47 : decode cX12_cover 47 = .ok (.bastore, 1) := by decide +kernel
theorem dX12_cover_48 : decode cX12_cover 48 = .ok (.iinc 4 1, 3) := by decide +kernel
theorem dX12_cover_51 : decode cX12_cover 51 = .ok (.goto (-48), 3) := by decide +kernel
theorem dX12_cover_54 : decode cX12_cover 54 = .ok (.return_, 1) := by decide +kernel
theorem dX12_part_0 : decode cX12_part 0 = .ok (.lconst 0, 1) := by decide +kernel
theorem dX12_part_1 : decode cX12_part 1 = .ok (.lstore_n 2, 1) := by decide +kernel
theorem dX12_part_2 : decode cX12_part 2 = .ok (.iconst 0, 1) := by decide +kernel
theorem dX12_part_3 : decode cX12_part 3 = .ok (.istore 4, 2) := by decide +kernel
theorem dX12_part_5 : decode cX12_part 5 = .ok (.iload 4, 2) := by decide +kernel
theorem dX12_part_7 : decode cX12_part 7 = .ok (.bipush 26, 2) := by decide +kernel
theorem dX12_part_9 : decode cX12_part 9 = .ok (.if_icmp .ge 47, 3) := by decide +kernel
theorem dX12_part_12 : decode cX12_part 12 = .ok (.iload_n 1, 1) := by decide +kernel
theorem dX12_part_13 : decode cX12_part 13 = .ok (.iload 4, 2) := by decide +kernel
theorem dX12_part_15 : decode cX12_part 15 = .ok (.iadd, 1) := by decide +kernel
theorem dX12_part_16 : decode cX12_part 16 = .ok (.istore 5, 2) := by decide +kernel
theorem dX12_part_18 : decode cX12_part 18 = .ok (.iload 5, 2) := by decide +kernel
theorem dX12_part_20 : decode cX12_part 20 = .ok (.bipush 8, 2) := by decide +kernel
theorem dX12_part_22 : decode cX12_part 22 = .ok (.idiv, 1) := by decide +kernel
theorem dX12_part_23 : decode cX12_part 23 = .ok (.aload_n 0, 1) := by decide +kernel
theorem dX12_part_24 : decode cX12_part 24 = .ok (.arraylength, 1) := by decide +kernel
theorem dX12_part_25 : decode cX12_part 25 = .ok (.if_icmp .ge 25, 3) := by decide +kernel
theorem dX12_part_28 : decode cX12_part 28 = .ok (.lload_n 2, 1) := by decide +kernel
theorem dX12_part_29 : decode cX12_part 29 = .ok (.aload_n 0, 1) := by decide +kernel
theorem dX12_part_30 : decode cX12_part 30 = .ok (.iload 5, 2) := by decide +kernel
theorem dX12_part_32 : decode cX12_part 32 = .ok (.bipush 8, 2) := by decide +kernel
theorem dX12_part_34 : decode cX12_part 34 = .ok (.idiv, 1) := by decide +kernel
theorem dX12_part_35 : decode cX12_part 35 = .ok (.baload, 1) := by decide +kernel
theorem dX12_part_36 : decode cX12_part 36 = .ok (.iload 5, 2) := by decide +kernel
theorem dX12_part_38 : decode cX12_part 38 = .ok (.bipush 8, 2) := by decide +kernel
theorem dX12_part_40 : decode cX12_part 40 = .ok (.irem, 1) := by decide +kernel
theorem dX12_part_41 : decode cX12_part 41 = .ok (.ishr, 1) := by decide +kernel
theorem dX12_part_42 : decode cX12_part 42 = .ok (.iconst 1, 1) := by decide +kernel
theorem dX12_part_43 : decode cX12_part 43 = .ok (.iand, 1) := by decide +kernel
theorem dX12_part_44 : decode cX12_part 44 = .ok (.i2l, 1) := by decide +kernel
theorem dX12_part_45 : decode cX12_part 45 = .ok (.iload 4, 2) := by decide +kernel
theorem dX12_part_47 : decode cX12_part 47 = .ok (.lshl, 1) := by decide +kernel
theorem dX12_part_48 : decode cX12_part 48 = .ok (.lor, 1) := by decide +kernel
theorem dX12_part_49 : decode cX12_part 49 = .ok (.lstore_n 2, 1) := by decide +kernel
theorem dX12_part_50 : decode cX12_part 50 = .ok (.iinc 4 1, 3) := by decide +kernel
theorem dX12_part_53 : decode cX12_part 53 = .ok (.goto (-48), 3) := by decide +kernel
theorem dX12_part_56 : decode cX12_part 56 = .ok (.lload_n 2, 1) := by decide +kernel
theorem dX12_part_57 : decode cX12_part 57 = .ok (.lreturn, 1) := by decide +kernel
theorem dX12_takeSixteen_0 : decode cX12_takeSixteen 0 = .ok (.iconst 0, 1) := by decide +kernel
theorem dX12_takeSixteen_1 : decode cX12_takeSixteen 1 = .ok (.istore_n 1, 1) := by decide +kernel
theorem dX12_takeSixteen_2 : decode cX12_takeSixteen 2 = .ok (.iload_n 1, 1) := by decide +kernel
theorem dX12_takeSixteen_3 : decode cX12_takeSixteen 3 = .ok (.iconst 5, 1) := by decide +kernel
theorem dX12_takeSixteen_4 : decode cX12_takeSixteen 4 = .ok (.if_icmp .ge 29, 3) := by decide +kernel
theorem dX12_takeSixteen_7 : decode cX12_takeSixteen 7 = .ok (.aload_n 0, 1) := by decide +kernel
theorem dX12_takeSixteen_8 : decode cX12_takeSixteen 8 = .ok (.getfield 161, 3) := by decide +kernel
theorem dX12_takeSixteen_11 : decode cX12_takeSixteen 11 = .ok (.iload_n 1, 1) := by decide +kernel
theorem dX12_takeSixteen_12 : decode cX12_takeSixteen 12 = .ok (.dup2, 1) := by decide +kernel
theorem dX12_takeSixteen_13 : decode cX12_takeSixteen 13 = .ok (.laload, 1) := by decide +kernel
theorem dX12_takeSixteen_14 : decode cX12_takeSixteen 14 = .ok (.aload_n 0, 1) := by decide +kernel
theorem dX12_takeSixteen_15 : decode cX12_takeSixteen 15 = .ok (.getfield 167, 3) := by decide +kernel
theorem dX12_takeSixteen_18 : decode cX12_takeSixteen 18 = .ok (.bipush 26, 2) := by decide +kernel
theorem dX12_takeSixteen_20 : decode cX12_takeSixteen 20 = .ok (.iload_n 1, 1) := by decide +kernel
theorem dX12_takeSixteen_21 : decode cX12_takeSixteen 21 = .ok (.imul, 1) := by decide +kernel
theorem dX12_takeSixteen_22 : decode cX12_takeSixteen 22 = .ok (.invokestatic 352, 3) := by decide +kernel
theorem dX12_takeSixteen_25 : decode cX12_takeSixteen 25 = .ok (.ladd, 1) := by decide +kernel
theorem dX12_takeSixteen_26 : decode cX12_takeSixteen 26 = .ok (.lastore, 1) := by decide +kernel
theorem dX12_takeSixteen_27 : decode cX12_takeSixteen 27 = .ok (.iinc 1 1, 3) := by decide +kernel
theorem dX12_takeSixteen_30 : decode cX12_takeSixteen 30 = .ok (.goto (-28), 3) := by decide +kernel
theorem dX12_takeSixteen_33 : decode cX12_takeSixteen 33 = .ok (.iconst 0, 1) := by decide +kernel
theorem dX12_takeSixteen_34 : decode cX12_takeSixteen 34 = .ok (.istore_n 1, 1) := by decide +kernel
theorem dX12_takeSixteen_35 : decode cX12_takeSixteen 35 = .ok (.iload_n 1, 1) := by decide +kernel
theorem dX12_takeSixteen_36 : decode cX12_takeSixteen 36 = .ok (.iconst 5, 1) := by decide +kernel
theorem dX12_takeSixteen_37 : decode cX12_takeSixteen 37 = .ok (.if_icmp .ge 85, 3) := by decide +kernel
theorem dX12_takeSixteen_40 : decode cX12_takeSixteen 40 = .ok (.lconst 0, 1) := by decide +kernel
theorem dX12_takeSixteen_41 : decode cX12_takeSixteen 41 = .ok (.lstore_n 2, 1) := by decide +kernel
theorem dX12_takeSixteen_42 : decode cX12_takeSixteen 42 = .ok (.iconst 0, 1) := by decide +kernel
theorem dX12_takeSixteen_43 : decode cX12_takeSixteen 43 = .ok (.istore 4, 2) := by decide +kernel
theorem dX12_takeSixteen_45 : decode cX12_takeSixteen 45 = .ok (.iload 4, 2) := by decide +kernel
theorem dX12_takeSixteen_47 : decode cX12_takeSixteen 47 = .ok (.iconst 5, 1) := by decide +kernel
theorem dX12_takeSixteen_48 : decode cX12_takeSixteen 48 = .ok (.if_icmp .ge 61, 3) := by decide +kernel
theorem dX12_takeSixteen_51 : decode cX12_takeSixteen 51 = .ok (.lload_n 2, 1) := by decide +kernel
theorem dX12_takeSixteen_52 : decode cX12_takeSixteen 52 = .ok (.iload 4, 2) := by decide +kernel
theorem dX12_takeSixteen_54 : decode cX12_takeSixteen 54 = .ok (.iload_n 1, 1) := by decide +kernel
theorem dX12_takeSixteen_55 : decode cX12_takeSixteen 55 = .ok (.if_icmp .gt 23, 3) := by decide +kernel
theorem dX12_takeSixteen_58 : decode cX12_takeSixteen 58 = .ok (.aload_n 0, 1) := by decide +kernel
theorem dX12_takeSixteen_59 : decode cX12_takeSixteen 59 = .ok (.getfield 161, 3) := by decide +kernel
theorem dX12_takeSixteen_62 : decode cX12_takeSixteen 62 = .ok (.iload 4, 2) := by decide +kernel
theorem dX12_takeSixteen_64 : decode cX12_takeSixteen 64 = .ok (.laload, 1) := by decide +kernel
theorem dX12_takeSixteen_65 : decode cX12_takeSixteen 65 = .ok (.aload_n 0, 1) := by decide +kernel
theorem dX12_takeSixteen_66 : decode cX12_takeSixteen 66 = .ok (.getfield 157, 3) := by decide +kernel
theorem dX12_takeSixteen_69 : decode cX12_takeSixteen 69 = .ok (.iload_n 1, 1) := by decide +kernel
theorem dX12_takeSixteen_70 : decode cX12_takeSixteen 70 = .ok (.iload 4, 2) := by decide +kernel
theorem dX12_takeSixteen_72 : decode cX12_takeSixteen 72 = .ok (.isub, 1) := by decide +kernel
theorem dX12_takeSixteen_73 : decode cX12_takeSixteen 73 = .ok (.laload, 1) := by decide +kernel
theorem dX12_takeSixteen_74 : decode cX12_takeSixteen 74 = .ok (.lmul, 1) := by decide +kernel
theorem dX12_takeSixteen_75 : decode cX12_takeSixteen 75 = .ok (.goto 26, 3) := by decide +kernel
theorem dX12_takeSixteen_78 : decode cX12_takeSixteen 78 = .ok (.ldc2_w 356, 3) := by decide +kernel
theorem dX12_takeSixteen_81 : decode cX12_takeSixteen 81 = .ok (.aload_n 0, 1) := by decide +kernel
theorem dX12_takeSixteen_82 : decode cX12_takeSixteen 82 = .ok (.getfield 161, 3) := by decide +kernel
theorem dX12_takeSixteen_85 : decode cX12_takeSixteen 85 = .ok (.iload 4, 2) := by decide +kernel
theorem dX12_takeSixteen_87 : decode cX12_takeSixteen 87 = .ok (.laload, 1) := by decide +kernel
theorem dX12_takeSixteen_88 : decode cX12_takeSixteen 88 = .ok (.lmul, 1) := by decide +kernel
theorem dX12_takeSixteen_89 : decode cX12_takeSixteen 89 = .ok (.aload_n 0, 1) := by decide +kernel
theorem dX12_takeSixteen_90 : decode cX12_takeSixteen 90 = .ok (.getfield 157, 3) := by decide +kernel
theorem dX12_takeSixteen_93 : decode cX12_takeSixteen 93 = .ok (.iconst 5, 1) := by decide +kernel
theorem dX12_takeSixteen_94 : decode cX12_takeSixteen 94 = .ok (.iload_n 1, 1) := by decide +kernel
theorem dX12_takeSixteen_95 : decode cX12_takeSixteen 95 = .ok (.iadd, 1) := by decide +kernel
theorem dX12_takeSixteen_96 : decode cX12_takeSixteen 96 = .ok (.iload 4, 2) := by decide +kernel
theorem dX12_takeSixteen_98 : decode cX12_takeSixteen 98 = .ok (.isub, 1) := by decide +kernel
theorem dX12_takeSixteen_99 : decode cX12_takeSixteen 99 = .ok (.laload, 1) := by decide +kernel
theorem dX12_takeSixteen_100 : decode cX12_takeSixteen 100 = .ok (.lmul, 1) := by decide +kernel
theorem dX12_takeSixteen_101 : decode cX12_takeSixteen 101 = .ok (.ladd, 1) := by decide +kernel
theorem dX12_takeSixteen_102 : decode cX12_takeSixteen 102 = .ok (.lstore_n 2, 1) := by decide +kernel
theorem dX12_takeSixteen_103 : decode cX12_takeSixteen 103 = .ok (.iinc 4 1, 3) := by decide +kernel
theorem dX12_takeSixteen_106 : decode cX12_takeSixteen 106 = .ok (.goto (-61), 3) := by decide +kernel
theorem dX12_takeSixteen_109 : decode cX12_takeSixteen 109 = .ok (.aload_n 0, 1) := by decide +kernel
theorem dX12_takeSixteen_110 : decode cX12_takeSixteen 110 = .ok (.getfield 164, 3) := by decide +kernel
theorem dX12_takeSixteen_113 : decode cX12_takeSixteen 113 = .ok (.iload_n 1, 1) := by decide +kernel
theorem dX12_takeSixteen_114 : decode cX12_takeSixteen 114 = .ok (.lload_n 2, 1) := by decide +kernel
theorem dX12_takeSixteen_115 : decode cX12_takeSixteen 115 = .ok (.lastore, 1) := by decide +kernel
theorem dX12_takeSixteen_116 : decode cX12_takeSixteen 116 = .ok (.iinc 1 1, 3) := by decide +kernel
theorem dX12_takeSixteen_119 : decode cX12_takeSixteen 119 = .ok (.goto (-84), 3) := by decide +kernel
theorem dX12_takeSixteen_122 : decode cX12_takeSixteen 122 = .ok (.lconst 0, 1) := by decide +kernel
theorem dX12_takeSixteen_123 : decode cX12_takeSixteen 123 = .ok (.lstore_n 1, 1) := by decide +kernel
theorem dX12_takeSixteen_124 : decode cX12_takeSixteen 124 = .ok (.iconst 0, 1) := by decide +kernel
theorem dX12_takeSixteen_125 : decode cX12_takeSixteen 125 = .ok (.istore_n 3, 1) := by decide +kernel
theorem dX12_takeSixteen_126 : decode cX12_takeSixteen 126 = .ok (.iload_n 3, 1) := by decide +kernel
theorem dX12_takeSixteen_127 : decode cX12_takeSixteen 127 = .ok (.iconst 5, 1) := by decide +kernel
theorem dX12_takeSixteen_128 : decode cX12_takeSixteen 128 = .ok (.if_icmp .ge 37, 3) := by decide +kernel
theorem dX12_takeSixteen_131 : decode cX12_takeSixteen 131 = .ok (.aload_n 0, 1) := by decide +kernel
theorem dX12_takeSixteen_132 : decode cX12_takeSixteen 132 = .ok (.getfield 164, 3) := by decide +kernel
theorem dX12_takeSixteen_135 : decode cX12_takeSixteen 135 = .ok (.iload_n 3, 1) := by decide +kernel
theorem dX12_takeSixteen_136 : decode cX12_takeSixteen 136 = .ok (.laload, 1) := by decide +kernel
theorem dX12_takeSixteen_137 : decode cX12_takeSixteen 137 = .ok (.lload_n 1, 1) := by decide +kernel
theorem dX12_takeSixteen_138 : decode cX12_takeSixteen 138 = .ok (.ladd, 1) := by decide +kernel
theorem dX12_takeSixteen_139 : decode cX12_takeSixteen 139 = .ok (.lstore 4, 2) := by decide +kernel
theorem dX12_takeSixteen_141 : decode cX12_takeSixteen 141 = .ok (.aload_n 0, 1) := by decide +kernel
theorem dX12_takeSixteen_142 : decode cX12_takeSixteen 142 = .ok (.getfield 161, 3) := by decide +kernel
theorem dX12_takeSixteen_145 : decode cX12_takeSixteen 145 = .ok (.iload_n 3, 1) := by decide +kernel
theorem dX12_takeSixteen_146 : decode cX12_takeSixteen 146 = .ok (.lload 4, 2) := by decide +kernel
theorem dX12_takeSixteen_148 : decode cX12_takeSixteen 148 = .ok (.ldc2_w 358, 3) := by decide +kernel
theorem dX12_takeSixteen_151 : decode cX12_takeSixteen 151 = .ok (.land, 1) := by decide +kernel
theorem dX12_takeSixteen_152 : decode cX12_takeSixteen 152 = .ok (.lastore, 1) := by decide +kernel
theorem dX12_takeSixteen_153 : decode cX12_takeSixteen 153 = .ok (.lload 4, 2) := by decide +kernel
theorem dX12_takeSixteen_155 : decode cX12_takeSixteen 155 = .ok (.bipush 26, 2) := by decide +kernel
theorem dX12_takeSixteen_157 : decode cX12_takeSixteen 157 = .ok (.lshr, 1) := by decide +kernel
theorem dX12_takeSixteen_158 : decode cX12_takeSixteen 158 = .ok (.lstore_n 1, 1) := by decide +kernel
theorem dX12_takeSixteen_159 : decode cX12_takeSixteen 159 = .ok (.iinc 3 1, 3) := by decide +kernel
theorem dX12_takeSixteen_162 : decode cX12_takeSixteen 162 = .ok (.goto (-36), 3) := by decide +kernel
theorem dX12_takeSixteen_165 : decode cX12_takeSixteen 165 = .ok (.aload_n 0, 1) := by decide +kernel
theorem dX12_takeSixteen_166 : decode cX12_takeSixteen 166 = .ok (.getfield 161, 3) := by decide +kernel
theorem dX12_takeSixteen_169 : decode cX12_takeSixteen 169 = .ok (.iconst 0, 1) := by decide +kernel
theorem dX12_takeSixteen_170 : decode cX12_takeSixteen 170 = .ok (.dup2, 1) := by decide +kernel
theorem dX12_takeSixteen_171 : decode cX12_takeSixteen 171 = .ok (.laload, 1) := by decide +kernel
theorem dX12_takeSixteen_172 : decode cX12_takeSixteen 172 = .ok (.ldc2_w 356, 3) := by decide +kernel
theorem dX12_takeSixteen_175 : decode cX12_takeSixteen 175 = .ok (.lload_n 1, 1) := by decide +kernel
theorem dX12_takeSixteen_176 : decode cX12_takeSixteen 176 = .ok (.lmul, 1) := by decide +kernel
theorem dX12_takeSixteen_177 : decode cX12_takeSixteen 177 = .ok (.ladd, 1) := by decide +kernel
theorem dX12_takeSixteen_178 : decode cX12_takeSixteen 178 = .ok (.lastore, 1) := by decide +kernel
theorem dX12_takeSixteen_179 : decode cX12_takeSixteen 179 = .ok (.aload_n 0, 1) := by decide +kernel
theorem dX12_takeSixteen_180 : decode cX12_takeSixteen 180 = .ok (.getfield 161, 3) := by decide +kernel
theorem dX12_takeSixteen_183 : decode cX12_takeSixteen 183 = .ok (.iconst 1, 1) := by decide +kernel
theorem dX12_takeSixteen_184 : decode cX12_takeSixteen 184 = .ok (.dup2, 1) := by decide +kernel
theorem dX12_takeSixteen_185 : decode cX12_takeSixteen 185 = .ok (.laload, 1) := by decide +kernel
theorem dX12_takeSixteen_186 : decode cX12_takeSixteen 186 = .ok (.aload_n 0, 1) := by decide +kernel
theorem dX12_takeSixteen_187 : decode cX12_takeSixteen 187 = .ok (.getfield 161, 3) := by decide +kernel
theorem dX12_takeSixteen_190 : decode cX12_takeSixteen 190 = .ok (.iconst 0, 1) := by decide +kernel
theorem dX12_takeSixteen_191 : decode cX12_takeSixteen 191 = .ok (.laload, 1) := by decide +kernel
theorem dX12_takeSixteen_192 : decode cX12_takeSixteen 192 = .ok (.bipush 26, 2) := by decide +kernel
theorem dX12_takeSixteen_194 : decode cX12_takeSixteen 194 = .ok (.lshr, 1) := by decide +kernel
theorem dX12_takeSixteen_195 : decode cX12_takeSixteen 195 = .ok (.ladd, 1) := by decide +kernel
theorem dX12_takeSixteen_196 : decode cX12_takeSixteen 196 = .ok (.lastore, 1) := by decide +kernel
theorem dX12_takeSixteen_197 : decode cX12_takeSixteen 197 = .ok (.aload_n 0, 1) := by decide +kernel
theorem dX12_takeSixteen_198 : decode cX12_takeSixteen 198 = .ok (.getfield 161, 3) := by decide +kernel
theorem dX12_takeSixteen_201 : decode cX12_takeSixteen 201 = .ok (.iconst 0, 1) := by decide +kernel
theorem dX12_takeSixteen_202 : decode cX12_takeSixteen 202 = .ok (.dup2, 1) := by decide +kernel
theorem dX12_takeSixteen_203 : decode cX12_takeSixteen 203 = .ok (.laload, 1) := by decide +kernel
theorem dX12_takeSixteen_204 : decode cX12_takeSixteen 204 = .ok (.ldc2_w 358, 3) := by decide +kernel
theorem dX12_takeSixteen_207 : decode cX12_takeSixteen 207 = .ok (.land, 1) := by decide +kernel
theorem dX12_takeSixteen_208 : decode cX12_takeSixteen 208 = .ok (.lastore, 1) := by decide +kernel
theorem dX12_takeSixteen_209 : decode cX12_takeSixteen 209 = .ok (.return_, 1) := by decide +kernel
theorem dX12_take_0 : decode cX12_take 0 = .ok (.iconst 0, 1) := by decide +kernel
theorem dX12_take_1 : decode cX12_take 1 = .ok (.istore 4, 2) := by decide +kernel
theorem dX12_take_3 : decode cX12_take 3 = .ok (.iload 4, 2) := by decide +kernel
theorem dX12_take_5 : decode cX12_take 5 = .ok (.iload_n 3, 1) := by decide +kernel
theorem dX12_take_6 : decode cX12_take 6 = .ok (.if_icmp .ge 66, 3) := by decide +kernel
theorem dX12_take_9 : decode cX12_take 9 = .ok (.iconst 0, 1) := by decide +kernel
theorem dX12_take_10 : decode cX12_take 10 = .ok (.istore 5, 2) := by decide +kernel
theorem dX12_take_12 : decode cX12_take 12 = .ok (.iload 5, 2) := by decide +kernel
theorem dX12_take_14 : decode cX12_take 14 = .ok (.bipush 16, 2) := by decide +kernel
theorem dX12_take_16 : decode cX12_take 16 = .ok (.if_icmp .ge 38, 3) := by decide +kernel
theorem dX12_take_19 : decode cX12_take 19 = .ok (.aload_n 0, 1) := by decide +kernel
theorem dX12_take_20 : decode cX12_take 20 = .ok (.getfield 167, 3) := by decide +kernel
theorem dX12_take_23 : decode cX12_take 23 = .ok (.iload 5, 2) := by decide +kernel
theorem dX12_take_25 : decode cX12_take 25 = .ok (.iload 4, 2) := by decide +kernel
theorem dX12_take_27 : decode cX12_take 27 = .ok (.iload 5, 2) := by decide +kernel
theorem dX12_take_29 : decode cX12_take 29 = .ok (.iadd, 1) := by decide +kernel
theorem dX12_take_30 : decode cX12_take 30 = .ok (.iload_n 3, 1) := by decide +kernel
theorem dX12_take_31 : decode cX12_take 31 = .ok (.if_icmp .ge 15, 3) := by decide +kernel
theorem dX12_take_34 : decode cX12_take 34 = .ok (.aload_n 1, 1) := by decide +kernel
theorem dX12_take_35 : decode cX12_take 35 = .ok (.iload_n 2, 1) := by decide +kernel
theorem dX12_take_36 : decode cX12_take 36 = .ok (.iload 4, 2) := by decide +kernel
theorem dX12_take_38 : decode cX12_take 38 = .ok (.iadd, 1) := by decide +kernel
theorem dX12_take_39 : decode cX12_take 39 = .ok (.iload 5, 2) := by decide +kernel
theorem dX12_take_41 : decode cX12_take 41 = .ok (.iadd, 1) := by decide +kernel
theorem dX12_take_42 : decode cX12_take 42 = .ok (.baload, 1) := by decide +kernel
theorem dX12_take_43 : decode cX12_take 43 = .ok (.goto 4, 3) := by decide +kernel
theorem dX12_take_46 : decode cX12_take 46 = .ok (.iconst 0, 1) := by decide +kernel
theorem dX12_take_47 : decode cX12_take 47 = .ok (.bastore, 1) := by decide +kernel
theorem dX12_take_48 : decode cX12_take 48 = .ok (.iinc 5 1, 3) := by decide +kernel
theorem dX12_take_51 : decode cX12_take 51 = .ok (.goto (-39), 3) := by decide +kernel
theorem dX12_take_54 : decode cX12_take 54 = .ok (.aload_n 0, 1) := by decide +kernel
theorem dX12_take_55 : decode cX12_take 55 = .ok (.getfield 167, 3) := by decide +kernel
theorem dX12_take_58 : decode cX12_take 58 = .ok (.bipush 16, 2) := by decide +kernel
theorem dX12_take_60 : decode cX12_take 60 = .ok (.iconst 1, 1) := by decide +kernel
theorem dX12_take_61 : decode cX12_take 61 = .ok (.bastore, 1) := by decide +kernel
theorem dX12_take_62 : decode cX12_take 62 = .ok (.aload_n 0, 1) := by decide +kernel
theorem dX12_take_63 : decode cX12_take 63 = .ok (.invokevirtual 360, 3) := by decide +kernel
theorem dX12_take_66 : decode cX12_take 66 = .ok (.iinc 4 16, 3) := by decide +kernel
theorem dX12_take_69 : decode cX12_take 69 = .ok (.goto (-66), 3) := by decide +kernel
theorem dX12_take_72 : decode cX12_take 72 = .ok (.return_, 1) := by decide +kernel
theorem dX12_sealOf_0 : decode cX12_sealOf 0 = .ok (.aload_n 0, 1) := by decide +kernel
theorem dX12_sealOf_1 : decode cX12_sealOf 1 = .ok (.iconst 0, 1) := by decide +kernel
theorem dX12_sealOf_2 : decode cX12_sealOf 2 = .ok (.invokevirtual 349, 3) := by decide +kernel
theorem dX12_sealOf_5 : decode cX12_sealOf 5 = .ok (.iconst 0, 1) := by decide +kernel
theorem dX12_sealOf_6 : decode cX12_sealOf 6 = .ok (.istore 5, 2) := by decide +kernel
theorem dX12_sealOf_8 : decode cX12_sealOf 8 = .ok (.iload 5, 2) := by decide +kernel
theorem dX12_sealOf_10 : decode cX12_sealOf 10 = .ok (.bipush 16, 2) := by decide +kernel
theorem dX12_sealOf_12 : decode cX12_sealOf 12 = .ok (.if_icmp .ge 59, 3) := by decide +kernel
theorem dX12_sealOf_15 : decode cX12_sealOf 15 = .ok (.aload_n 0, 1) := by decide +kernel
theorem dX12_sealOf_16 : decode cX12_sealOf 16 = .ok (.getfield 167, 3) := by decide +kernel
theorem dX12_sealOf_19 : decode cX12_sealOf 19 = .ok (.iload 5, 2) := by decide +kernel
theorem dX12_sealOf_21 : decode cX12_sealOf 21 = .ok (.aload_n 0, 1) := by decide +kernel
theorem dX12_sealOf_22 : decode cX12_sealOf 22 = .ok (.getfield 148, 3) := by decide +kernel
theorem dX12_sealOf_25 : decode cX12_sealOf 25 = .ok (.iload 5, 2) := by decide +kernel
theorem dX12_sealOf_27 : decode cX12_sealOf 27 = .ok (.baload, 1) := by decide +kernel
theorem dX12_sealOf_28 : decode cX12_sealOf 28 = .ok (.iload 5, 2) := by decide +kernel
theorem dX12_sealOf_30 : decode cX12_sealOf 30 = .ok (.iconst 4, 1) := by decide +kernel
theorem dX12_sealOf_31 : decode cX12_sealOf 31 = .ok (.irem, 1) := by decide +kernel
theorem dX12_sealOf_32 : decode cX12_sealOf 32 = .ok (.iconst 3, 1) := by decide +kernel
theorem dX12_sealOf_33 : decode cX12_sealOf 33 = .ok (.if_icmp .ne 8, 3) := by decide +kernel
theorem dX12_sealOf_36 : decode cX12_sealOf 36 = .ok (.bipush 15, 2) := by decide +kernel
theorem dX12_sealOf_38 : decode cX12_sealOf 38 = .ok (.goto 24, 3) := by decide +kernel
theorem dX12_sealOf_41 : decode cX12_sealOf 41 = .ok (.iload 5, 2) := by decide +kernel
theorem dX12_sealOf_43 : decode cX12_sealOf 43 = .ok (.ifCond .le 16, 3) := by decide +kernel
theorem dX12_sealOf_46 : decode cX12_sealOf 46 = .ok (.iload 5, 2) := by decide +kernel
theorem dX12_sealOf_48 : decode cX12_sealOf 48 = .ok (.iconst 4, 1) := by decide +kernel
theorem dX12_sealOf_49 : decode cX12_sealOf 49 = .ok (.irem, 1) := by decide +kernel
theorem dX12_sealOf_50 : decode cX12_sealOf 50 = .ok (.ifCond .ne 9, 3) := by decide +kernel
theorem dX12_sealOf_53 : decode cX12_sealOf 53 = .ok (.sipush 252, 3) := by decide +kernel
theorem dX12_sealOf_56 : decode cX12_sealOf 56 = .ok (.goto 6, 3) := by decide +kernel
theorem dX12_sealOf_59 : decode cX12_sealOf 59 = .ok (.sipush 255, 3) := by decide +kernel
theorem dX12_sealOf_62 : decode cX12_sealOf 62 = .ok (.iand, 1) := by decide +kernel
theorem dX12_sealOf_63 : decode cX12_sealOf 63 = .ok (.i2b, 1) := by decide +kernel
theorem dX12_sealOf_64 : decode cX12_sealOf 64 = .ok (.bastore, 1) := by decide +kernel
theorem dX12_sealOf_65 : decode cX12_sealOf 65 = .ok (.iinc 5 1, 3) := by decide +kernel
theorem dX12_sealOf_68 : decode cX12_sealOf 68 = .ok (.goto (-60), 3) := by decide +kernel
theorem dX12_sealOf_71 : decode cX12_sealOf 71 = .ok (.aload_n 0, 1) := by decide +kernel
theorem dX12_sealOf_72 : decode cX12_sealOf 72 = .ok (.getfield 167, 3) := by decide +kernel
theorem dX12_sealOf_75 : decode cX12_sealOf 75 = .ok (.bipush 16, 2) := by decide +kernel
theorem dX12_sealOf_77 : decode cX12_sealOf 77 = .ok (.iconst 0, 1) := by decide +kernel
theorem dX12_sealOf_78 : decode cX12_sealOf 78 = .ok (.bastore, 1) := by decide +kernel
theorem dX12_sealOf_79 : decode cX12_sealOf 79 = .ok (.iconst 0, 1) := by decide +kernel
theorem dX12_sealOf_80 : decode cX12_sealOf 80 = .ok (.istore 5, 2) := by decide +kernel
theorem dX12_sealOf_82 : decode cX12_sealOf 82 = .ok (.iload 5, 2) := by decide +kernel
theorem dX12_sealOf_84 : decode cX12_sealOf 84 = .ok (.iconst 5, 1) := by decide +kernel
theorem dX12_sealOf_85 : decode cX12_sealOf 85 = .ok (.if_icmp .ge 36, 3) := by decide +kernel
theorem dX12_sealOf_88 : decode cX12_sealOf 88 = .ok (.aload_n 0, 1) := by decide +kernel
theorem dX12_sealOf_89 : decode cX12_sealOf 89 = .ok (.getfield 157, 3) := by decide +kernel
theorem dX12_sealOf_92 : decode cX12_sealOf 92 = .ok (.iload 5, 2) := by decide +kernel
theorem dX12_sealOf_94 : decode cX12_sealOf 94 = .ok (.aload_n 0, 1) := by decide +kernel
theorem dX12_sealOf_95 : decode cX12_sealOf 95 = .ok (.getfield 167, 3) := by decide +kernel
theorem dX12_sealOf_98 : decode cX12_sealOf 98 = .ok (.bipush 26, 2) := by decide +kernel
theorem dX12_sealOf_100 : decode cX12_sealOf 100 = .ok (.iload 5, 2) := by decide +kernel
theorem dX12_sealOf_102 : decode cX12_sealOf 102 = .ok (.imul, 1) := by decide +kernel
theorem dX12_sealOf_103 : decode cX12_sealOf 103 = .ok (.invokestatic 352, 3) := by decide +kernel
theorem dX12_sealOf_106 : decode cX12_sealOf 106 = .ok (.lastore, 1) := by decide +kernel
theorem dX12_sealOf_107 : decode cX12_sealOf 107 = .ok (.aload_n 0, 1) := by decide +kernel
theorem dX12_sealOf_108 : decode cX12_sealOf 108 = .ok (.getfield 161, 3) := by decide +kernel
theorem dX12_sealOf_111 : decode cX12_sealOf 111 = .ok (.iload 5, 2) := by decide +kernel
theorem dX12_sealOf_113 : decode cX12_sealOf 113 = .ok (.lconst 0, 1) := by decide +kernel
theorem dX12_sealOf_114 : decode cX12_sealOf 114 = .ok (.lastore, 1) := by decide +kernel
theorem dX12_sealOf_115 : decode cX12_sealOf 115 = .ok (.iinc 5 1, 3) := by decide +kernel
theorem dX12_sealOf_118 : decode cX12_sealOf 118 = .ok (.goto (-36), 3) := by decide +kernel
theorem dX12_sealOf_121 : decode cX12_sealOf 121 = .ok (.aload_n 0, 1) := by decide +kernel
theorem dX12_sealOf_122 : decode cX12_sealOf 122 = .ok (.aload_n 1, 1) := by decide +kernel
theorem dX12_sealOf_123 : decode cX12_sealOf 123 = .ok (.iload_n 2, 1) := by decide +kernel
theorem dX12_sealOf_124 : decode cX12_sealOf 124 = .ok (.iconst 5, 1) := by decide +kernel
theorem dX12_sealOf_125 : decode cX12_sealOf 125 = .ok (.invokevirtual 363, 3) := by decide +kernel
theorem dX12_sealOf_128 : decode cX12_sealOf 128 = .ok (.aload_n 0, 1) := by decide +kernel
theorem dX12_sealOf_129 : decode cX12_sealOf 129 = .ok (.aload_n 1, 1) := by decide +kernel
theorem dX12_sealOf_130 : decode cX12_sealOf 130 = .ok (.iload_n 3, 1) := by decide +kernel
theorem dX12_sealOf_131 : decode cX12_sealOf 131 = .ok (.iload 4, 2) := by decide +kernel
theorem dX12_sealOf_133 : decode cX12_sealOf 133 = .ok (.invokevirtual 363, 3) := by decide +kernel
theorem dX12_sealOf_136 : decode cX12_sealOf 136 = .ok (.iconst 0, 1) := by decide +kernel
theorem dX12_sealOf_137 : decode cX12_sealOf 137 = .ok (.istore 5, 2) := by decide +kernel
theorem dX12_sealOf_139 : decode cX12_sealOf 139 = .ok (.iload 5, 2) := by decide +kernel
theorem dX12_sealOf_141 : decode cX12_sealOf 141 = .ok (.bipush 16, 2) := by decide +kernel
theorem dX12_sealOf_143 : decode cX12_sealOf 143 = .ok (.if_icmp .ge 54, 3) := by decide +kernel
theorem dX12_sealOf_146 : decode cX12_sealOf 146 = .ok (.aload_n 0, 1) := by decide +kernel
theorem dX12_sealOf_147 : decode cX12_sealOf 147 = .ok (.getfield 173, 3) := by decide +kernel
theorem dX12_sealOf_150 : decode cX12_sealOf 150 = .ok (.iload 5, 2) := by decide +kernel
theorem dX12_sealOf_152 : decode cX12_sealOf 152 = .ok (.iload 5, 2) := by decide +kernel
theorem dX12_sealOf_154 : decode cX12_sealOf 154 = .ok (.ifCond .ne 7, 3) := by decide +kernel
theorem dX12_sealOf_157 : decode cX12_sealOf 157 = .ok (.iconst 5, 1) := by decide +kernel
theorem dX12_sealOf_158 : decode cX12_sealOf 158 = .ok (.goto 31, 3) := by decide +kernel
theorem dX12_sealOf_161 : decode cX12_sealOf 161 = .ok (.iload 5, 2) := by decide +kernel
theorem dX12_sealOf_163 : decode cX12_sealOf 163 = .ok (.bipush 8, 2) := by decide +kernel
theorem dX12_sealOf_165 : decode cX12_sealOf 165 = .ok (.if_icmp .ne 8, 3) := by decide +kernel
theorem dX12_sealOf_168 : decode cX12_sealOf 168 = .ok (.iload 4, 2) := by decide +kernel
theorem dX12_sealOf_170 : decode cX12_sealOf 170 = .ok (.goto 19, 3) := by decide +kernel
theorem dX12_sealOf_173 : decode cX12_sealOf 173 = .ok (.iload 5, 2) := by decide +kernel
theorem dX12_sealOf_175 : decode cX12_sealOf 175 = .ok (.bipush 9, 2) := by decide +kernel
theorem dX12_sealOf_177 : decode cX12_sealOf 177 = .ok (.if_icmp .ne 11, 3) := by decide +kernel
theorem dX12_sealOf_180 : decode cX12_sealOf 180 = .ok (.iload 4, 2) := by decide +kernel
theorem dX12_sealOf_182 : decode cX12_sealOf 182 = .ok (.bipush 8, 2) := by decide +kernel
theorem dX12_sealOf_184 : decode cX12_sealOf 184 = .ok (.ishr, 1) := by decide +kernel
theorem dX12_sealOf_185 : decode cX12_sealOf 185 = .ok (.goto 4, 3) := by decide +kernel
theorem dX12_sealOf_188 : decode cX12_sealOf 188 = .ok (.iconst 0, 1) := by decide +kernel
theorem dX12_sealOf_189 : decode cX12_sealOf 189 = .ok (.i2b, 1) := by decide +kernel
theorem dX12_sealOf_190 : decode cX12_sealOf 190 = .ok (.bastore, 1) := by decide +kernel
theorem dX12_sealOf_191 : decode cX12_sealOf 191 = .ok (.iinc 5 1, 3) := by decide +kernel
theorem dX12_sealOf_194 : decode cX12_sealOf 194 = .ok (.goto (-55), 3) := by decide +kernel
theorem dX12_sealOf_197 : decode cX12_sealOf 197 = .ok (.aload_n 0, 1) := by decide +kernel
theorem dX12_sealOf_198 : decode cX12_sealOf 198 = .ok (.aload_n 0, 1) := by decide +kernel
theorem dX12_sealOf_199 : decode cX12_sealOf 199 = .ok (.getfield 173, 3) := by decide +kernel
theorem dX12_sealOf_202 : decode cX12_sealOf 202 = .ok (.iconst 0, 1) := by decide +kernel
theorem dX12_sealOf_203 : decode cX12_sealOf 203 = .ok (.bipush 16, 2) := by decide +kernel
theorem dX12_sealOf_205 : decode cX12_sealOf 205 = .ok (.invokevirtual 363, 3) := by decide +kernel
theorem dX12_sealOf_208 : decode cX12_sealOf 208 = .ok (.aload_n 0, 1) := by decide +kernel
theorem dX12_sealOf_209 : decode cX12_sealOf 209 = .ok (.invokevirtual 367, 3) := by decide +kernel
theorem dX12_sealOf_212 : decode cX12_sealOf 212 = .ok (.lconst 0, 1) := by decide +kernel
theorem dX12_sealOf_213 : decode cX12_sealOf 213 = .ok (.lstore 5, 2) := by decide +kernel
theorem dX12_sealOf_215 : decode cX12_sealOf 215 = .ok (.iconst 0, 1) := by decide +kernel
theorem dX12_sealOf_216 : decode cX12_sealOf 216 = .ok (.istore 7, 2) := by decide +kernel
theorem dX12_sealOf_218 : decode cX12_sealOf 218 = .ok (.iload 7, 2) := by decide +kernel
theorem dX12_sealOf_220 : decode cX12_sealOf 220 = .ok (.bipush 16, 2) := by decide +kernel
theorem dX12_sealOf_222 : decode cX12_sealOf 222 = .ok (.if_icmp .ge 58, 3) := by decide +kernel
theorem dX12_sealOf_225 : decode cX12_sealOf 225 = .ok (.lload 5, 2) := by decide +kernel
theorem dX12_sealOf_227 : decode cX12_sealOf 227 = .ok (.aload_n 0, 1) := by decide +kernel
theorem dX12_sealOf_228 : decode cX12_sealOf 228 = .ok (.iload 7, 2) := by decide +kernel
theorem dX12_sealOf_230 : decode cX12_sealOf 230 = .ok (.invokevirtual 370, 3) := by decide +kernel
theorem dX12_sealOf_233 : decode cX12_sealOf 233 = .ok (.sipush 255, 3) := by decide +kernel
theorem dX12_sealOf_236 : decode cX12_sealOf 236 = .ok (.iand, 1) := by decide +kernel
theorem dX12_sealOf_237 : decode cX12_sealOf 237 = .ok (.aload_n 0, 1) := by decide +kernel
theorem dX12_sealOf_238 : decode cX12_sealOf 238 = .ok (.getfield 148, 3) := by decide +kernel
theorem dX12_sealOf_241 : decode cX12_sealOf 241 = .ok (.bipush 16, 2) := by decide +kernel
theorem dX12_sealOf_243 : decode cX12_sealOf 243 = .ok (.iload 7, 2) := by decide +kernel
theorem dX12_sealOf_245 : decode cX12_sealOf 245 = .ok (.iadd, 1) := by decide +kernel
theorem dX12_sealOf_246 : decode cX12_sealOf 246 = .ok (.baload, 1) := by decide +kernel
theorem dX12_sealOf_247 : decode cX12_sealOf 247 = .ok (.sipush 255, 3) := by decide +kernel
theorem dX12_sealOf_250 : decode cX12_sealOf 250 = .ok (.iand, 1) := by decide +kernel
theorem dX12_sealOf_251 : decode cX12_sealOf 251 = .ok (.iadd, 1) := by decide +kernel
theorem dX12_sealOf_252 : decode cX12_sealOf 252 = .ok (.i2l, 1) := by decide +kernel
theorem dX12_sealOf_253 : decode cX12_sealOf 253 = .ok (.ladd, 1) := by decide +kernel
theorem dX12_sealOf_254 : decode cX12_sealOf 254 = .ok (.lstore 5, 2) := by decide +kernel
theorem dX12_sealOf_256 : decode cX12_sealOf 256 = .ok (.aload_n 0, 1) := by decide +kernel
theorem dX12_sealOf_257 : decode cX12_sealOf 257 = .ok (.getfield 170, 3) := by decide +kernel
theorem dX12_sealOf_260 : decode cX12_sealOf 260 = .ok (.iload 7, 2) := by decide +kernel
theorem dX12_sealOf_262 : decode cX12_sealOf 262 = .ok (.lload 5, 2) := by decide +kernel
theorem dX12_sealOf_264 : decode cX12_sealOf 264 = .ok (.l2i, 1) := by decide +kernel
theorem dX12_sealOf_265 : decode cX12_sealOf 265 = .ok (.i2b, 1) := by decide +kernel
theorem dX12_sealOf_266 : decode cX12_sealOf 266 = .ok (.bastore, 1) := by decide +kernel
theorem dX12_sealOf_267 : decode cX12_sealOf 267 = .ok (.lload 5, 2) := by decide +kernel
theorem dX12_sealOf_269 : decode cX12_sealOf 269 = .ok (.bipush 8, 2) := by decide +kernel
theorem dX12_sealOf_271 : decode cX12_sealOf 271 = .ok (.lshr, 1) := by decide +kernel
theorem dX12_sealOf_272 : decode cX12_sealOf 272 = .ok (.lstore 5, 2) := by decide +kernel
theorem dX12_sealOf_274 : decode cX12_sealOf 274 = .ok (.iinc 7 1, 3) := by decide +kernel
theorem dX12_sealOf_277 : decode cX12_sealOf 277 = .ok (.goto (-59), 3) := by decide +kernel
theorem dX12_sealOf_280 : decode cX12_sealOf 280 = .ok (.return_, 1) := by decide +kernel
theorem dX12_settle_0 : decode cX12_settle 0 = .ok (.iconst 0, 1) := by decide +kernel
theorem dX12_settle_1 : decode cX12_settle 1 = .ok (.istore_n 1, 1) := by decide +kernel
theorem dX12_settle_2 : decode cX12_settle 2 = .ok (.iload_n 1, 1) := by decide +kernel
theorem dX12_settle_3 : decode cX12_settle 3 = .ok (.iconst 2, 1) := by decide +kernel
theorem dX12_settle_4 : decode cX12_settle 4 = .ok (.if_icmp .ge 75, 3) := by decide +kernel
theorem dX12_settle_7 : decode cX12_settle 7 = .ok (.lconst 0, 1) := by decide +kernel
theorem dX12_settle_8 : decode cX12_settle 8 = .ok (.lstore_n 2, 1) := by decide +kernel
theorem dX12_settle_9 : decode cX12_settle 9 = .ok (.iconst 0, 1) := by decide +kernel
theorem dX12_settle_10 : decode cX12_settle 10 = .ok (.istore 4, 2) := by decide +kernel
theorem dX12_settle_12 : decode cX12_settle 12 = .ok (.iload 4, 2) := by decide +kernel
theorem dX12_settle_14 : decode cX12_settle 14 = .ok (.iconst 5, 1) := by decide +kernel
theorem dX12_settle_15 : decode cX12_settle 15 = .ok (.if_icmp .ge 44, 3) := by decide +kernel
theorem dX12_settle_18 : decode cX12_settle 18 = .ok (.aload_n 0, 1) := by decide +kernel
theorem dX12_settle_19 : decode cX12_settle 19 = .ok (.getfield 161, 3) := by decide +kernel
theorem dX12_settle_22 : decode cX12_settle 22 = .ok (.iload 4, 2) := by decide +kernel
theorem dX12_settle_24 : decode cX12_settle 24 = .ok (.dup2, 1) := by decide +kernel
theorem dX12_settle_25 : decode cX12_settle 25 = .ok (.laload, 1) := by decide +kernel
theorem dX12_settle_26 : decode cX12_settle 26 = .ok (.lload_n 2, 1) := by decide +kernel
theorem dX12_settle_27 : decode cX12_settle 27 = .ok (.ladd, 1) := by decide +kernel
theorem dX12_settle_28 : decode cX12_settle 28 = .ok (.lastore, 1) := by decide +kernel
theorem dX12_settle_29 : decode cX12_settle 29 = .ok (.aload_n 0, 1) := by decide +kernel
theorem dX12_settle_30 : decode cX12_settle 30 = .ok (.getfield 161, 3) := by decide +kernel
theorem dX12_settle_33 : decode cX12_settle 33 = .ok (.iload 4, 2) := by decide +kernel
theorem dX12_settle_35 : decode cX12_settle 35 = .ok (.laload, 1) := by decide +kernel
theorem dX12_settle_36 : decode cX12_settle 36 = .ok (.bipush 26, 2) := by decide +kernel
theorem dX12_settle_38 : decode cX12_settle 38 = .ok (.lshr, 1) := by decide +kernel
theorem dX12_settle_39 : decode cX12_settle 39 = .ok (.lstore_n 2, 1) := by decide +kernel
theorem dX12_settle_40 : decode cX12_settle 40 = .ok (.aload_n 0, 1) := by decide +kernel
theorem dX12_settle_41 : decode cX12_settle 41 = .ok (.getfield 161, 3) := by decide +kernel
theorem dX12_settle_44 : decode cX12_settle 44 = .ok (.iload 4, 2) := by decide +kernel
theorem dX12_settle_46 : decode cX12_settle 46 = .ok (.dup2, 1) := by decide +kernel
theorem dX12_settle_47 : decode cX12_settle 47 = .ok (.laload, 1) := by decide +kernel
theorem dX12_settle_48 : decode cX12_settle 48 = .ok (.ldc2_w 358, 3) := by decide +kernel
theorem dX12_settle_51 : decode cX12_settle 51 = .ok (.land, 1) := by decide +kernel
theorem dX12_settle_52 : decode cX12_settle 52 = .ok (.lastore, 1) := by decide +kernel
theorem dX12_settle_53 : decode cX12_settle 53 = .ok (.iinc 4 1, 3) := by decide +kernel
theorem dX12_settle_56 : decode cX12_settle 56 = .ok (.goto (-44), 3) := by decide +kernel
theorem dX12_settle_59 : decode cX12_settle 59 = .ok (.aload_n 0, 1) := by decide +kernel
theorem dX12_settle_60 : decode cX12_settle 60 = .ok (.getfield 161, 3) := by decide +kernel
theorem dX12_settle_63 : decode cX12_settle 63 = .ok (.iconst 0, 1) := by decide +kernel
theorem dX12_settle_64 : decode cX12_settle 64 = .ok (.dup2, 1) := by decide +kernel
theorem dX12_settle_65 : decode cX12_settle 65 = .ok (.laload, 1) := by decide +kernel
theorem dX12_settle_66 : decode cX12_settle 66 = .ok (.ldc2_w 356, 3) := by decide +kernel
theorem dX12_settle_69 : decode cX12_settle 69 = .ok (.lload_n 2, 1) := by decide +kernel
theorem dX12_settle_70 : decode cX12_settle 70 = .ok (.lmul, 1) := by decide +kernel
theorem dX12_settle_71 : decode cX12_settle 71 = .ok (.ladd, 1) := by decide +kernel
theorem dX12_settle_72 : decode cX12_settle 72 = .ok (.lastore, 1) := by decide +kernel
theorem dX12_settle_73 : decode cX12_settle 73 = .ok (.iinc 1 1, 3) := by decide +kernel
theorem dX12_settle_76 : decode cX12_settle 76 = .ok (.goto (-74), 3) := by decide +kernel
theorem dX12_settle_79 : decode cX12_settle 79 = .ok (.ldc2_w 356, 3) := by decide +kernel
theorem dX12_settle_82 : decode cX12_settle 82 = .ok (.lstore_n 1, 1) := by decide +kernel
theorem dX12_settle_83 : decode cX12_settle 83 = .ok (.iconst 0, 1) := by decide +kernel
theorem dX12_settle_84 : decode cX12_settle 84 = .ok (.istore_n 3, 1) := by decide +kernel
theorem dX12_settle_85 : decode cX12_settle 85 = .ok (.iload_n 3, 1) := by decide +kernel
theorem dX12_settle_86 : decode cX12_settle 86 = .ok (.iconst 5, 1) := by decide +kernel
theorem dX12_settle_87 : decode cX12_settle 87 = .ok (.if_icmp .ge 45, 3) := by decide +kernel
theorem dX12_settle_90 : decode cX12_settle 90 = .ok (.aload_n 0, 1) := by decide +kernel
theorem dX12_settle_91 : decode cX12_settle 91 = .ok (.getfield 164, 3) := by decide +kernel
theorem dX12_settle_94 : decode cX12_settle 94 = .ok (.iload_n 3, 1) := by decide +kernel
theorem dX12_settle_95 : decode cX12_settle 95 = .ok (.aload_n 0, 1) := by decide +kernel
theorem dX12_settle_96 : decode cX12_settle 96 = .ok (.getfield 161, 3) := by decide +kernel
theorem dX12_settle_99 : decode cX12_settle 99 = .ok (.iload_n 3, 1) := by decide +kernel
theorem dX12_settle_100 : decode cX12_settle 100 = .ok (.laload, 1) := by decide +kernel
theorem dX12_settle_101 : decode cX12_settle 101 = .ok (.lload_n 1, 1) := by decide +kernel
theorem dX12_settle_102 : decode cX12_settle 102 = .ok (.ladd, 1) := by decide +kernel
theorem dX12_settle_103 : decode cX12_settle 103 = .ok (.lastore, 1) := by decide +kernel
theorem dX12_settle_104 : decode cX12_settle 104 = .ok (.aload_n 0, 1) := by decide +kernel
theorem dX12_settle_105 : decode cX12_settle 105 = .ok (.getfield 164, 3) := by decide +kernel
theorem dX12_settle_108 : decode cX12_settle 108 = .ok (.iload_n 3, 1) := by decide +kernel
theorem dX12_settle_109 : decode cX12_settle 109 = .ok (.laload, 1) := by decide +kernel
theorem dX12_settle_110 : decode cX12_settle 110 = .ok (.bipush 26, 2) := by decide +kernel
theorem dX12_settle_112 : decode cX12_settle 112 = .ok (.lshr, 1) := by decide +kernel
theorem dX12_settle_113 : decode cX12_settle 113 = .ok (.lstore_n 1, 1) := by decide +kernel
theorem dX12_settle_114 : decode cX12_settle 114 = .ok (.aload_n 0, 1) := by decide +kernel
theorem dX12_settle_115 : decode cX12_settle 115 = .ok (.getfield 164, 3) := by decide +kernel
theorem dX12_settle_118 : decode cX12_settle 118 = .ok (.iload_n 3, 1) := by decide +kernel
theorem dX12_settle_119 : decode cX12_settle 119 = .ok (.dup2, 1) := by decide +kernel
theorem dX12_settle_120 : decode cX12_settle 120 = .ok (.laload, 1) := by decide +kernel
theorem dX12_settle_121 : decode cX12_settle 121 = .ok (.ldc2_w 358, 3) := by decide +kernel
theorem dX12_settle_124 : decode cX12_settle 124 = .ok (.land, 1) := by decide +kernel
theorem dX12_settle_125 : decode cX12_settle 125 = .ok (.lastore, 1) := by decide +kernel
theorem dX12_settle_126 : decode cX12_settle 126 = .ok (.iinc 3 1, 3) := by decide +kernel
theorem dX12_settle_129 : decode cX12_settle 129 = .ok (.goto (-44), 3) := by decide +kernel
theorem dX12_settle_132 : decode cX12_settle 132 = .ok (.lload_n 1, 1) := by decide +kernel
theorem dX12_settle_133 : decode cX12_settle 133 = .ok (.lconst 0, 1) := by decide +kernel
theorem dX12_settle_134 : decode cX12_settle 134 = .ok (.lcmp, 1) := by decide +kernel
theorem dX12_settle_135 : decode cX12_settle 135 = .ok (.ifCond .le 28, 3) := by decide +kernel
theorem dX12_settle_138 : decode cX12_settle 138 = .ok (.iconst 0, 1) := by decide +kernel
theorem dX12_settle_139 : decode cX12_settle 139 = .ok (.istore_n 3, 1) := by decide +kernel
theorem dX12_settle_140 : decode cX12_settle 140 = .ok (.iload_n 3, 1) := by decide +kernel
theorem dX12_settle_141 : decode cX12_settle 141 = .ok (.iconst 5, 1) := by decide +kernel
theorem dX12_settle_142 : decode cX12_settle 142 = .ok (.if_icmp .ge 21, 3) := by decide +kernel
theorem dX12_settle_145 : decode cX12_settle 145 = .ok (.aload_n 0, 1) := by decide +kernel
theorem dX12_settle_146 : decode cX12_settle 146 = .ok (.getfield 161, 3) := by decide +kernel
theorem dX12_settle_149 : decode cX12_settle 149 = .ok (.iload_n 3, 1) := by decide +kernel
theorem dX12_settle_150 : decode cX12_settle 150 = .ok (.aload_n 0, 1) := by decide +kernel
theorem dX12_settle_151 : decode cX12_settle 151 = .ok (.getfield 164, 3) := by decide +kernel
theorem dX12_settle_154 : decode cX12_settle 154 = .ok (.iload_n 3, 1) := by decide +kernel
theorem dX12_settle_155 : decode cX12_settle 155 = .ok (.laload, 1) := by decide +kernel
theorem dX12_settle_156 : decode cX12_settle 156 = .ok (.lastore, 1) := by decide +kernel
theorem dX12_settle_157 : decode cX12_settle 157 = .ok (.iinc 3 1, 3) := by decide +kernel
theorem dX12_settle_160 : decode cX12_settle 160 = .ok (.goto (-20), 3) := by decide +kernel
theorem dX12_settle_163 : decode cX12_settle 163 = .ok (.return_, 1) := by decide +kernel
theorem dX12_byteOf_0 : decode cX12_byteOf 0 = .ok (.iconst 0, 1) := by decide +kernel
theorem dX12_byteOf_1 : decode cX12_byteOf 1 = .ok (.istore_n 2, 1) := by decide +kernel
theorem dX12_byteOf_2 : decode cX12_byteOf 2 = .ok (.iconst 0, 1) := by decide +kernel
theorem dX12_byteOf_3 : decode cX12_byteOf 3 = .ok (.istore_n 3, 1) := by decide +kernel
theorem dX12_byteOf_4 : decode cX12_byteOf 4 = .ok (.iload_n 3, 1) := by decide +kernel
theorem dX12_byteOf_5 : decode cX12_byteOf 5 = .ok (.bipush 8, 2) := by decide +kernel
theorem dX12_byteOf_7 : decode cX12_byteOf 7 = .ok (.if_icmp .ge 41, 3) := by decide +kernel
theorem dX12_byteOf_10 : decode cX12_byteOf 10 = .ok (.bipush 8, 2) := by decide +kernel
theorem dX12_byteOf_12 : decode cX12_byteOf 12 = .ok (.iload_n 1, 1) := by decide +kernel
theorem dX12_byteOf_13 : decode cX12_byteOf 13 = .ok (.imul, 1) := by decide +kernel
theorem dX12_byteOf_14 : decode cX12_byteOf 14 = .ok (.iload_n 3, 1) := by decide +kernel
theorem dX12_byteOf_15 : decode cX12_byteOf 15 = .ok (.iadd, 1) := by decide +kernel
theorem dX12_byteOf_16 : decode cX12_byteOf 16 = .ok (.istore 4, 2) := by decide +kernel
theorem dX12_byteOf_18 : decode cX12_byteOf 18 = .ok (.iload_n 2, 1) := by decide +kernel
theorem dX12_byteOf_19 : decode cX12_byteOf 19 = .ok (.aload_n 0, 1) := by decide +kernel
theorem dX12_byteOf_20 : decode cX12_byteOf 20 = .ok (.getfield 161, 3) := by decide +kernel
theorem dX12_byteOf_23 : decode cX12_byteOf 23 = .ok (.iload 4, 2) := by decide +kernel
theorem dX12_byteOf_25 : decode cX12_byteOf 25 = .ok (.bipush 26, 2) := by decide +kernel
theorem dX12_byteOf_27 : decode cX12_byteOf 27 = .ok (.idiv, 1) := by decide +kernel
theorem dX12_byteOf_28 : decode cX12_byteOf 28 = .ok (.laload, 1) := by decide +kernel
theorem dX12_byteOf_29 : decode cX12_byteOf 29 = .ok (.iload 4, 2) := by decide +kernel
theorem dX12_byteOf_31 : decode cX12_byteOf 31 = .ok (.bipush 26, 2) := by decide +kernel
theorem dX12_byteOf_33 : decode cX12_byteOf 33 = .ok (.irem, 1) := by decide +kernel
theorem dX12_byteOf_34 : decode cX12_byteOf 34 = .ok (.lshr, 1) := by decide +kernel
theorem dX12_byteOf_35 : decode cX12_byteOf 35 = .ok (.lconst 1, 1) := by decide +kernel
theorem dX12_byteOf_36 : decode cX12_byteOf 36 = .ok (.land, 1) := by decide +kernel
theorem dX12_byteOf_37 : decode cX12_byteOf 37 = .ok (.l2i, 1) := by decide +kernel
theorem dX12_byteOf_38 : decode cX12_byteOf 38 = .ok (.iload_n 3, 1) := by decide +kernel
theorem dX12_byteOf_39 : decode cX12_byteOf 39 = .ok (.ishl, 1) := by decide +kernel
theorem dX12_byteOf_40 : decode cX12_byteOf 40 = .ok (.ior, 1) := by decide +kernel
theorem dX12_byteOf_41 : decode cX12_byteOf 41 = .ok (.istore_n 2, 1) := by decide +kernel
theorem dX12_byteOf_42 : decode cX12_byteOf 42 = .ok (.iinc 3 1, 3) := by decide +kernel
theorem dX12_byteOf_45 : decode cX12_byteOf 45 = .ok (.goto (-41), 3) := by decide +kernel
theorem dX12_byteOf_48 : decode cX12_byteOf 48 = .ok (.iload_n 2, 1) := by decide +kernel
theorem dX12_byteOf_49 : decode cX12_byteOf 49 = .ok (.ireturn, 1) := by decide +kernel
theorem dX12_keysOf_0 : decode cX12_keysOf 0 = .ok (.aload_n 0, 1) := by decide +kernel
theorem dX12_keysOf_1 : decode cX12_keysOf 1 = .ok (.aload_n 1, 1) := by decide +kernel
theorem dX12_keysOf_2 : decode cX12_keysOf 2 = .ok (.bipush 32, 2) := by decide +kernel
theorem dX12_keysOf_4 : decode cX12_keysOf 4 = .ok (.iload_n 2, 1) := by decide +kernel
theorem dX12_keysOf_5 : decode cX12_keysOf 5 = .ok (.imul, 1) := by decide +kernel
theorem dX12_keysOf_6 : decode cX12_keysOf 6 = .ok (.iconst 5, 1) := by decide +kernel
theorem dX12_keysOf_7 : decode cX12_keysOf 7 = .ok (.aload_n 0, 1) := by decide +kernel
theorem dX12_keysOf_8 : decode cX12_keysOf 8 = .ok (.getfield 124, 3) := by decide +kernel
theorem dX12_keysOf_11 : decode cX12_keysOf 11 = .ok (.iconst 0, 1) := by decide +kernel
theorem dX12_keysOf_12 : decode cX12_keysOf 12 = .ok (.aload_n 0, 1) := by decide +kernel
theorem dX12_keysOf_13 : decode cX12_keysOf 13 = .ok (.getfield 151, 3) := by decide +kernel
theorem dX12_keysOf_16 : decode cX12_keysOf 16 = .ok (.iconst 0, 1) := by decide +kernel
theorem dX12_keysOf_17 : decode cX12_keysOf 17 = .ok (.bipush 32, 2) := by decide +kernel
theorem dX12_keysOf_19 : decode cX12_keysOf 19 = .ok (.invokevirtual 330, 3) := by decide +kernel
theorem dX12_keysOf_22 : decode cX12_keysOf 22 = .ok (.aload_n 0, 1) := by decide +kernel
theorem dX12_keysOf_23 : decode cX12_keysOf 23 = .ok (.aload_n 1, 1) := by decide +kernel
theorem dX12_keysOf_24 : decode cX12_keysOf 24 = .ok (.bipush 32, 2) := by decide +kernel
theorem dX12_keysOf_26 : decode cX12_keysOf 26 = .ok (.iload_n 2, 1) := by decide +kernel
theorem dX12_keysOf_27 : decode cX12_keysOf 27 = .ok (.imul, 1) := by decide +kernel
theorem dX12_keysOf_28 : decode cX12_keysOf 28 = .ok (.bipush 6, 2) := by decide +kernel
theorem dX12_keysOf_30 : decode cX12_keysOf 30 = .ok (.aload_n 0, 1) := by decide +kernel
theorem dX12_keysOf_31 : decode cX12_keysOf 31 = .ok (.getfield 124, 3) := by decide +kernel
theorem dX12_keysOf_34 : decode cX12_keysOf 34 = .ok (.iconst 0, 1) := by decide +kernel
theorem dX12_keysOf_35 : decode cX12_keysOf 35 = .ok (.aload_n 0, 1) := by decide +kernel
theorem dX12_keysOf_36 : decode cX12_keysOf 36 = .ok (.getfield 154, 3) := by decide +kernel
theorem dX12_keysOf_39 : decode cX12_keysOf 39 = .ok (.iconst 0, 1) := by decide +kernel
theorem dX12_keysOf_40 : decode cX12_keysOf 40 = .ok (.bipush 12, 2) := by decide +kernel
theorem dX12_keysOf_42 : decode cX12_keysOf 42 = .ok (.invokevirtual 330, 3) := by decide +kernel
theorem dX12_keysOf_45 : decode cX12_keysOf 45 = .ok (.iconst 0, 1) := by decide +kernel
theorem dX12_keysOf_46 : decode cX12_keysOf 46 = .ok (.istore 4, 2) := by decide +kernel
theorem dX12_keysOf_48 : decode cX12_keysOf 48 = .ok (.iload 4, 2) := by decide +kernel
theorem dX12_keysOf_50 : decode cX12_keysOf 50 = .ok (.iconst 4, 1) := by decide +kernel
theorem dX12_keysOf_51 : decode cX12_keysOf 51 = .ok (.if_icmp .ge 34, 3) := by decide +kernel
theorem dX12_keysOf_54 : decode cX12_keysOf 54 = .ok (.aload_n 0, 1) := by decide +kernel
theorem dX12_keysOf_55 : decode cX12_keysOf 55 = .ok (.getfield 154, 3) := by decide +kernel
theorem dX12_keysOf_58 : decode cX12_keysOf 58 = .ok (.bipush 8, 2) := by decide +kernel
theorem dX12_keysOf_60 : decode cX12_keysOf 60 = .ok (.iload 4, 2) := by decide +kernel
theorem dX12_keysOf_62 : decode cX12_keysOf 62 = .ok (.iadd, 1) := by decide +kernel
theorem dX12_keysOf_63 : decode cX12_keysOf 63 = .ok (.dup2, 1) := by decide +kernel
theorem dX12_keysOf_64 : decode cX12_keysOf 64 = .ok (.baload, 1) := by decide +kernel
theorem dX12_keysOf_65 : decode cX12_keysOf 65 = .ok (.iload_n 3, 1) := by decide +kernel
theorem dX12_keysOf_66 : decode cX12_keysOf 66 = .ok (.bipush 24, 2) := by decide +kernel
theorem dX12_keysOf_68 : decode cX12_keysOf 68 = .ok (.bipush 8, 2) := by decide +kernel
theorem dX12_keysOf_70 : decode cX12_keysOf 70 = .ok (.iload 4, 2) := by decide +kernel
theorem dX12_keysOf_72 : decode cX12_keysOf 72 = .ok (.imul, 1) := by decide +kernel
theorem dX12_keysOf_73 : decode cX12_keysOf 73 = .ok (.isub, 1) := by decide +kernel
theorem dX12_keysOf_74 : decode cX12_keysOf 74 = .ok (.ishr, 1) := by decide +kernel
theorem dX12_keysOf_75 : decode cX12_keysOf 75 = .ok (.i2b, 1) := by decide +kernel
theorem dX12_keysOf_76 : decode cX12_keysOf 76 = .ok (.ixor, 1) := by decide +kernel
theorem dX12_keysOf_77 : decode cX12_keysOf 77 = .ok (.i2b, 1) := by decide +kernel
theorem dX12_keysOf_78 : decode cX12_keysOf 78 = .ok (.bastore, 1) := by decide +kernel
theorem dX12_keysOf_79 : decode cX12_keysOf 79 = .ok (.iinc 4 1, 3) := by decide +kernel
theorem dX12_keysOf_82 : decode cX12_keysOf 82 = .ok (.goto (-34), 3) := by decide +kernel
theorem dX12_keysOf_85 : decode cX12_keysOf 85 = .ok (.return_, 1) := by decide +kernel
theorem dX12_sayByte_0 : decode cX12_sayByte 0 = .ok (.aload_n 0, 1) := by decide +kernel
theorem dX12_sayByte_1 : decode cX12_sayByte 1 = .ok (.getfield 176, 3) := by decide +kernel
theorem dX12_sayByte_4 : decode cX12_sayByte 4 = .ok (.aload_n 0, 1) := by decide +kernel
theorem dX12_sayByte_5 : decode cX12_sayByte 5 = .ok (.getfield 374, 3) := by decide +kernel
theorem dX12_sayByte_8 : decode cX12_sayByte 8 = .ok (.iload_n 1, 1) := by decide +kernel
theorem dX12_sayByte_9 : decode cX12_sayByte 9 = .ok (.i2b, 1) := by decide +kernel
theorem dX12_sayByte_10 : decode cX12_sayByte 10 = .ok (.bastore, 1) := by decide +kernel
theorem dX12_sayByte_11 : decode cX12_sayByte 11 = .ok (.aload_n 0, 1) := by decide +kernel
theorem dX12_sayByte_12 : decode cX12_sayByte 12 = .ok (.dup, 1) := by decide +kernel
theorem dX12_sayByte_13 : decode cX12_sayByte 13 = .ok (.getfield 374, 3) := by decide +kernel
theorem dX12_sayByte_16 : decode cX12_sayByte 16 = .ok (.iconst 1, 1) := by decide +kernel
theorem dX12_sayByte_17 : decode cX12_sayByte 17 = .ok (.iadd, 1) := by decide +kernel
theorem dX12_sayByte_18 : decode cX12_sayByte 18 = .ok (.putfield 374, 3) := by decide +kernel
theorem dX12_sayByte_21 : decode cX12_sayByte 21 = .ok (.return_, 1) := by decide +kernel
theorem dX12_sayTwo_0 : decode cX12_sayTwo 0 = .ok (.aload_n 0, 1) := by decide +kernel
theorem dX12_sayTwo_1 : decode cX12_sayTwo 1 = .ok (.iload_n 1, 1) := by decide +kernel
theorem dX12_sayTwo_2 : decode cX12_sayTwo 2 = .ok (.bipush 8, 2) := by decide +kernel
theorem dX12_sayTwo_4 : decode cX12_sayTwo 4 = .ok (.ishr, 1) := by decide +kernel
theorem dX12_sayTwo_5 : decode cX12_sayTwo 5 = .ok (.invokevirtual 377, 3) := by decide +kernel
theorem dX12_sayTwo_8 : decode cX12_sayTwo 8 = .ok (.aload_n 0, 1) := by decide +kernel
theorem dX12_sayTwo_9 : decode cX12_sayTwo 9 = .ok (.iload_n 1, 1) := by decide +kernel
theorem dX12_sayTwo_10 : decode cX12_sayTwo 10 = .ok (.invokevirtual 377, 3) := by decide +kernel
theorem dX12_sayTwo_13 : decode cX12_sayTwo 13 = .ok (.return_, 1) := by decide +kernel
theorem dX12_isFull_0 : decode cX12_isFull 0 = .ok (.aload_n 0, 1) := by decide +kernel
theorem dX12_isFull_1 : decode cX12_isFull 1 = .ok (.getfield 58, 3) := by decide +kernel
theorem dX12_isFull_4 : decode cX12_isFull 4 = .ok (.iload_n 1, 1) := by decide +kernel
theorem dX12_isFull_5 : decode cX12_isFull 5 = .ok (.iaload, 1) := by decide +kernel
theorem dX12_isFull_6 : decode cX12_isFull 6 = .ok (.bipush 32, 2) := by decide +kernel
theorem dX12_isFull_8 : decode cX12_isFull 8 = .ok (.if_icmp .ne 7, 3) := by decide +kernel
theorem dX12_isFull_11 : decode cX12_isFull 11 = .ok (.iconst 1, 1) := by decide +kernel
theorem dX12_isFull_12 : decode cX12_isFull 12 = .ok (.goto 4, 3) := by decide +kernel
theorem dX12_isFull_15 : decode cX12_isFull 15 = .ok (.iconst 0, 1) := by decide +kernel
theorem dX12_isFull_16 : decode cX12_isFull 16 = .ok (.ireturn, 1) := by decide +kernel
theorem dX12_writeRecord_0 : decode cX12_writeRecord 0 = .ok (.sipush 640, 3) := by decide +kernel
theorem dX12_writeRecord_3 : decode cX12_writeRecord 3 = .ok (.bipush 33, 2) := by decide +kernel
theorem dX12_writeRecord_5 : decode cX12_writeRecord 5 = .ok (.iload_n 1, 1) := by decide +kernel
theorem dX12_writeRecord_6 : decode cX12_writeRecord 6 = .ok (.imul, 1) := by decide +kernel
theorem dX12_writeRecord_7 : decode cX12_writeRecord 7 = .ok (.aload_n 0, 1) := by decide +kernel
theorem dX12_writeRecord_8 : decode cX12_writeRecord 8 = .ok (.getfield 58, 3) := by decide +kernel
theorem dX12_writeRecord_11 : decode cX12_writeRecord 11 = .ok (.iload_n 1, 1) := by decide +kernel
theorem dX12_writeRecord_12 : decode cX12_writeRecord 12 = .ok (.iaload, 1) := by decide +kernel
theorem dX12_writeRecord_13 : decode cX12_writeRecord 13 = .ok (.iadd, 1) := by decide +kernel
theorem dX12_writeRecord_14 : decode cX12_writeRecord 14 = .ok (.imul, 1) := by decide +kernel
theorem dX12_writeRecord_15 : decode cX12_writeRecord 15 = .ok (.istore_n 3, 1) := by decide +kernel
theorem dX12_writeRecord_16 : decode cX12_writeRecord 16 = .ok (.aload_n 0, 1) := by decide +kernel
theorem dX12_writeRecord_17 : decode cX12_writeRecord 17 = .ok (.getfield 85, 3) := by decide +kernel
theorem dX12_writeRecord_20 : decode cX12_writeRecord 20 = .ok (.iload_n 1, 1) := by decide +kernel
theorem dX12_writeRecord_21 : decode cX12_writeRecord 21 = .ok (.baload, 1) := by decide +kernel
theorem dX12_writeRecord_22 : decode cX12_writeRecord 22 = .ok (.ifCond .eq 13, 3) := by decide +kernel
theorem dX12_writeRecord_25 : decode cX12_writeRecord 25 = .ok (.aload_n 0, 1) := by decide +kernel
theorem dX12_writeRecord_26 : decode cX12_writeRecord 26 = .ok (.getfield 374, 3) := by decide +kernel
theorem dX12_writeRecord_29 : decode cX12_writeRecord 29 = .ok (.bipush 17, 2) := by decide +kernel
theorem dX12_writeRecord_31 : decode cX12_writeRecord 31 = .ok (.iadd, 1) := by decide +kernel
theorem dX12_writeRecord_32 : decode cX12_writeRecord 32 = .ok (.goto 7, 3) := by decide +kernel
theorem dX12_writeRecord_35 : decode cX12_writeRecord 35 = .ok (.aload_n 0, 1) := by decide +kernel
theorem dX12_writeRecord_36 : decode cX12_writeRecord 36 = .ok (.getfield 374, 3) := by decide +kernel
theorem dX12_writeRecord_39 : decode cX12_writeRecord 39 = .ok (.istore 4, 2) := by decide +kernel
theorem dX12_writeRecord_41 : decode cX12_writeRecord 41 = .ok (.aload_n 0, 1) := by decide +kernel
theorem dX12_writeRecord_42 : decode cX12_writeRecord 42 = .ok (.getfield 52, 3) := by decide +kernel
theorem dX12_writeRecord_45 : decode cX12_writeRecord 45 = .ok (.iload_n 3, 1) := by decide +kernel
theorem dX12_writeRecord_46 : decode cX12_writeRecord 46 = .ok (.aload_n 0, 1) := by decide +kernel
theorem dX12_writeRecord_47 : decode cX12_writeRecord 47 = .ok (.getfield 85, 3) := by decide +kernel
theorem dX12_writeRecord_50 : decode cX12_writeRecord 50 = .ok (.iload_n 1, 1) := by decide +kernel
theorem dX12_writeRecord_51 : decode cX12_writeRecord 51 = .ok (.baload, 1) := by decide +kernel
theorem dX12_writeRecord_52 : decode cX12_writeRecord 52 = .ok (.ifCond .eq 8, 3) := by decide +kernel
theorem dX12_writeRecord_55 : decode cX12_writeRecord 55 = .ok (.bipush 23, 2) := by decide +kernel
theorem dX12_writeRecord_57 : decode cX12_writeRecord 57 = .ok (.goto 4, 3) := by decide +kernel
theorem dX12_writeRecord_60 : decode cX12_writeRecord 60 = .ok (.iload_n 2, 1) := by decide +kernel
theorem dX12_writeRecord_61 : decode cX12_writeRecord 61 = .ok (.i2b, 1) := by decide +kernel
theorem dX12_writeRecord_62 : decode cX12_writeRecord 62 = .ok (.bastore, 1) := by decide +kernel
theorem dX12_writeRecord_63 : decode cX12_writeRecord 63 = .ok (.aload_n 0, 1) := by decide +kernel
theorem dX12_writeRecord_64 : decode cX12_writeRecord 64 = .ok (.getfield 52, 3) := by decide +kernel
theorem dX12_writeRecord_67 : decode cX12_writeRecord 67 = .ok (.iload_n 3, 1) := by decide +kernel
theorem dX12_writeRecord_68 : decode cX12_writeRecord 68 = .ok (.iconst 1, 1) := by decide +kernel
theorem dX12_writeRecord_69 : decode cX12_writeRecord 69 = .ok (.iadd, 1) := by decide +kernel
theorem dX12_writeRecord_70 : decode cX12_writeRecord 70 = .ok (.iconst 3, 1) := by decide +kernel
theorem dX12_writeRecord_71 : decode cX12_writeRecord 71 = .ok (.bastore, 1) := by decide +kernel
theorem dX12_writeRecord_72 : decode cX12_writeRecord 72 = .ok (.aload_n 0, 1) := by decide +kernel
theorem dX12_writeRecord_73 : decode cX12_writeRecord 73 = .ok (.getfield 52, 3) := by decide +kernel
theorem dX12_writeRecord_76 : decode cX12_writeRecord 76 = .ok (.iload_n 3, 1) := by decide +kernel
theorem dX12_writeRecord_77 : decode cX12_writeRecord 77 = .ok (.iconst 2, 1) := by decide +kernel
theorem dX12_writeRecord_78 : decode cX12_writeRecord 78 = .ok (.iadd, 1) := by decide +kernel
theorem dX12_writeRecord_79 : decode cX12_writeRecord 79 = .ok (.iconst 3, 1) := by decide +kernel
theorem dX12_writeRecord_80 : decode cX12_writeRecord 80 = .ok (.bastore, 1) := by decide +kernel
theorem dX12_writeRecord_81 : decode cX12_writeRecord 81 = .ok (.aload_n 0, 1) := by decide +kernel
theorem dX12_writeRecord_82 : decode cX12_writeRecord 82 = .ok (.getfield 52, 3) := by decide +kernel
theorem dX12_writeRecord_85 : decode cX12_writeRecord 85 = .ok (.iload_n 3, 1) := by decide +kernel
theorem dX12_writeRecord_86 : decode cX12_writeRecord 86 = .ok (.iconst 3, 1) := by decide +kernel
theorem dX12_writeRecord_87 : decode cX12_writeRecord 87 = .ok (.iadd, 1) := by decide +kernel
theorem dX12_writeRecord_88 : decode cX12_writeRecord 88 = .ok (.iload 4, 2) := by decide +kernel
theorem dX12_writeRecord_90 : decode cX12_writeRecord 90 = .ok (.bipush 8, 2) := by decide +kernel
theorem dX12_writeRecord_92 : decode cX12_writeRecord 92 = .ok (.ishr, 1) := by decide +kernel
theorem dX12_writeRecord_93 : decode cX12_writeRecord 93 = .ok (.i2b, 1) := by decide +kernel
theorem dX12_writeRecord_94 : decode cX12_writeRecord 94 = .ok (.bastore, 1) := by decide +kernel
theorem dX12_writeRecord_95 : decode cX12_writeRecord 95 = .ok (.aload_n 0, 1) := by decide +kernel
theorem dX12_writeRecord_96 : decode cX12_writeRecord 96 = .ok (.getfield 52, 3) := by decide +kernel
theorem dX12_writeRecord_99 : decode cX12_writeRecord 99 = .ok (.iload_n 3, 1) := by decide +kernel
theorem dX12_writeRecord_100 : decode cX12_writeRecord 100 = .ok (.iconst 4, 1) := by decide +kernel
theorem dX12_writeRecord_101 : decode cX12_writeRecord 101 = .ok (.iadd, 1) := by decide +kernel
theorem dX12_writeRecord_102 : decode cX12_writeRecord 102 = .ok (.iload 4, 2) := by decide +kernel
theorem dX12_writeRecord_104 : decode cX12_writeRecord 104 = .ok (.i2b, 1) := by decide +kernel
theorem dX12_writeRecord_105 : decode cX12_writeRecord 105 = .ok (.bastore, 1) := by decide +kernel
theorem dX12_writeRecord_106 : decode cX12_writeRecord 106 = .ok (.aload_n 0, 1) := by decide +kernel
theorem dX12_writeRecord_107 : decode cX12_writeRecord 107 = .ok (.getfield 176, 3) := by decide +kernel
theorem dX12_writeRecord_110 : decode cX12_writeRecord 110 = .ok (.iconst 0, 1) := by decide +kernel
theorem dX12_writeRecord_111 : decode cX12_writeRecord 111 = .ok (.aload_n 0, 1) := by decide +kernel
theorem dX12_writeRecord_112 : decode cX12_writeRecord 112 = .ok (.getfield 52, 3) := by decide +kernel
theorem dX12_writeRecord_115 : decode cX12_writeRecord 115 = .ok (.iload_n 3, 1) := by decide +kernel
theorem dX12_writeRecord_116 : decode cX12_writeRecord 116 = .ok (.iconst 5, 1) := by decide +kernel
theorem dX12_writeRecord_117 : decode cX12_writeRecord 117 = .ok (.iadd, 1) := by decide +kernel
theorem dX12_writeRecord_118 : decode cX12_writeRecord 118 = .ok (.aload_n 0, 1) := by decide +kernel
theorem dX12_writeRecord_119 : decode cX12_writeRecord 119 = .ok (.getfield 374, 3) := by decide +kernel
theorem dX12_writeRecord_122 : decode cX12_writeRecord 122 = .ok (.invokestatic 279, 3) := by decide +kernel
theorem dX12_writeRecord_125 : decode cX12_writeRecord 125 = .ok (.aload_n 0, 1) := by decide +kernel
theorem dX12_writeRecord_126 : decode cX12_writeRecord 126 = .ok (.getfield 85, 3) := by decide +kernel
theorem dX12_writeRecord_129 : decode cX12_writeRecord 129 = .ok (.iload_n 1, 1) := by decide +kernel
theorem dX12_writeRecord_130 : decode cX12_writeRecord 130 = .ok (.baload, 1) := by decide +kernel
theorem dX12_writeRecord_131 : decode cX12_writeRecord 131 = .ok (.ifCond .eq 101, 3) := by decide +kernel
theorem dX12_writeRecord_134 : decode cX12_writeRecord 134 = .ok (.aload_n 0, 1) := by decide +kernel
theorem dX12_writeRecord_135 : decode cX12_writeRecord 135 = .ok (.getfield 52, 3) := by decide +kernel
theorem dX12_writeRecord_138 : decode cX12_writeRecord 138 = .ok (.iload_n 3, 1) := by decide +kernel
theorem dX12_writeRecord_139 : decode cX12_writeRecord 139 = .ok (.iconst 5, 1) := by decide +kernel
theorem dX12_writeRecord_140 : decode cX12_writeRecord 140 = .ok (.iadd, 1) := by decide +kernel
theorem dX12_writeRecord_141 : decode cX12_writeRecord 141 = .ok (.aload_n 0, 1) := by decide +kernel
theorem dX12_writeRecord_142 : decode cX12_writeRecord 142 = .ok (.getfield 374, 3) := by decide +kernel
theorem dX12_writeRecord_145 : decode cX12_writeRecord 145 = .ok (.iadd, 1) := by decide +kernel
theorem dX12_writeRecord_146 : decode cX12_writeRecord 146 = .ok (.iload_n 2, 1) := by decide +kernel
theorem dX12_writeRecord_147 : decode cX12_writeRecord 147 = .ok (.i2b, 1) := by decide +kernel
theorem dX12_writeRecord_148 : decode cX12_writeRecord 148 = .ok (.bastore, 1) := by decide +kernel
theorem dX12_writeRecord_149 : decode cX12_writeRecord 149 = .ok (.aload_n 0, 1) := by decide +kernel
theorem dX12_writeRecord_150 : decode cX12_writeRecord 150 = .ok (.aload_n 0, 1) := by decide +kernel
theorem dX12_writeRecord_151 : decode cX12_writeRecord 151 = .ok (.getfield 73, 3) := by decide +kernel
theorem dX12_writeRecord_154 : decode cX12_writeRecord 154 = .ok (.iload_n 1, 1) := by decide +kernel
theorem dX12_writeRecord_155 : decode cX12_writeRecord 155 = .ok (.aload_n 0, 1) := by decide +kernel
theorem dX12_writeRecord_156 : decode cX12_writeRecord 156 = .ok (.getfield 91, 3) := by decide +kernel
theorem dX12_writeRecord_159 : decode cX12_writeRecord 159 = .ok (.iload_n 1, 1) := by decide +kernel
theorem dX12_writeRecord_160 : decode cX12_writeRecord 160 = .ok (.iaload, 1) := by decide +kernel
theorem dX12_writeRecord_161 : decode cX12_writeRecord 161 = .ok (.invokevirtual 380, 3) := by decide +kernel
theorem dX12_writeRecord_164 : decode cX12_writeRecord 164 = .ok (.aload_n 0, 1) := by decide +kernel
theorem dX12_writeRecord_165 : decode cX12_writeRecord 165 = .ok (.aload_n 0, 1) := by decide +kernel
theorem dX12_writeRecord_166 : decode cX12_writeRecord 166 = .ok (.getfield 52, 3) := by decide +kernel
theorem dX12_writeRecord_169 : decode cX12_writeRecord 169 = .ok (.iload_n 3, 1) := by decide +kernel
theorem dX12_writeRecord_170 : decode cX12_writeRecord 170 = .ok (.iconst 5, 1) := by decide +kernel
theorem dX12_writeRecord_171 : decode cX12_writeRecord 171 = .ok (.iadd, 1) := by decide +kernel
theorem dX12_writeRecord_172 : decode cX12_writeRecord 172 = .ok (.aload_n 0, 1) := by decide +kernel
theorem dX12_writeRecord_173 : decode cX12_writeRecord 173 = .ok (.getfield 374, 3) := by decide +kernel
theorem dX12_writeRecord_176 : decode cX12_writeRecord 176 = .ok (.iconst 1, 1) := by decide +kernel
theorem dX12_writeRecord_177 : decode cX12_writeRecord 177 = .ok (.iadd, 1) := by decide +kernel
theorem dX12_writeRecord_178 : decode cX12_writeRecord 178 = .ok (.invokevirtual 383, 3) := by decide +kernel
theorem dX12_writeRecord_181 : decode cX12_writeRecord 181 = .ok (.aload_n 0, 1) := by decide +kernel
theorem dX12_writeRecord_182 : decode cX12_writeRecord 182 = .ok (.aload_n 0, 1) := by decide +kernel
theorem dX12_writeRecord_183 : decode cX12_writeRecord 183 = .ok (.getfield 52, 3) := by decide +kernel
theorem dX12_writeRecord_186 : decode cX12_writeRecord 186 = .ok (.iload_n 3, 1) := by decide +kernel
theorem dX12_writeRecord_187 : decode cX12_writeRecord 187 = .ok (.iload_n 3, 1) := by decide +kernel
theorem dX12_writeRecord_188 : decode cX12_writeRecord 188 = .ok (.iconst 5, 1) := by decide +kernel
theorem dX12_writeRecord_189 : decode cX12_writeRecord 189 = .ok (.iadd, 1) := by decide +kernel
theorem dX12_writeRecord_190 : decode cX12_writeRecord 190 = .ok (.aload_n 0, 1) := by decide +kernel
theorem dX12_writeRecord_191 : decode cX12_writeRecord 191 = .ok (.getfield 374, 3) := by decide +kernel
theorem dX12_writeRecord_194 : decode cX12_writeRecord 194 = .ok (.iconst 1, 1) := by decide +kernel
theorem dX12_writeRecord_195 : decode cX12_writeRecord 195 = .ok (.iadd, 1) := by decide +kernel
theorem dX12_writeRecord_196 : decode cX12_writeRecord 196 = .ok (.invokevirtual 386, 3) := by decide +kernel
theorem dX12_writeRecord_199 : decode cX12_writeRecord 199 = .ok (.aload_n 0, 1) := by decide +kernel
theorem dX12_writeRecord_200 : decode cX12_writeRecord 200 = .ok (.getfield 170, 3) := by decide +kernel
theorem dX12_writeRecord_203 : decode cX12_writeRecord 203 = .ok (.iconst 0, 1) := by decide +kernel
theorem dX12_writeRecord_204 : decode cX12_writeRecord 204 = .ok (.aload_n 0, 1) := by decide +kernel
theorem dX12_writeRecord_205 : decode cX12_writeRecord 205 = .ok (.getfield 52, 3) := by decide +kernel
theorem dX12_writeRecord_208 : decode cX12_writeRecord 208 = .ok (.iload_n 3, 1) := by decide +kernel
theorem dX12_writeRecord_209 : decode cX12_writeRecord 209 = .ok (.bipush 6, 2) := by decide +kernel
theorem dX12_writeRecord_211 : decode cX12_writeRecord 211 = .ok (.iadd, 1) := by decide +kernel
theorem dX12_writeRecord_212 : decode cX12_writeRecord 212 = .ok (.aload_n 0, 1) := by decide +kernel
theorem dX12_writeRecord_213 : decode cX12_writeRecord 213 = .ok (.getfield 374, 3) := by decide +kernel
theorem dX12_writeRecord_216 : decode cX12_writeRecord 216 = .ok (.iadd, 1) := by decide +kernel
theorem dX12_writeRecord_217 : decode cX12_writeRecord 217 = .ok (.bipush 16, 2) := by decide +kernel
theorem dX12_writeRecord_219 : decode cX12_writeRecord 219 = .ok (.invokestatic 279, 3) := by decide +kernel
theorem dX12_writeRecord_222 : decode cX12_writeRecord 222 = .ok (.aload_n 0, 1) := by decide +kernel
theorem dX12_writeRecord_223 : decode cX12_writeRecord 223 = .ok (.getfield 91, 3) := by decide +kernel
theorem dX12_writeRecord_226 : decode cX12_writeRecord 226 = .ok (.iload_n 1, 1) := by decide +kernel
theorem dX12_writeRecord_227 : decode cX12_writeRecord 227 = .ok (.dup2, 1) := by decide +kernel
theorem dX12_writeRecord_228 : decode cX12_writeRecord 228 = .ok (.iaload, 1) := by decide +kernel
theorem dX12_writeRecord_229 : decode cX12_writeRecord 229 = .ok (.iconst 1, 1) := by decide +kernel
theorem dX12_writeRecord_230 : decode cX12_writeRecord 230 = .ok (.iadd, 1) := by decide +kernel
theorem dX12_writeRecord_231 : decode cX12_writeRecord 231 = .ok (.iastore, 1) := by decide +kernel
theorem dX12_writeRecord_232 : decode cX12_writeRecord 232 = .ok (.aload_n 0, 1) := by decide +kernel
theorem dX12_writeRecord_233 : decode cX12_writeRecord 233 = .ok (.getfield 55, 3) := by decide +kernel
theorem dX12_writeRecord_236 : decode cX12_writeRecord 236 = .ok (.bipush 33, 2) := by decide +kernel
theorem dX12_writeRecord_238 : decode cX12_writeRecord 238 = .ok (.iload_n 1, 1) := by decide +kernel
theorem dX12_writeRecord_239 : decode cX12_writeRecord 239 = .ok (.imul, 1) := by decide +kernel
theorem dX12_writeRecord_240 : decode cX12_writeRecord 240 = .ok (.aload_n 0, 1) := by decide +kernel
theorem dX12_writeRecord_241 : decode cX12_writeRecord 241 = .ok (.getfield 58, 3) := by decide +kernel
theorem dX12_writeRecord_244 : decode cX12_writeRecord 244 = .ok (.iload_n 1, 1) := by decide +kernel
theorem dX12_writeRecord_245 : decode cX12_writeRecord 245 = .ok (.iaload, 1) := by decide +kernel
theorem dX12_writeRecord_246 : decode cX12_writeRecord 246 = .ok (.iadd, 1) := by decide +kernel
theorem dX12_writeRecord_247 : decode cX12_writeRecord 247 = .ok (.iload 4, 2) := by decide +kernel
theorem dX12_writeRecord_249 : decode cX12_writeRecord 249 = .ok (.iconst 5, 1) := by decide +kernel
theorem dX12_writeRecord_250 : decode cX12_writeRecord 250 = .ok (.iadd, 1) := by decide +kernel
theorem dX12_writeRecord_251 : decode cX12_writeRecord 251 = .ok (.iastore, 1) := by decide +kernel
theorem dX12_writeRecord_252 : decode cX12_writeRecord 252 = .ok (.aload_n 0, 1) := by decide +kernel
theorem dX12_writeRecord_253 : decode cX12_writeRecord 253 = .ok (.getfield 58, 3) := by decide +kernel
theorem dX12_writeRecord_256 : decode cX12_writeRecord 256 = .ok (.iload_n 1, 1) := by decide +kernel
theorem dX12_writeRecord_257 : decode cX12_writeRecord 257 = .ok (.dup2, 1) := by decide +kernel
theorem dX12_writeRecord_258 : decode cX12_writeRecord 258 = .ok (.iaload, 1) := by decide +kernel
theorem dX12_writeRecord_259 : decode cX12_writeRecord 259 = .ok (.iconst 1, 1) := by decide +kernel
theorem dX12_writeRecord_260 : decode cX12_writeRecord 260 = .ok (.iadd, 1) := by decide +kernel
theorem dX12_writeRecord_261 : decode cX12_writeRecord 261 = .ok (.iastore, 1) := by decide +kernel
theorem dX12_writeRecord_262 : decode cX12_writeRecord 262 = .ok (.return_, 1) := by decide +kernel
theorem dX12_beginMessage_0 : decode cX12_beginMessage 0 = .ok (.aload_n 0, 1) := by decide +kernel
theorem dX12_beginMessage_1 : decode cX12_beginMessage 1 = .ok (.iconst 0, 1) := by decide +kernel
theorem dX12_beginMessage_2 : decode cX12_beginMessage 2 = .ok (.putfield 374, 3) := by decide +kernel
theorem dX12_beginMessage_5 : decode cX12_beginMessage 5 = .ok (.aload_n 0, 1) := by decide +kernel
theorem dX12_beginMessage_6 : decode cX12_beginMessage 6 = .ok (.iload_n 1, 1) := by decide +kernel
theorem dX12_beginMessage_7 : decode cX12_beginMessage 7 = .ok (.invokevirtual 377, 3) := by decide +kernel
theorem dX12_beginMessage_10 : decode cX12_beginMessage 10 = .ok (.aload_n 0, 1) := by decide +kernel
theorem dX12_beginMessage_11 : decode cX12_beginMessage 11 = .ok (.iconst 0, 1) := by decide +kernel
theorem dX12_beginMessage_12 : decode cX12_beginMessage 12 = .ok (.invokevirtual 377, 3) := by decide +kernel
theorem dX12_beginMessage_15 : decode cX12_beginMessage 15 = .ok (.aload_n 0, 1) := by decide +kernel
theorem dX12_beginMessage_16 : decode cX12_beginMessage 16 = .ok (.iconst 0, 1) := by decide +kernel
theorem dX12_beginMessage_17 : decode cX12_beginMessage 17 = .ok (.invokevirtual 390, 3) := by decide +kernel
theorem dX12_beginMessage_20 : decode cX12_beginMessage 20 = .ok (.return_, 1) := by decide +kernel
theorem dX12_endMessage_0 : decode cX12_endMessage 0 = .ok (.aload_n 0, 1) := by decide +kernel
theorem dX12_endMessage_1 : decode cX12_endMessage 1 = .ok (.getfield 176, 3) := by decide +kernel
theorem dX12_endMessage_4 : decode cX12_endMessage 4 = .ok (.iconst 2, 1) := by decide +kernel
theorem dX12_endMessage_5 : decode cX12_endMessage 5 = .ok (.aload_n 0, 1) := by decide +kernel
theorem dX12_endMessage_6 : decode cX12_endMessage 6 = .ok (.getfield 374, 3) := by decide +kernel
theorem dX12_endMessage_9 : decode cX12_endMessage 9 = .ok (.iconst 4, 1) := by decide +kernel
theorem dX12_endMessage_10 : decode cX12_endMessage 10 = .ok (.isub, 1) := by decide +kernel
theorem dX12_endMessage_11 : decode cX12_endMessage 11 = .ok (.bipush 8, 2) := by decide +kernel
theorem dX12_endMessage_13 : decode cX12_endMessage 13 = .ok (.ishr, 1) := by decide +kernel
theorem dX12_endMessage_14 : decode cX12_endMessage 14 = .ok (.i2b, 1) := by decide +kernel
theorem dX12_endMessage_15 : decode cX12_endMessage 15 = .ok (.bastore, 1) := by decide +kernel
theorem dX12_endMessage_16 : decode cX12_endMessage 16 = .ok (.aload_n 0, 1) := by decide +kernel
theorem dX12_endMessage_17 : decode cX12_endMessage 17 = .ok (.getfield 176, 3) := by decide +kernel
theorem dX12_endMessage_20 : decode cX12_endMessage 20 = .ok (.iconst 3, 1) := by decide +kernel
theorem dX12_endMessage_21 : decode cX12_endMessage 21 = .ok (.aload_n 0, 1) := by decide +kernel
theorem dX12_endMessage_22 : decode cX12_endMessage 22 = .ok (.getfield 374, 3) := by decide +kernel
theorem dX12_endMessage_25 : decode cX12_endMessage 25 = .ok (.iconst 4, 1) := by decide +kernel
theorem dX12_endMessage_26 : decode cX12_endMessage 26 = .ok (.isub, 1) := by decide +kernel
theorem dX12_endMessage_27 : decode cX12_endMessage 27 = .ok (.i2b, 1) := by decide +kernel
theorem dX12_endMessage_28 : decode cX12_endMessage 28 = .ok (.bastore, 1) := by decide +kernel
theorem dX12_endMessage_29 : decode cX12_endMessage 29 = .ok (.iload_n 2, 1) := by decide +kernel
theorem dX12_endMessage_30 : decode cX12_endMessage 30 = .ok (.ifCond .eq 17, 3) := by decide +kernel
theorem dX12_endMessage_33 : decode cX12_endMessage 33 = .ok (.aload_n 0, 1) := by decide +kernel
theorem dX12_endMessage_34 : decode cX12_endMessage 34 = .ok (.iload_n 1, 1) := by decide +kernel
theorem dX12_endMessage_35 : decode cX12_endMessage 35 = .ok (.aload_n 0, 1) := by decide +kernel
theorem dX12_endMessage_36 : decode cX12_endMessage 36 = .ok (.getfield 176, 3) := by decide +kernel
theorem dX12_endMessage_39 : decode cX12_endMessage 39 = .ok (.iconst 0, 1) := by decide +kernel
theorem dX12_endMessage_40 : decode cX12_endMessage 40 = .ok (.aload_n 0, 1) := by decide +kernel
theorem dX12_endMessage_41 : decode cX12_endMessage 41 = .ok (.getfield 374, 3) := by decide +kernel
theorem dX12_endMessage_44 : decode cX12_endMessage 44 = .ok (.invokevirtual 393, 3) := by decide +kernel
theorem dX12_endMessage_47 : decode cX12_endMessage 47 = .ok (.aload_n 0, 1) := by decide +kernel
theorem dX12_endMessage_48 : decode cX12_endMessage 48 = .ok (.iload_n 1, 1) := by decide +kernel
theorem dX12_endMessage_49 : decode cX12_endMessage 49 = .ok (.bipush 22, 2) := by decide +kernel
theorem dX12_endMessage_51 : decode cX12_endMessage 51 = .ok (.invokevirtual 397, 3) := by decide +kernel
theorem dX12_endMessage_54 : decode cX12_endMessage 54 = .ok (.return_, 1) := by decide +kernel
theorem dX12_sayRow_0 : decode cX12_sayRow 0 = .ok (.iconst 0, 1) := by decide +kernel
theorem dX12_sayRow_1 : decode cX12_sayRow 1 = .ok (.istore 4, 2) := by decide +kernel
theorem dX12_sayRow_3 : decode cX12_sayRow 3 = .ok (.iload 4, 2) := by decide +kernel
theorem dX12_sayRow_5 : decode cX12_sayRow 5 = .ok (.iload_n 3, 1) := by decide +kernel
theorem dX12_sayRow_6 : decode cX12_sayRow 6 = .ok (.if_icmp .ge 19, 3) := by decide +kernel
theorem dX12_sayRow_9 : decode cX12_sayRow 9 = .ok (.aload_n 0, 1) := by decide +kernel
theorem dX12_sayRow_10 : decode cX12_sayRow 10 = .ok (.aload_n 1, 1) := by decide +kernel
theorem dX12_sayRow_11 : decode cX12_sayRow 11 = .ok (.iload_n 2, 1) := by decide +kernel
theorem dX12_sayRow_12 : decode cX12_sayRow 12 = .ok (.iload 4, 2) := by decide +kernel
theorem dX12_sayRow_14 : decode cX12_sayRow 14 = .ok (.iadd, 1) := by decide +kernel
theorem dX12_sayRow_15 : decode cX12_sayRow 15 = .ok (.baload, 1) := by decide +kernel
theorem dX12_sayRow_16 : decode cX12_sayRow 16 = .ok (.invokevirtual 377, 3) := by decide +kernel
theorem dX12_sayRow_19 : decode cX12_sayRow 19 = .ok (.iinc 4 1, 3) := by decide +kernel
theorem dX12_sayRow_22 : decode cX12_sayRow 22 = .ok (.goto (-19), 3) := by decide +kernel
theorem dX12_sayRow_25 : decode cX12_sayRow 25 = .ok (.return_, 1) := by decide +kernel
theorem dX12_bind_0 : decode cX12_bind 0 = .ok (.aload_n 0, 1) := by decide +kernel
theorem dX12_bind_1 : decode cX12_bind 1 = .ok (.iload_n 1, 1) := by decide +kernel
theorem dX12_bind_2 : decode cX12_bind 2 = .ok (.invokevirtual 401, 3) := by decide +kernel
theorem dX12_bind_5 : decode cX12_bind 5 = .ok (.aload_n 0, 1) := by decide +kernel
theorem dX12_bind_6 : decode cX12_bind 6 = .ok (.aload_n 0, 1) := by decide +kernel
theorem dX12_bind_7 : decode cX12_bind 7 = .ok (.getfield 127, 3) := by decide +kernel
theorem dX12_bind_10 : decode cX12_bind 10 = .ok (.iconst 0, 1) := by decide +kernel
theorem dX12_bind_11 : decode cX12_bind 11 = .ok (.bipush 9, 2) := by decide +kernel
theorem dX12_bind_13 : decode cX12_bind 13 = .ok (.aload_n 0, 1) := by decide +kernel
theorem dX12_bind_14 : decode cX12_bind 14 = .ok (.getfield 124, 3) := by decide +kernel
theorem dX12_bind_17 : decode cX12_bind 17 = .ok (.bipush 32, 2) := by decide +kernel
theorem dX12_bind_19 : decode cX12_bind 19 = .ok (.aload_n 0, 1) := by decide +kernel
theorem dX12_bind_20 : decode cX12_bind 20 = .ok (.getfield 133, 3) := by decide +kernel
theorem dX12_bind_23 : decode cX12_bind 23 = .ok (.iconst 0, 1) := by decide +kernel
theorem dX12_bind_24 : decode cX12_bind 24 = .ok (.bipush 32, 2) := by decide +kernel
theorem dX12_bind_26 : decode cX12_bind 26 = .ok (.invokevirtual 330, 3) := by decide +kernel
theorem dX12_bind_29 : decode cX12_bind 29 = .ok (.aload_n 0, 1) := by decide +kernel
theorem dX12_bind_30 : decode cX12_bind 30 = .ok (.aload_n 0, 1) := by decide +kernel
theorem dX12_bind_31 : decode cX12_bind 31 = .ok (.getfield 133, 3) := by decide +kernel
theorem dX12_bind_34 : decode cX12_bind 34 = .ok (.iconst 0, 1) := by decide +kernel
theorem dX12_bind_35 : decode cX12_bind 35 = .ok (.bipush 7, 2) := by decide +kernel
theorem dX12_bind_37 : decode cX12_bind 37 = .ok (.aload_n 0, 1) := by decide +kernel
theorem dX12_bind_38 : decode cX12_bind 38 = .ok (.getfield 124, 3) := by decide +kernel
theorem dX12_bind_41 : decode cX12_bind 41 = .ok (.iconst 0, 1) := by decide +kernel
theorem dX12_bind_42 : decode cX12_bind 42 = .ok (.aload_n 0, 1) := by decide +kernel
theorem dX12_bind_43 : decode cX12_bind 43 = .ok (.getfield 139, 3) := by decide +kernel
theorem dX12_bind_46 : decode cX12_bind 46 = .ok (.iconst 0, 1) := by decide +kernel
theorem dX12_bind_47 : decode cX12_bind 47 = .ok (.bipush 32, 2) := by decide +kernel
theorem dX12_bind_49 : decode cX12_bind 49 = .ok (.invokevirtual 330, 3) := by decide +kernel
theorem dX12_bind_52 : decode cX12_bind 52 = .ok (.aload_n 0, 1) := by decide +kernel
theorem dX12_bind_53 : decode cX12_bind 53 = .ok (.aload_n 2, 1) := by decide +kernel
theorem dX12_bind_54 : decode cX12_bind 54 = .ok (.iload_n 3, 1) := by decide +kernel
theorem dX12_bind_55 : decode cX12_bind 55 = .ok (.iload 4, 2) := by decide +kernel
theorem dX12_bind_57 : decode cX12_bind 57 = .ok (.aload_n 0, 1) := by decide +kernel
theorem dX12_bind_58 : decode cX12_bind 58 = .ok (.getfield 136, 3) := by decide +kernel
theorem dX12_bind_61 : decode cX12_bind 61 = .ok (.iconst 0, 1) := by decide +kernel
theorem dX12_bind_62 : decode cX12_bind 62 = .ok (.invokevirtual 283, 3) := by decide +kernel
theorem dX12_bind_65 : decode cX12_bind 65 = .ok (.aload_n 0, 1) := by decide +kernel
theorem dX12_bind_66 : decode cX12_bind 66 = .ok (.aload_n 0, 1) := by decide +kernel
theorem dX12_bind_67 : decode cX12_bind 67 = .ok (.getfield 139, 3) := by decide +kernel
theorem dX12_bind_70 : decode cX12_bind 70 = .ok (.iconst 0, 1) := by decide +kernel
theorem dX12_bind_71 : decode cX12_bind 71 = .ok (.bipush 32, 2) := by decide +kernel
theorem dX12_bind_73 : decode cX12_bind 73 = .ok (.aload_n 0, 1) := by decide +kernel
theorem dX12_bind_74 : decode cX12_bind 74 = .ok (.getfield 136, 3) := by decide +kernel
theorem dX12_bind_77 : decode cX12_bind 77 = .ok (.iconst 0, 1) := by decide +kernel
theorem dX12_bind_78 : decode cX12_bind 78 = .ok (.bipush 32, 2) := by decide +kernel
theorem dX12_bind_80 : decode cX12_bind 80 = .ok (.aload_n 0, 1) := by decide +kernel
theorem dX12_bind_81 : decode cX12_bind 81 = .ok (.getfield 179, 3) := by decide +kernel
theorem dX12_bind_84 : decode cX12_bind 84 = .ok (.iconst 0, 1) := by decide +kernel
theorem dX12_bind_85 : decode cX12_bind 85 = .ok (.invokevirtual 326, 3) := by decide +kernel
theorem dX12_bind_88 : decode cX12_bind 88 = .ok (.return_, 1) := by decide +kernel
theorem dX12_sayHello_0 : decode cX12_sayHello 0 = .ok (.aload_n 0, 1) := by decide +kernel
theorem dX12_sayHello_1 : decode cX12_sayHello 1 = .ok (.getfield 30, 3) := by decide +kernel
theorem dX12_sayHello_4 : decode cX12_sayHello 4 = .ok (.iload_n 1, 1) := by decide +kernel
theorem dX12_sayHello_5 : decode cX12_sayHello 5 = .ok (.iaload, 1) := by decide +kernel
theorem dX12_sayHello_6 : decode cX12_sayHello 6 = .ok (.istore_n 2, 1) := by decide +kernel
theorem dX12_sayHello_7 : decode cX12_sayHello 7 = .ok (.aload_n 0, 1) := by decide +kernel
theorem dX12_sayHello_8 : decode cX12_sayHello 8 = .ok (.iconst 1, 1) := by decide +kernel
theorem dX12_sayHello_9 : decode cX12_sayHello 9 = .ok (.invokevirtual 404, 3) := by decide +kernel
theorem dX12_sayHello_12 : decode cX12_sayHello 12 = .ok (.aload_n 0, 1) := by decide +kernel
theorem dX12_sayHello_13 : decode cX12_sayHello 13 = .ok (.sipush 771, 3) := by decide +kernel
theorem dX12_sayHello_16 : decode cX12_sayHello 16 = .ok (.invokevirtual 390, 3) := by decide +kernel
theorem dX12_sayHello_19 : decode cX12_sayHello 19 = .ok (.aload_n 0, 1) := by decide +kernel
theorem dX12_sayHello_20 : decode cX12_sayHello 20 = .ok (.aload_n 0, 1) := by decide +kernel
theorem dX12_sayHello_21 : decode cX12_sayHello 21 = .ok (.getfield 33, 3) := by decide +kernel
theorem dX12_sayHello_24 : decode cX12_sayHello 24 = .ok (.bipush 32, 2) := by decide +kernel
theorem dX12_sayHello_26 : decode cX12_sayHello 26 = .ok (.iload_n 1, 1) := by decide +kernel
theorem dX12_sayHello_27 : decode cX12_sayHello 27 = .ok (.imul, 1) := by decide +kernel
theorem dX12_sayHello_28 : decode cX12_sayHello 28 = .ok (.bipush 32, 2) := by decide +kernel
theorem dX12_sayHello_30 : decode cX12_sayHello 30 = .ok (.invokevirtual 407, 3) := by decide +kernel
theorem dX12_sayHello_33 : decode cX12_sayHello 33 = .ok (.aload_n 0, 1) := by decide +kernel
theorem dX12_sayHello_34 : decode cX12_sayHello 34 = .ok (.iconst 0, 1) := by decide +kernel
theorem dX12_sayHello_35 : decode cX12_sayHello 35 = .ok (.invokevirtual 377, 3) := by decide +kernel
theorem dX12_sayHello_38 : decode cX12_sayHello 38 = .ok (.aload_n 0, 1) := by decide +kernel
theorem dX12_sayHello_39 : decode cX12_sayHello 39 = .ok (.iconst 2, 1) := by decide +kernel
theorem dX12_sayHello_40 : decode cX12_sayHello 40 = .ok (.invokevirtual 390, 3) := by decide +kernel
theorem dX12_sayHello_43 : decode cX12_sayHello 43 = .ok (.aload_n 0, 1) := by decide +kernel
theorem dX12_sayHello_44 : decode cX12_sayHello 44 = .ok (.sipush 4867, 3) := by decide +kernel
theorem dX12_sayHello_47 : decode cX12_sayHello 47 = .ok (.invokevirtual 390, 3) := by decide +kernel
theorem dX12_sayHello_50 : decode cX12_sayHello 50 = .ok (.aload_n 0, 1) := by decide +kernel
theorem dX12_sayHello_51 : decode cX12_sayHello 51 = .ok (.sipush 256, 3) := by decide +kernel
theorem dX12_sayHello_54 : decode cX12_sayHello 54 = .ok (.invokevirtual 390, 3) := by decide +kernel
theorem dX12_sayHello_57 : decode cX12_sayHello 57 = .ok (.aload_n 0, 1) := by decide +kernel
theorem dX12_sayHello_58 : decode cX12_sayHello 58 = .ok (.bipush 60, 2) := by decide +kernel
theorem dX12_sayHello_60 : decode cX12_sayHello 60 = .ok (.iload_n 2, 1) := by decide +kernel
theorem dX12_sayHello_61 : decode cX12_sayHello 61 = .ok (.iadd, 1) := by decide +kernel
theorem dX12_sayHello_62 : decode cX12_sayHello 62 = .ok (.invokevirtual 390, 3) := by decide +kernel
theorem dX12_sayHello_65 : decode cX12_sayHello 65 = .ok (.aload_n 0, 1) := by decide +kernel
theorem dX12_sayHello_66 : decode cX12_sayHello 66 = .ok (.bipush 43, 2) := by decide +kernel
theorem dX12_sayHello_68 : decode cX12_sayHello 68 = .ok (.invokevirtual 390, 3) := by decide +kernel
theorem dX12_sayHello_71 : decode cX12_sayHello 71 = .ok (.aload_n 0, 1) := by decide +kernel
theorem dX12_sayHello_72 : decode cX12_sayHello 72 = .ok (.iconst 3, 1) := by decide +kernel
theorem dX12_sayHello_73 : decode cX12_sayHello 73 = .ok (.invokevirtual 390, 3) := by decide +kernel
theorem dX12_sayHello_76 : decode cX12_sayHello 76 = .ok (.aload_n 0, 1) := by decide +kernel
theorem dX12_sayHello_77 : decode cX12_sayHello 77 = .ok (.iconst 2, 1) := by decide +kernel
theorem dX12_sayHello_78 : decode cX12_sayHello 78 = .ok (.invokevirtual 377, 3) := by decide +kernel
theorem dX12_sayHello_81 : decode cX12_sayHello 81 = .ok (.aload_n 0, 1) := by decide +kernel
theorem dX12_sayHello_82 : decode cX12_sayHello 82 = .ok (.sipush 772, 3) := by decide +kernel
theorem dX12_sayHello_85 : decode cX12_sayHello 85 = .ok (.invokevirtual 390, 3) := by decide +kernel
theorem dX12_sayHello_88 : decode cX12_sayHello 88 = .ok (.aload_n 0, 1) := by decide +kernel
theorem dX12_sayHello_89 : decode cX12_sayHello 89 = .ok (.bipush 45, 2) := by decide +kernel
theorem dX12_sayHello_91 : decode cX12_sayHello 91 = .ok (.invokevirtual 390, 3) := by decide +kernel
theorem dX12_sayHello_94 : decode cX12_sayHello 94 = .ok (.aload_n 0, 1) := by decide +kernel
theorem dX12_sayHello_95 : decode cX12_sayHello 95 = .ok (.iconst 2, 1) := by decide +kernel
theorem dX12_sayHello_96 : decode cX12_sayHello 96 = .ok (.invokevirtual 390, 3) := by decide +kernel
theorem dX12_sayHello_99 : decode cX12_sayHello 99 = .ok (.aload_n 0, 1) := by decide +kernel
theorem dX12_sayHello_100 : decode cX12_sayHello 100 = .ok (.sipush 256, 3) := by decide +kernel
theorem dX12_sayHello_103 : decode cX12_sayHello 103 = .ok (.invokevirtual 390, 3) := by decide +kernel
theorem dX12_sayHello_106 : decode cX12_sayHello 106 = .ok (.aload_n 0, 1) := by decide +kernel
theorem dX12_sayHello_107 : decode cX12_sayHello 107 = .ok (.bipush 41, 2) := by decide +kernel
theorem dX12_sayHello_109 : decode cX12_sayHello 109 = .ok (.invokevirtual 390, 3) := by decide +kernel
theorem dX12_sayHello_112 : decode cX12_sayHello 112 = .ok (.aload_n 0, 1) := by decide +kernel
theorem dX12_sayHello_113 : decode cX12_sayHello 113 = .ok (.iload_n 2, 1) := by decide +kernel
theorem dX12_sayHello_114 : decode cX12_sayHello 114 = .ok (.bipush 43, 2) := by decide +kernel
theorem dX12_sayHello_116 : decode cX12_sayHello 116 = .ok (.iadd, 1) := by decide +kernel
theorem dX12_sayHello_117 : decode cX12_sayHello 117 = .ok (.invokevirtual 390, 3) := by decide +kernel
theorem dX12_sayHello_120 : decode cX12_sayHello 120 = .ok (.aload_n 0, 1) := by decide +kernel
theorem dX12_sayHello_121 : decode cX12_sayHello 121 = .ok (.iload_n 2, 1) := by decide +kernel
theorem dX12_sayHello_122 : decode cX12_sayHello 122 = .ok (.bipush 6, 2) := by decide +kernel
theorem dX12_sayHello_124 : decode cX12_sayHello 124 = .ok (.iadd, 1) := by decide +kernel
theorem dX12_sayHello_125 : decode cX12_sayHello 125 = .ok (.invokevirtual 390, 3) := by decide +kernel
theorem dX12_sayHello_128 : decode cX12_sayHello 128 = .ok (.aload_n 0, 1) := by decide +kernel
theorem dX12_sayHello_129 : decode cX12_sayHello 129 = .ok (.iload_n 2, 1) := by decide +kernel
theorem dX12_sayHello_130 : decode cX12_sayHello 130 = .ok (.invokevirtual 390, 3) := by decide +kernel
theorem dX12_sayHello_133 : decode cX12_sayHello 133 = .ok (.aload_n 0, 1) := by decide +kernel
theorem dX12_sayHello_134 : decode cX12_sayHello 134 = .ok (.aload_n 0, 1) := by decide +kernel
theorem dX12_sayHello_135 : decode cX12_sayHello 135 = .ok (.getfield 27, 3) := by decide +kernel
theorem dX12_sayHello_138 : decode cX12_sayHello 138 = .ok (.bipush 16, 2) := by decide +kernel
theorem dX12_sayHello_140 : decode cX12_sayHello 140 = .ok (.iload_n 1, 1) := by decide +kernel
theorem dX12_sayHello_141 : decode cX12_sayHello 141 = .ok (.imul, 1) := by decide +kernel
theorem dX12_sayHello_142 : decode cX12_sayHello 142 = .ok (.iload_n 2, 1) := by decide +kernel
theorem dX12_sayHello_143 : decode cX12_sayHello 143 = .ok (.invokevirtual 407, 3) := by decide +kernel
theorem dX12_sayHello_146 : decode cX12_sayHello 146 = .ok (.aload_n 0, 1) := by decide +kernel
theorem dX12_sayHello_147 : decode cX12_sayHello 147 = .ok (.iconst 0, 1) := by decide +kernel
theorem dX12_sayHello_148 : decode cX12_sayHello 148 = .ok (.invokevirtual 390, 3) := by decide +kernel
theorem dX12_sayHello_151 : decode cX12_sayHello 151 = .ok (.aload_n 0, 1) := by decide +kernel
theorem dX12_sayHello_152 : decode cX12_sayHello 152 = .ok (.iconst 0, 1) := by decide +kernel
theorem dX12_sayHello_153 : decode cX12_sayHello 153 = .ok (.invokevirtual 390, 3) := by decide +kernel
theorem dX12_sayHello_156 : decode cX12_sayHello 156 = .ok (.aload_n 0, 1) := by decide +kernel
theorem dX12_sayHello_157 : decode cX12_sayHello 157 = .ok (.getfield 176, 3) := by decide +kernel
theorem dX12_sayHello_160 : decode cX12_sayHello 160 = .ok (.iconst 2, 1) := by decide +kernel
theorem dX12_sayHello_161 : decode cX12_sayHello 161 = .ok (.iconst 0, 1) := by decide +kernel
theorem dX12_sayHello_162 : decode cX12_sayHello 162 = .ok (.bastore, 1) := by decide +kernel
theorem dX12_sayHello_163 : decode cX12_sayHello 163 = .ok (.aload_n 0, 1) := by decide +kernel
theorem dX12_sayHello_164 : decode cX12_sayHello 164 = .ok (.getfield 176, 3) := by decide +kernel
theorem dX12_sayHello_167 : decode cX12_sayHello 167 = .ok (.iconst 3, 1) := by decide +kernel
theorem dX12_sayHello_168 : decode cX12_sayHello 168 = .ok (.aload_n 0, 1) := by decide +kernel
theorem dX12_sayHello_169 : decode cX12_sayHello 169 = .ok (.getfield 374, 3) := by decide +kernel
theorem dX12_sayHello_172 : decode cX12_sayHello 172 = .ok (.bipush 35, 2) := by decide +kernel
theorem dX12_sayHello_174 : decode cX12_sayHello 174 = .ok (.iadd, 1) := by decide +kernel
theorem dX12_sayHello_175 : decode cX12_sayHello 175 = .ok (.iconst 4, 1) := by decide +kernel
theorem dX12_sayHello_176 : decode cX12_sayHello 176 = .ok (.isub, 1) := by decide +kernel
theorem dX12_sayHello_177 : decode cX12_sayHello 177 = .ok (.i2b, 1) := by decide +kernel
theorem dX12_sayHello_178 : decode cX12_sayHello 178 = .ok (.bastore, 1) := by decide +kernel
theorem dX12_sayHello_179 : decode cX12_sayHello 179 = .ok (.aload_n 0, 1) := by decide +kernel
theorem dX12_sayHello_180 : decode cX12_sayHello 180 = .ok (.iload_n 1, 1) := by decide +kernel
theorem dX12_sayHello_181 : decode cX12_sayHello 181 = .ok (.aload_n 0, 1) := by decide +kernel
theorem dX12_sayHello_182 : decode cX12_sayHello 182 = .ok (.getfield 176, 3) := by decide +kernel
theorem dX12_sayHello_185 : decode cX12_sayHello 185 = .ok (.iconst 0, 1) := by decide +kernel
theorem dX12_sayHello_186 : decode cX12_sayHello 186 = .ok (.aload_n 0, 1) := by decide +kernel
theorem dX12_sayHello_187 : decode cX12_sayHello 187 = .ok (.getfield 374, 3) := by decide +kernel
theorem dX12_sayHello_190 : decode cX12_sayHello 190 = .ok (.invokevirtual 410, 3) := by decide +kernel
theorem dX12_sayHello_193 : decode cX12_sayHello 193 = .ok (.aload_n 0, 1) := by decide +kernel
theorem dX12_sayHello_194 : decode cX12_sayHello 194 = .ok (.bipush 33, 2) := by decide +kernel
theorem dX12_sayHello_196 : decode cX12_sayHello 196 = .ok (.invokevirtual 390, 3) := by decide +kernel
theorem dX12_sayHello_199 : decode cX12_sayHello 199 = .ok (.aload_n 0, 1) := by decide +kernel
theorem dX12_sayHello_200 : decode cX12_sayHello 200 = .ok (.bipush 32, 2) := by decide +kernel
theorem dX12_sayHello_202 : decode cX12_sayHello 202 = .ok (.invokevirtual 377, 3) := by decide +kernel
theorem dX12_sayHello_205 : decode cX12_sayHello 205 = .ok (.aload_n 0, 1) := by decide +kernel
theorem dX12_sayHello_206 : decode cX12_sayHello 206 = .ok (.aload_n 0, 1) := by decide +kernel
theorem dX12_sayHello_207 : decode cX12_sayHello 207 = .ok (.getfield 179, 3) := by decide +kernel
theorem dX12_sayHello_210 : decode cX12_sayHello 210 = .ok (.iconst 0, 1) := by decide +kernel
theorem dX12_sayHello_211 : decode cX12_sayHello 211 = .ok (.bipush 32, 2) := by decide +kernel
theorem dX12_sayHello_213 : decode cX12_sayHello 213 = .ok (.invokevirtual 407, 3) := by decide +kernel
theorem dX12_sayHello_216 : decode cX12_sayHello 216 = .ok (.aload_n 0, 1) := by decide +kernel
theorem dX12_sayHello_217 : decode cX12_sayHello 217 = .ok (.iload_n 1, 1) := by decide +kernel
theorem dX12_sayHello_218 : decode cX12_sayHello 218 = .ok (.iconst 1, 1) := by decide +kernel
theorem dX12_sayHello_219 : decode cX12_sayHello 219 = .ok (.invokevirtual 413, 3) := by decide +kernel
theorem dX12_sayHello_222 : decode cX12_sayHello 222 = .ok (.return_, 1) := by decide +kernel
theorem dX12_sayFinished_0 : decode cX12_sayFinished 0 = .ok (.aload_n 0, 1) := by decide +kernel
theorem dX12_sayFinished_1 : decode cX12_sayFinished 1 = .ok (.bipush 20, 2) := by decide +kernel
theorem dX12_sayFinished_3 : decode cX12_sayFinished 3 = .ok (.invokevirtual 404, 3) := by decide +kernel
theorem dX12_sayFinished_6 : decode cX12_sayFinished 6 = .ok (.aload_n 0, 1) := by decide +kernel
theorem dX12_sayFinished_7 : decode cX12_sayFinished 7 = .ok (.iload_n 1, 1) := by decide +kernel
theorem dX12_sayFinished_8 : decode cX12_sayFinished 8 = .ok (.aload_n 0, 1) := by decide +kernel
theorem dX12_sayFinished_9 : decode cX12_sayFinished 9 = .ok (.getfield 73, 3) := by decide +kernel
theorem dX12_sayFinished_12 : decode cX12_sayFinished 12 = .ok (.aload_n 0, 1) := by decide +kernel
theorem dX12_sayFinished_13 : decode cX12_sayFinished 13 = .ok (.getfield 133, 3) := by decide +kernel
theorem dX12_sayFinished_16 : decode cX12_sayFinished 16 = .ok (.iconst 0, 1) := by decide +kernel
theorem dX12_sayFinished_17 : decode cX12_sayFinished 17 = .ok (.invokevirtual 417, 3) := by decide +kernel
theorem dX12_sayFinished_20 : decode cX12_sayFinished 20 = .ok (.aload_n 0, 1) := by decide +kernel
theorem dX12_sayFinished_21 : decode cX12_sayFinished 21 = .ok (.aload_n 0, 1) := by decide +kernel
theorem dX12_sayFinished_22 : decode cX12_sayFinished 22 = .ok (.getfield 133, 3) := by decide +kernel
theorem dX12_sayFinished_25 : decode cX12_sayFinished 25 = .ok (.iconst 0, 1) := by decide +kernel
theorem dX12_sayFinished_26 : decode cX12_sayFinished 26 = .ok (.bipush 32, 2) := by decide +kernel
theorem dX12_sayFinished_28 : decode cX12_sayFinished 28 = .ok (.invokevirtual 407, 3) := by decide +kernel
theorem dX12_sayFinished_31 : decode cX12_sayFinished 31 = .ok (.aload_n 0, 1) := by decide +kernel
theorem dX12_sayFinished_32 : decode cX12_sayFinished 32 = .ok (.iload_n 1, 1) := by decide +kernel
theorem dX12_sayFinished_33 : decode cX12_sayFinished 33 = .ok (.iconst 1, 1) := by decide +kernel
theorem dX12_sayFinished_34 : decode cX12_sayFinished 34 = .ok (.invokevirtual 413, 3) := by decide +kernel
theorem dX12_sayFinished_37 : decode cX12_sayFinished 37 = .ok (.return_, 1) := by decide +kernel
theorem dX12_sayAlert_0 : decode cX12_sayAlert 0 = .ok (.aload_n 0, 1) := by decide +kernel
theorem dX12_sayAlert_1 : decode cX12_sayAlert 1 = .ok (.iconst 0, 1) := by decide +kernel
theorem dX12_sayAlert_2 : decode cX12_sayAlert 2 = .ok (.putfield 374, 3) := by decide +kernel
theorem dX12_sayAlert_5 : decode cX12_sayAlert 5 = .ok (.aload_n 0, 1) := by decide +kernel
theorem dX12_sayAlert_6 : decode cX12_sayAlert 6 = .ok (.iload_n 2, 1) := by decide +kernel
theorem dX12_sayAlert_7 : decode cX12_sayAlert 7 = .ok (.invokevirtual 377, 3) := by decide +kernel
theorem dX12_sayAlert_10 : decode cX12_sayAlert 10 = .ok (.aload_n 0, 1) := by decide +kernel
theorem dX12_sayAlert_11 : decode cX12_sayAlert 11 = .ok (.iload_n 3, 1) := by decide +kernel
theorem dX12_sayAlert_12 : decode cX12_sayAlert 12 = .ok (.invokevirtual 377, 3) := by decide +kernel
theorem dX12_sayAlert_15 : decode cX12_sayAlert 15 = .ok (.aload_n 0, 1) := by decide +kernel
theorem dX12_sayAlert_16 : decode cX12_sayAlert 16 = .ok (.iload_n 1, 1) := by decide +kernel
theorem dX12_sayAlert_17 : decode cX12_sayAlert 17 = .ok (.bipush 21, 2) := by decide +kernel
theorem dX12_sayAlert_19 : decode cX12_sayAlert 19 = .ok (.invokevirtual 397, 3) := by decide +kernel
theorem dX12_sayAlert_22 : decode cX12_sayAlert 22 = .ok (.return_, 1) := by decide +kernel
theorem dX12_sayUpdate_0 : decode cX12_sayUpdate 0 = .ok (.aload_n 0, 1) := by decide +kernel
theorem dX12_sayUpdate_1 : decode cX12_sayUpdate 1 = .ok (.bipush 24, 2) := by decide +kernel
theorem dX12_sayUpdate_3 : decode cX12_sayUpdate 3 = .ok (.invokevirtual 404, 3) := by decide +kernel
theorem dX12_sayUpdate_6 : decode cX12_sayUpdate 6 = .ok (.aload_n 0, 1) := by decide +kernel
theorem dX12_sayUpdate_7 : decode cX12_sayUpdate 7 = .ok (.iload_n 2, 1) := by decide +kernel
theorem dX12_sayUpdate_8 : decode cX12_sayUpdate 8 = .ok (.invokevirtual 377, 3) := by decide +kernel
theorem dX12_sayUpdate_11 : decode cX12_sayUpdate 11 = .ok (.aload_n 0, 1) := by decide +kernel
theorem dX12_sayUpdate_12 : decode cX12_sayUpdate 12 = .ok (.iload_n 1, 1) := by decide +kernel
theorem dX12_sayUpdate_13 : decode cX12_sayUpdate 13 = .ok (.iconst 0, 1) := by decide +kernel
theorem dX12_sayUpdate_14 : decode cX12_sayUpdate 14 = .ok (.invokevirtual 413, 3) := by decide +kernel
theorem dX12_sayUpdate_17 : decode cX12_sayUpdate 17 = .ok (.aload_n 0, 1) := by decide +kernel
theorem dX12_sayUpdate_18 : decode cX12_sayUpdate 18 = .ok (.aload_n 0, 1) := by decide +kernel
theorem dX12_sayUpdate_19 : decode cX12_sayUpdate 19 = .ok (.getfield 73, 3) := by decide +kernel
theorem dX12_sayUpdate_22 : decode cX12_sayUpdate 22 = .ok (.iload_n 1, 1) := by decide +kernel
theorem dX12_sayUpdate_23 : decode cX12_sayUpdate 23 = .ok (.invokevirtual 421, 3) := by decide +kernel
theorem dX12_sayUpdate_26 : decode cX12_sayUpdate 26 = .ok (.aload_n 0, 1) := by decide +kernel
theorem dX12_sayUpdate_27 : decode cX12_sayUpdate 27 = .ok (.getfield 91, 3) := by decide +kernel
theorem dX12_sayUpdate_30 : decode cX12_sayUpdate 30 = .ok (.iload_n 1, 1) := by decide +kernel
theorem dX12_sayUpdate_31 : decode cX12_sayUpdate 31 = .ok (.iconst 0, 1) := by decide +kernel
theorem dX12_sayUpdate_32 : decode cX12_sayUpdate 32 = .ok (.iastore, 1) := by decide +kernel
theorem dX12_sayUpdate_33 : decode cX12_sayUpdate 33 = .ok (.return_, 1) := by decide +kernel
theorem dX12_follow_0 : decode cX12_follow 0 = .ok (.aload_n 0, 1) := by decide +kernel
theorem dX12_follow_1 : decode cX12_follow 1 = .ok (.aload_n 1, 1) := by decide +kernel
theorem dX12_follow_2 : decode cX12_follow 2 = .ok (.bipush 32, 2) := by decide +kernel
theorem dX12_follow_4 : decode cX12_follow 4 = .ok (.iload_n 2, 1) := by decide +kernel
theorem dX12_follow_5 : decode cX12_follow 5 = .ok (.imul, 1) := by decide +kernel
theorem dX12_follow_6 : decode cX12_follow 6 = .ok (.bipush 8, 2) := by decide +kernel
theorem dX12_follow_8 : decode cX12_follow 8 = .ok (.aload_n 0, 1) := by decide +kernel
theorem dX12_follow_9 : decode cX12_follow 9 = .ok (.getfield 124, 3) := by decide +kernel
theorem dX12_follow_12 : decode cX12_follow 12 = .ok (.iconst 0, 1) := by decide +kernel
theorem dX12_follow_13 : decode cX12_follow 13 = .ok (.aload_n 1, 1) := by decide +kernel
theorem dX12_follow_14 : decode cX12_follow 14 = .ok (.bipush 32, 2) := by decide +kernel
theorem dX12_follow_16 : decode cX12_follow 16 = .ok (.iload_n 2, 1) := by decide +kernel
theorem dX12_follow_17 : decode cX12_follow 17 = .ok (.imul, 1) := by decide +kernel
theorem dX12_follow_18 : decode cX12_follow 18 = .ok (.bipush 32, 2) := by decide +kernel
theorem dX12_follow_20 : decode cX12_follow 20 = .ok (.invokevirtual 330, 3) := by decide +kernel
theorem dX12_follow_23 : decode cX12_follow 23 = .ok (.return_, 1) := by decide +kernel
theorem dX12_handSecrets_0 : decode cX12_handSecrets 0 = .ok (.aload_n 0, 1) := by decide +kernel
theorem dX12_handSecrets_1 : decode cX12_handSecrets 1 = .ok (.iload_n 1, 1) := by decide +kernel
theorem dX12_handSecrets_2 : decode cX12_handSecrets 2 = .ok (.invokevirtual 334, 3) := by decide +kernel
theorem dX12_handSecrets_5 : decode cX12_handSecrets 5 = .ok (.aload_n 0, 1) := by decide +kernel
theorem dX12_handSecrets_6 : decode cX12_handSecrets 6 = .ok (.iload_n 1, 1) := by decide +kernel
theorem dX12_handSecrets_7 : decode cX12_handSecrets 7 = .ok (.invokevirtual 401, 3) := by decide +kernel
theorem dX12_handSecrets_10 : decode cX12_handSecrets 10 = .ok (.aload_n 0, 1) := by decide +kernel
theorem dX12_handSecrets_11 : decode cX12_handSecrets 11 = .ok (.aload_n 0, 1) := by decide +kernel
theorem dX12_handSecrets_12 : decode cX12_handSecrets 12 = .ok (.getfield 130, 3) := by decide +kernel
theorem dX12_handSecrets_15 : decode cX12_handSecrets 15 = .ok (.iconst 0, 1) := by decide +kernel
theorem dX12_handSecrets_16 : decode cX12_handSecrets 16 = .ok (.aload_n 0, 1) := by decide +kernel
theorem dX12_handSecrets_17 : decode cX12_handSecrets 17 = .ok (.getfield 13, 3) := by decide +kernel
theorem dX12_handSecrets_20 : decode cX12_handSecrets 20 = .ok (.iload_n 1, 1) := by decide +kernel
theorem dX12_handSecrets_21 : decode cX12_handSecrets 21 = .ok (.baload, 1) := by decide +kernel
theorem dX12_handSecrets_22 : decode cX12_handSecrets 22 = .ok (.ifCond .eq 7, 3) := by decide +kernel
theorem dX12_handSecrets_25 : decode cX12_handSecrets 25 = .ok (.iconst 2, 1) := by decide +kernel
theorem dX12_handSecrets_26 : decode cX12_handSecrets 26 = .ok (.goto 4, 3) := by decide +kernel
theorem dX12_handSecrets_29 : decode cX12_handSecrets 29 = .ok (.iconst 1, 1) := by decide +kernel
theorem dX12_handSecrets_30 : decode cX12_handSecrets 30 = .ok (.aload_n 0, 1) := by decide +kernel
theorem dX12_handSecrets_31 : decode cX12_handSecrets 31 = .ok (.getfield 136, 3) := by decide +kernel
theorem dX12_handSecrets_34 : decode cX12_handSecrets 34 = .ok (.bipush 32, 2) := by decide +kernel
theorem dX12_handSecrets_36 : decode cX12_handSecrets 36 = .ok (.aload_n 0, 1) := by decide +kernel
theorem dX12_handSecrets_37 : decode cX12_handSecrets 37 = .ok (.getfield 73, 3) := by decide +kernel
theorem dX12_handSecrets_40 : decode cX12_handSecrets 40 = .ok (.bipush 32, 2) := by decide +kernel
theorem dX12_handSecrets_42 : decode cX12_handSecrets 42 = .ok (.iload_n 1, 1) := by decide +kernel
theorem dX12_handSecrets_43 : decode cX12_handSecrets 43 = .ok (.imul, 1) := by decide +kernel
theorem dX12_handSecrets_44 : decode cX12_handSecrets 44 = .ok (.bipush 32, 2) := by decide +kernel
theorem dX12_handSecrets_46 : decode cX12_handSecrets 46 = .ok (.invokevirtual 330, 3) := by decide +kernel
theorem dX12_handSecrets_49 : decode cX12_handSecrets 49 = .ok (.aload_n 0, 1) := by decide +kernel
theorem dX12_handSecrets_50 : decode cX12_handSecrets 50 = .ok (.aload_n 0, 1) := by decide +kernel
theorem dX12_handSecrets_51 : decode cX12_handSecrets 51 = .ok (.getfield 130, 3) := by decide +kernel
theorem dX12_handSecrets_54 : decode cX12_handSecrets 54 = .ok (.iconst 0, 1) := by decide +kernel
theorem dX12_handSecrets_55 : decode cX12_handSecrets 55 = .ok (.aload_n 0, 1) := by decide +kernel
theorem dX12_handSecrets_56 : decode cX12_handSecrets 56 = .ok (.getfield 13, 3) := by decide +kernel
theorem dX12_handSecrets_59 : decode cX12_handSecrets 59 = .ok (.iload_n 1, 1) := by decide +kernel
theorem dX12_handSecrets_60 : decode cX12_handSecrets 60 = .ok (.baload, 1) := by decide +kernel
theorem dX12_handSecrets_61 : decode cX12_handSecrets 61 = .ok (.ifCond .eq 7, 3) := by decide +kernel
theorem dX12_handSecrets_64 : decode cX12_handSecrets 64 = .ok (.iconst 1, 1) := by decide +kernel
theorem dX12_handSecrets_65 : decode cX12_handSecrets 65 = .ok (.goto 4, 3) := by decide +kernel
theorem dX12_handSecrets_68 : decode cX12_handSecrets 68 = .ok (.iconst 2, 1) := by decide +kernel
theorem dX12_handSecrets_69 : decode cX12_handSecrets 69 = .ok (.aload_n 0, 1) := by decide +kernel
theorem dX12_handSecrets_70 : decode cX12_handSecrets 70 = .ok (.getfield 136, 3) := by decide +kernel
theorem dX12_handSecrets_73 : decode cX12_handSecrets 73 = .ok (.bipush 32, 2) := by decide +kernel
theorem dX12_handSecrets_75 : decode cX12_handSecrets 75 = .ok (.aload_n 0, 1) := by decide +kernel
theorem dX12_handSecrets_76 : decode cX12_handSecrets 76 = .ok (.getfield 76, 3) := by decide +kernel
theorem dX12_handSecrets_79 : decode cX12_handSecrets 79 = .ok (.bipush 32, 2) := by decide +kernel
theorem dX12_handSecrets_81 : decode cX12_handSecrets 81 = .ok (.iload_n 1, 1) := by decide +kernel
theorem dX12_handSecrets_82 : decode cX12_handSecrets 82 = .ok (.imul, 1) := by decide +kernel
theorem dX12_handSecrets_83 : decode cX12_handSecrets 83 = .ok (.bipush 32, 2) := by decide +kernel
theorem dX12_handSecrets_85 : decode cX12_handSecrets 85 = .ok (.invokevirtual 330, 3) := by decide +kernel
theorem dX12_handSecrets_88 : decode cX12_handSecrets 88 = .ok (.aload_n 0, 1) := by decide +kernel
theorem dX12_handSecrets_89 : decode cX12_handSecrets 89 = .ok (.getfield 85, 3) := by decide +kernel
theorem dX12_handSecrets_92 : decode cX12_handSecrets 92 = .ok (.iload_n 1, 1) := by decide +kernel
theorem dX12_handSecrets_93 : decode cX12_handSecrets 93 = .ok (.iconst 1, 1) := by decide +kernel
theorem dX12_handSecrets_94 : decode cX12_handSecrets 94 = .ok (.bastore, 1) := by decide +kernel
theorem dX12_handSecrets_95 : decode cX12_handSecrets 95 = .ok (.aload_n 0, 1) := by decide +kernel
theorem dX12_handSecrets_96 : decode cX12_handSecrets 96 = .ok (.getfield 88, 3) := by decide +kernel
theorem dX12_handSecrets_99 : decode cX12_handSecrets 99 = .ok (.iload_n 1, 1) := by decide +kernel
theorem dX12_handSecrets_100 : decode cX12_handSecrets 100 = .ok (.iconst 1, 1) := by decide +kernel
theorem dX12_handSecrets_101 : decode cX12_handSecrets 101 = .ok (.bastore, 1) := by decide +kernel
theorem dX12_handSecrets_102 : decode cX12_handSecrets 102 = .ok (.aload_n 0, 1) := by decide +kernel
theorem dX12_handSecrets_103 : decode cX12_handSecrets 103 = .ok (.getfield 91, 3) := by decide +kernel
theorem dX12_handSecrets_106 : decode cX12_handSecrets 106 = .ok (.iload_n 1, 1) := by decide +kernel
theorem dX12_handSecrets_107 : decode cX12_handSecrets 107 = .ok (.iconst 0, 1) := by decide +kernel
theorem dX12_handSecrets_108 : decode cX12_handSecrets 108 = .ok (.iastore, 1) := by decide +kernel
theorem dX12_handSecrets_109 : decode cX12_handSecrets 109 = .ok (.aload_n 0, 1) := by decide +kernel
theorem dX12_handSecrets_110 : decode cX12_handSecrets 110 = .ok (.getfield 94, 3) := by decide +kernel
theorem dX12_handSecrets_113 : decode cX12_handSecrets 113 = .ok (.iload_n 1, 1) := by decide +kernel
theorem dX12_handSecrets_114 : decode cX12_handSecrets 114 = .ok (.iconst 0, 1) := by decide +kernel
theorem dX12_handSecrets_115 : decode cX12_handSecrets 115 = .ok (.iastore, 1) := by decide +kernel
theorem dX12_handSecrets_116 : decode cX12_handSecrets 116 = .ok (.return_, 1) := by decide +kernel
theorem dX12_fail_0 : decode cX12_fail 0 = .ok (.aload_n 0, 1) := by decide +kernel
theorem dX12_fail_1 : decode cX12_fail 1 = .ok (.getfield 17, 3) := by decide +kernel
theorem dX12_fail_4 : decode cX12_fail 4 = .ok (.iload_n 1, 1) := by decide +kernel
theorem dX12_fail_5 : decode cX12_fail 5 = .ok (.bipush 7, 2) := by decide +kernel
theorem dX12_fail_7 : decode cX12_fail 7 = .ok (.iastore, 1) := by decide +kernel
theorem dX12_fail_8 : decode cX12_fail 8 = .ok (.aload_n 0, 1) := by decide +kernel
theorem dX12_fail_9 : decode cX12_fail 9 = .ok (.getfield 45, 3) := by decide +kernel
theorem dX12_fail_12 : decode cX12_fail 12 = .ok (.iload_n 1, 1) := by decide +kernel
theorem dX12_fail_13 : decode cX12_fail 13 = .ok (.baload, 1) := by decide +kernel
theorem dX12_fail_14 : decode cX12_fail 14 = .ok (.ifCond .ne 11, 3) := by decide +kernel
theorem dX12_fail_17 : decode cX12_fail 17 = .ok (.aload_n 0, 1) := by decide +kernel
theorem dX12_fail_18 : decode cX12_fail 18 = .ok (.iload_n 1, 1) := by decide +kernel
theorem dX12_fail_19 : decode cX12_fail 19 = .ok (.invokevirtual 425, 3) := by decide +kernel
theorem dX12_fail_22 : decode cX12_fail 22 = .ok (.ifCond .eq 11, 3) := by decide +kernel
theorem dX12_fail_25 : decode cX12_fail 25 = .ok (.aload_n 0, 1) := by decide +kernel
theorem dX12_fail_26 : decode cX12_fail 26 = .ok (.getfield 39, 3) := by decide +kernel
theorem dX12_fail_29 : decode cX12_fail 29 = .ok (.iload_n 1, 1) := by decide +kernel
theorem dX12_fail_30 : decode cX12_fail 30 = .ok (.iload_n 2, 1) := by decide +kernel
theorem dX12_fail_31 : decode cX12_fail 31 = .ok (.iastore, 1) := by decide +kernel
theorem dX12_fail_32 : decode cX12_fail 32 = .ok (.return_, 1) := by decide +kernel
theorem dX12_fail_33 : decode cX12_fail 33 = .ok (.aload_n 0, 1) := by decide +kernel
theorem dX12_fail_34 : decode cX12_fail 34 = .ok (.getfield 39, 3) := by decide +kernel
theorem dX12_fail_37 : decode cX12_fail 37 = .ok (.iload_n 1, 1) := by decide +kernel
theorem dX12_fail_38 : decode cX12_fail 38 = .ok (.iload_n 2, 1) := by decide +kernel
theorem dX12_fail_39 : decode cX12_fail 39 = .ok (.iastore, 1) := by decide +kernel
theorem dX12_fail_40 : decode cX12_fail 40 = .ok (.aload_n 0, 1) := by decide +kernel
theorem dX12_fail_41 : decode cX12_fail 41 = .ok (.iload_n 1, 1) := by decide +kernel
theorem dX12_fail_42 : decode cX12_fail 42 = .ok (.iconst 2, 1) := by decide +kernel
theorem dX12_fail_43 : decode cX12_fail 43 = .ok (.iload_n 2, 1) := by decide +kernel
theorem dX12_fail_44 : decode cX12_fail 44 = .ok (.invokevirtual 429, 3) := by decide +kernel
theorem dX12_fail_47 : decode cX12_fail 47 = .ok (.return_, 1) := by decide +kernel
theorem dX12_isOpened_0 : decode cX12_isOpened 0 = .ok (.iload_n 2, 1) := by decide +kernel
theorem dX12_isOpened_1 : decode cX12_isOpened 1 = .ok (.bipush 17, 2) := by decide +kernel
theorem dX12_isOpened_3 : decode cX12_isOpened 3 = .ok (.if_icmp .ge 5, 3) := by decide +kernel
theorem dX12_isOpened_6 : decode cX12_isOpened 6 = .ok (.iconst 0, 1) := by decide +kernel
theorem dX12_isOpened_7 : decode cX12_isOpened 7 = .ok (.ireturn, 1) := by decide +kernel
theorem dX12_isOpened_8 : decode cX12_isOpened 8 = .ok (.aload_n 0, 1) := by decide +kernel
theorem dX12_isOpened_9 : decode cX12_isOpened 9 = .ok (.aload_n 0, 1) := by decide +kernel
theorem dX12_isOpened_10 : decode cX12_isOpened 10 = .ok (.getfield 76, 3) := by decide +kernel
theorem dX12_isOpened_13 : decode cX12_isOpened 13 = .ok (.iload_n 1, 1) := by decide +kernel
theorem dX12_isOpened_14 : decode cX12_isOpened 14 = .ok (.aload_n 0, 1) := by decide +kernel
theorem dX12_isOpened_15 : decode cX12_isOpened 15 = .ok (.getfield 94, 3) := by decide +kernel
theorem dX12_isOpened_18 : decode cX12_isOpened 18 = .ok (.iload_n 1, 1) := by decide +kernel
theorem dX12_isOpened_19 : decode cX12_isOpened 19 = .ok (.iaload, 1) := by decide +kernel
theorem dX12_isOpened_20 : decode cX12_isOpened 20 = .ok (.invokevirtual 380, 3) := by decide +kernel
theorem dX12_isOpened_23 : decode cX12_isOpened 23 = .ok (.aload_n 0, 1) := by decide +kernel
theorem dX12_isOpened_24 : decode cX12_isOpened 24 = .ok (.aload_n 0, 1) := by decide +kernel
theorem dX12_isOpened_25 : decode cX12_isOpened 25 = .ok (.getfield 182, 3) := by decide +kernel
theorem dX12_isOpened_28 : decode cX12_isOpened 28 = .ok (.iconst 0, 1) := by decide +kernel
theorem dX12_isOpened_29 : decode cX12_isOpened 29 = .ok (.iconst 5, 1) := by decide +kernel
theorem dX12_isOpened_30 : decode cX12_isOpened 30 = .ok (.iload_n 2, 1) := by decide +kernel
theorem dX12_isOpened_31 : decode cX12_isOpened 31 = .ok (.bipush 16, 2) := by decide +kernel
theorem dX12_isOpened_33 : decode cX12_isOpened 33 = .ok (.isub, 1) := by decide +kernel
theorem dX12_isOpened_34 : decode cX12_isOpened 34 = .ok (.invokevirtual 386, 3) := by decide +kernel
theorem dX12_isOpened_37 : decode cX12_isOpened 37 = .ok (.iconst 0, 1) := by decide +kernel
theorem dX12_isOpened_38 : decode cX12_isOpened 38 = .ok (.istore_n 3, 1) := by decide +kernel
theorem dX12_isOpened_39 : decode cX12_isOpened 39 = .ok (.iload_n 3, 1) := by decide +kernel
theorem dX12_isOpened_40 : decode cX12_isOpened 40 = .ok (.bipush 16, 2) := by decide +kernel
theorem dX12_isOpened_42 : decode cX12_isOpened 42 = .ok (.if_icmp .ge 33, 3) := by decide +kernel
theorem dX12_isOpened_45 : decode cX12_isOpened 45 = .ok (.aload_n 0, 1) := by decide +kernel
theorem dX12_isOpened_46 : decode cX12_isOpened 46 = .ok (.getfield 170, 3) := by decide +kernel
theorem dX12_isOpened_49 : decode cX12_isOpened 49 = .ok (.iload_n 3, 1) := by decide +kernel
theorem dX12_isOpened_50 : decode cX12_isOpened 50 = .ok (.baload, 1) := by decide +kernel
theorem dX12_isOpened_51 : decode cX12_isOpened 51 = .ok (.aload_n 0, 1) := by decide +kernel
theorem dX12_isOpened_52 : decode cX12_isOpened 52 = .ok (.getfield 182, 3) := by decide +kernel
theorem dX12_isOpened_55 : decode cX12_isOpened 55 = .ok (.iconst 5, 1) := by decide +kernel
theorem dX12_isOpened_56 : decode cX12_isOpened 56 = .ok (.iload_n 2, 1) := by decide +kernel
theorem dX12_isOpened_57 : decode cX12_isOpened 57 = .ok (.iadd, 1) := by decide +kernel
theorem dX12_isOpened_58 : decode cX12_isOpened 58 = .ok (.bipush 16, 2) := by decide +kernel
theorem dX12_isOpened_60 : decode cX12_isOpened 60 = .ok (.isub, 1) := by decide +kernel
theorem dX12_isOpened_61 : decode cX12_isOpened 61 = .ok (.iload_n 3, 1) := by decide +kernel
theorem dX12_isOpened_62 : decode cX12_isOpened 62 = .ok (.iadd, 1) := by decide +kernel
theorem dX12_isOpened_63 : decode cX12_isOpened 63 = .ok (.baload, 1) := by decide +kernel
theorem dX12_isOpened_64 : decode cX12_isOpened 64 = .ok (.if_icmp .eq 5, 3) := by decide +kernel
theorem dX12_isOpened_67 : decode cX12_isOpened 67 = .ok (.iconst 0, 1) := by decide +kernel
theorem dX12_isOpened_68 : decode cX12_isOpened 68 = .ok (.ireturn, 1) := by decide +kernel
theorem dX12_isOpened_69 : decode cX12_isOpened 69 = .ok (.iinc 3 1, 3) := by decide +kernel
theorem dX12_isOpened_72 : decode cX12_isOpened 72 = .ok (.goto (-33), 3) := by decide +kernel
theorem dX12_isOpened_75 : decode cX12_isOpened 75 = .ok (.aload_n 0, 1) := by decide +kernel
theorem dX12_isOpened_76 : decode cX12_isOpened 76 = .ok (.getfield 94, 3) := by decide +kernel
theorem dX12_isOpened_79 : decode cX12_isOpened 79 = .ok (.iload_n 1, 1) := by decide +kernel
theorem dX12_isOpened_80 : decode cX12_isOpened 80 = .ok (.dup2, 1) := by decide +kernel
theorem dX12_isOpened_81 : decode cX12_isOpened 81 = .ok (.iaload, 1) := by decide +kernel
theorem dX12_isOpened_82 : decode cX12_isOpened 82 = .ok (.iconst 1, 1) := by decide +kernel
theorem dX12_isOpened_83 : decode cX12_isOpened 83 = .ok (.iadd, 1) := by decide +kernel
theorem dX12_isOpened_84 : decode cX12_isOpened 84 = .ok (.iastore, 1) := by decide +kernel
theorem dX12_isOpened_85 : decode cX12_isOpened 85 = .ok (.aload_n 0, 1) := by decide +kernel
theorem dX12_isOpened_86 : decode cX12_isOpened 86 = .ok (.aload_n 0, 1) := by decide +kernel
theorem dX12_isOpened_87 : decode cX12_isOpened 87 = .ok (.getfield 182, 3) := by decide +kernel
theorem dX12_isOpened_90 : decode cX12_isOpened 90 = .ok (.iconst 5, 1) := by decide +kernel
theorem dX12_isOpened_91 : decode cX12_isOpened 91 = .ok (.iload_n 2, 1) := by decide +kernel
theorem dX12_isOpened_92 : decode cX12_isOpened 92 = .ok (.bipush 16, 2) := by decide +kernel
theorem dX12_isOpened_94 : decode cX12_isOpened 94 = .ok (.isub, 1) := by decide +kernel
theorem dX12_isOpened_95 : decode cX12_isOpened 95 = .ok (.invokevirtual 383, 3) := by decide +kernel
theorem dX12_isOpened_98 : decode cX12_isOpened 98 = .ok (.iconst 1, 1) := by decide +kernel
theorem dX12_isOpened_99 : decode cX12_isOpened 99 = .ok (.ireturn, 1) := by decide +kernel
theorem dX12_readRecord_0 : decode cX12_readRecord 0 = .ok (.aload_n 0, 1) := by decide +kernel
theorem dX12_readRecord_1 : decode cX12_readRecord 1 = .ok (.getfield 17, 3) := by decide +kernel
theorem dX12_readRecord_4 : decode cX12_readRecord 4 = .ok (.iload_n 1, 1) := by decide +kernel
theorem dX12_readRecord_5 : decode cX12_readRecord 5 = .ok (.iaload, 1) := by decide +kernel
theorem dX12_readRecord_6 : decode cX12_readRecord 6 = .ok (.ifCond .eq 23, 3) := by decide +kernel
theorem dX12_readRecord_9 : decode cX12_readRecord 9 = .ok (.aload_n 0, 1) := by decide +kernel
theorem dX12_readRecord_10 : decode cX12_readRecord 10 = .ok (.getfield 17, 3) := by decide +kernel
theorem dX12_readRecord_13 : decode cX12_readRecord 13 = .ok (.iload_n 1, 1) := by decide +kernel
theorem dX12_readRecord_14 : decode cX12_readRecord 14 = .ok (.iaload, 1) := by decide +kernel
theorem dX12_readRecord_15 : decode cX12_readRecord 15 = .ok (.bipush 7, 2) := by decide +kernel
theorem dX12_readRecord_17 : decode cX12_readRecord 17 = .ok (.if_icmp .eq 12, 3) := by decide +kernel
theorem dX12_readRecord_20 : decode cX12_readRecord 20 = .ok (.aload_n 0, 1) := by decide +kernel
theorem dX12_readRecord_21 : decode cX12_readRecord 21 = .ok (.getfield 48, 3) := by decide +kernel
theorem dX12_readRecord_24 : decode cX12_readRecord 24 = .ok (.iload_n 1, 1) := by decide +kernel
theorem dX12_readRecord_25 : decode cX12_readRecord 25 = .ok (.baload, 1) := by decide +kernel
theorem dX12_readRecord_26 : decode cX12_readRecord 26 = .ok (.ifCond .eq 4, 3) := by decide +kernel
theorem dX12_readRecord_29 : decode cX12_readRecord 29 = .ok (.return_, 1) := by decide +kernel
theorem dX12_readRecord_30 : decode cX12_readRecord 30 = .ok (.aload_n 0, 1) := by decide +kernel
theorem dX12_readRecord_31 : decode cX12_readRecord 31 = .ok (.iload_n 1, 1) := by decide +kernel
theorem dX12_readRecord_32 : decode cX12_readRecord 32 = .ok (.iload_n 2, 1) := by decide +kernel
theorem dX12_readRecord_33 : decode cX12_readRecord 33 = .ok (.invokevirtual 433, 3) := by decide +kernel
theorem dX12_readRecord_36 : decode cX12_readRecord 36 = .ok (.istore_n 3, 1) := by decide +kernel
theorem dX12_readRecord_37 : decode cX12_readRecord 37 = .ok (.iload_n 3, 1) := by decide +kernel
theorem dX12_readRecord_38 : decode cX12_readRecord 38 = .ok (.ifCond .le 10, 3) := by decide +kernel
theorem dX12_readRecord_41 : decode cX12_readRecord 41 = .ok (.aload_n 0, 1) := by decide +kernel
theorem dX12_readRecord_42 : decode cX12_readRecord 42 = .ok (.iload_n 1, 1) := by decide +kernel
theorem dX12_readRecord_43 : decode cX12_readRecord 43 = .ok (.iload_n 3, 1) := by decide +kernel
theorem dX12_readRecord_44 : decode cX12_readRecord 44 = .ok (.invokevirtual 436, 3) := by decide +kernel
theorem dX12_readRecord_47 : decode cX12_readRecord 47 = .ok (.return_, 1) := by decide +kernel
theorem dX12_readRecord_48 : decode cX12_readRecord 48 = .ok (.aload_n 0, 1) := by decide +kernel
theorem dX12_readRecord_49 : decode cX12_readRecord 49 = .ok (.aload_n 0, 1) := by decide +kernel
theorem dX12_readRecord_50 : decode cX12_readRecord 50 = .ok (.getfield 182, 3) := by decide +kernel
theorem dX12_readRecord_53 : decode cX12_readRecord 53 = .ok (.iconst 0, 1) := by decide +kernel
theorem dX12_readRecord_54 : decode cX12_readRecord 54 = .ok (.baload, 1) := by decide +kernel
theorem dX12_readRecord_55 : decode cX12_readRecord 55 = .ok (.sipush 255, 3) := by decide +kernel
theorem dX12_readRecord_58 : decode cX12_readRecord 58 = .ok (.iand, 1) := by decide +kernel
theorem dX12_readRecord_59 : decode cX12_readRecord 59 = .ok (.putfield 439, 3) := by decide +kernel
theorem dX12_readRecord_62 : decode cX12_readRecord 62 = .ok (.aload_n 0, 1) := by decide +kernel
theorem dX12_readRecord_63 : decode cX12_readRecord 63 = .ok (.iload_n 2, 1) := by decide +kernel
theorem dX12_readRecord_64 : decode cX12_readRecord 64 = .ok (.iconst 5, 1) := by decide +kernel
theorem dX12_readRecord_65 : decode cX12_readRecord 65 = .ok (.isub, 1) := by decide +kernel
theorem dX12_readRecord_66 : decode cX12_readRecord 66 = .ok (.putfield 442, 3) := by decide +kernel
theorem dX12_readRecord_69 : decode cX12_readRecord 69 = .ok (.aload_n 0, 1) := by decide +kernel
theorem dX12_readRecord_70 : decode cX12_readRecord 70 = .ok (.getfield 439, 3) := by decide +kernel
theorem dX12_readRecord_73 : decode cX12_readRecord 73 = .ok (.bipush 20, 2) := by decide +kernel
theorem dX12_readRecord_75 : decode cX12_readRecord 75 = .ok (.if_icmp .ne 4, 3) := by decide +kernel
theorem dX12_readRecord_78 : decode cX12_readRecord 78 = .ok (.return_, 1) := by decide +kernel
theorem dX12_readRecord_79 : decode cX12_readRecord 79 = .ok (.aload_n 0, 1) := by decide +kernel
theorem dX12_readRecord_80 : decode cX12_readRecord 80 = .ok (.getfield 88, 3) := by decide +kernel
theorem dX12_readRecord_83 : decode cX12_readRecord 83 = .ok (.iload_n 1, 1) := by decide +kernel
theorem dX12_readRecord_84 : decode cX12_readRecord 84 = .ok (.baload, 1) := by decide +kernel
theorem dX12_readRecord_85 : decode cX12_readRecord 85 = .ok (.ifCond .eq 112, 3) := by decide +kernel
theorem dX12_readRecord_88 : decode cX12_readRecord 88 = .ok (.aload_n 0, 1) := by decide +kernel
theorem dX12_readRecord_89 : decode cX12_readRecord 89 = .ok (.iload_n 1, 1) := by decide +kernel
theorem dX12_readRecord_90 : decode cX12_readRecord 90 = .ok (.aload_n 0, 1) := by decide +kernel
theorem dX12_readRecord_91 : decode cX12_readRecord 91 = .ok (.getfield 442, 3) := by decide +kernel
theorem dX12_readRecord_94 : decode cX12_readRecord 94 = .ok (.invokevirtual 445, 3) := by decide +kernel
theorem dX12_readRecord_97 : decode cX12_readRecord 97 = .ok (.ifCond .ne 11, 3) := by decide +kernel
theorem dX12_readRecord_100 : decode cX12_readRecord 100 = .ok (.aload_n 0, 1) := by decide +kernel
theorem dX12_readRecord_101 : decode cX12_readRecord 101 = .ok (.iload_n 1, 1) := by decide +kernel
theorem dX12_readRecord_102 : decode cX12_readRecord 102 = .ok (.bipush 20, 2) := by decide +kernel
theorem dX12_readRecord_104 : decode cX12_readRecord 104 = .ok (.invokevirtual 436, 3) := by decide +kernel
theorem dX12_readRecord_107 : decode cX12_readRecord 107 = .ok (.return_, 1) := by decide +kernel
theorem dX12_readRecord_108 : decode cX12_readRecord 108 = .ok (.aload_n 0, 1) := by decide +kernel
theorem dX12_readRecord_109 : decode cX12_readRecord 109 = .ok (.dup, 1) := by decide +kernel
theorem dX12_readRecord_110 : decode cX12_readRecord 110 = .ok (.getfield 442, 3) := by decide +kernel
theorem dX12_readRecord_113 : decode cX12_readRecord 113 = .ok (.bipush 16, 2) := by decide +kernel
theorem dX12_readRecord_115 : decode cX12_readRecord 115 = .ok (.isub, 1) := by decide +kernel
theorem dX12_readRecord_116 : decode cX12_readRecord 116 = .ok (.putfield 442, 3) := by decide +kernel
theorem dX12_readRecord_119 : decode cX12_readRecord 119 = .ok (.aload_n 0, 1) := by decide +kernel
theorem dX12_readRecord_120 : decode cX12_readRecord 120 = .ok (.getfield 442, 3) := by decide +kernel
theorem dX12_readRecord_123 : decode cX12_readRecord 123 = .ok (.ifCond .le 30, 3) := by decide +kernel
theorem dX12_readRecord_126 : decode cX12_readRecord 126 = .ok (.aload_n 0, 1) := by decide +kernel
theorem dX12_readRecord_127 : decode cX12_readRecord 127 = .ok (.getfield 182, 3) := by decide +kernel
theorem dX12_readRecord_130 : decode cX12_readRecord 130 = .ok (.iconst 4, 1) := by decide +kernel
theorem dX12_readRecord_131 : decode cX12_readRecord 131 = .ok (.aload_n 0, 1) := by decide +kernel
theorem dX12_readRecord_132 : decode cX12_readRecord 132 = .ok (.getfield 442, 3) := by decide +kernel
theorem dX12_readRecord_135 : decode cX12_readRecord 135 = .ok (.iadd, 1) := by decide +kernel
theorem dX12_readRecord_136 : decode cX12_readRecord 136 = .ok (.baload, 1) := by decide +kernel
theorem dX12_readRecord_137 : decode cX12_readRecord 137 = .ok (.ifCond .ne 16, 3) := by decide +kernel
theorem dX12_readRecord_140 : decode cX12_readRecord 140 = .ok (.aload_n 0, 1) := by decide +kernel
theorem dX12_readRecord_141 : decode cX12_readRecord 141 = .ok (.dup, 1) := by decide +kernel
theorem dX12_readRecord_142 : decode cX12_readRecord 142 = .ok (.getfield 442, 3) := by decide +kernel
theorem dX12_readRecord_145 : decode cX12_readRecord 145 = .ok (.iconst 1, 1) := by decide +kernel
theorem dX12_readRecord_146 : decode cX12_readRecord 146 = .ok (.isub, 1) := by decide +kernel
theorem dX12_readRecord_147 : decode cX12_readRecord 147 = .ok (.putfield 442, 3) := by decide +kernel
theorem dX12_readRecord_150 : decode cX12_readRecord 150 = .ok (.goto (-31), 3) := by decide +kernel
theorem dX12_readRecord_153 : decode cX12_readRecord 153 = .ok (.aload_n 0, 1) := by decide +kernel
theorem dX12_readRecord_154 : decode cX12_readRecord 154 = .ok (.getfield 442, 3) := by decide +kernel
theorem dX12_readRecord_157 : decode cX12_readRecord 157 = .ok (.ifCond .ne 11, 3) := by decide +kernel
theorem dX12_readRecord_160 : decode cX12_readRecord 160 = .ok (.aload_n 0, 1) := by decide +kernel
theorem dX12_readRecord_161 : decode cX12_readRecord 161 = .ok (.iload_n 1, 1) := by decide +kernel
theorem dX12_readRecord_162 : decode cX12_readRecord 162 = .ok (.bipush 10, 2) := by decide +kernel
theorem dX12_readRecord_164 : decode cX12_readRecord 164 = .ok (.invokevirtual 436, 3) := by decide +kernel
theorem dX12_readRecord_167 : decode cX12_readRecord 167 = .ok (.return_, 1) := by decide +kernel
theorem dX12_readRecord_168 : decode cX12_readRecord 168 = .ok (.aload_n 0, 1) := by decide +kernel
theorem dX12_readRecord_169 : decode cX12_readRecord 169 = .ok (.dup, 1) := by decide +kernel
theorem dX12_readRecord_170 : decode cX12_readRecord 170 = .ok (.getfield 442, 3) := by decide +kernel
theorem dX12_readRecord_173 : decode cX12_readRecord 173 = .ok (.iconst 1, 1) := by decide +kernel
theorem dX12_readRecord_174 : decode cX12_readRecord 174 = .ok (.isub, 1) := by decide +kernel
theorem dX12_readRecord_175 : decode cX12_readRecord 175 = .ok (.putfield 442, 3) := by decide +kernel
theorem dX12_readRecord_178 : decode cX12_readRecord 178 = .ok (.aload_n 0, 1) := by decide +kernel
theorem dX12_readRecord_179 : decode cX12_readRecord 179 = .ok (.aload_n 0, 1) := by decide +kernel
theorem dX12_readRecord_180 : decode cX12_readRecord 180 = .ok (.getfield 182, 3) := by decide +kernel
theorem dX12_readRecord_183 : decode cX12_readRecord 183 = .ok (.iconst 5, 1) := by decide +kernel
theorem dX12_readRecord_184 : decode cX12_readRecord 184 = .ok (.aload_n 0, 1) := by decide +kernel
theorem dX12_readRecord_185 : decode cX12_readRecord 185 = .ok (.getfield 442, 3) := by decide +kernel
theorem dX12_readRecord_188 : decode cX12_readRecord 188 = .ok (.iadd, 1) := by decide +kernel
theorem dX12_readRecord_189 : decode cX12_readRecord 189 = .ok (.baload, 1) := by decide +kernel
theorem dX12_readRecord_190 : decode cX12_readRecord 190 = .ok (.sipush 255, 3) := by decide +kernel
theorem dX12_readRecord_193 : decode cX12_readRecord 193 = .ok (.iand, 1) := by decide +kernel
theorem dX12_readRecord_194 : decode cX12_readRecord 194 = .ok (.putfield 439, 3) := by decide +kernel
theorem dX12_readRecord_197 : decode cX12_readRecord 197 = .ok (.aload_n 0, 1) := by decide +kernel
theorem dX12_readRecord_198 : decode cX12_readRecord 198 = .ok (.getfield 439, 3) := by decide +kernel
theorem dX12_readRecord_201 : decode cX12_readRecord 201 = .ok (.bipush 21, 2) := by decide +kernel
theorem dX12_readRecord_203 : decode cX12_readRecord 203 = .ok (.if_icmp .ne 11, 3) := by decide +kernel
theorem dX12_readRecord_206 : decode cX12_readRecord 206 = .ok (.aload_n 0, 1) := by decide +kernel
theorem dX12_readRecord_207 : decode cX12_readRecord 207 = .ok (.iload_n 1, 1) := by decide +kernel
theorem dX12_readRecord_208 : decode cX12_readRecord 208 = .ok (.invokevirtual 449, 3) := by decide +kernel
theorem dX12_readRecord_211 : decode cX12_readRecord 211 = .ok (.goto 53, 3) := by decide +kernel
theorem dX12_readRecord_214 : decode cX12_readRecord 214 = .ok (.aload_n 0, 1) := by decide +kernel
theorem dX12_readRecord_215 : decode cX12_readRecord 215 = .ok (.getfield 439, 3) := by decide +kernel
theorem dX12_readRecord_218 : decode cX12_readRecord 218 = .ok (.bipush 23, 2) := by decide +kernel
theorem dX12_readRecord_220 : decode cX12_readRecord 220 = .ok (.if_icmp .ne 20, 3) := by decide +kernel
theorem dX12_readRecord_223 : decode cX12_readRecord 223 = .ok (.aload_n 0, 1) := by decide +kernel
theorem dX12_readRecord_224 : decode cX12_readRecord 224 = .ok (.getfield 88, 3) := by decide +kernel
theorem dX12_readRecord_227 : decode cX12_readRecord 227 = .ok (.iload_n 1, 1) := by decide +kernel
theorem dX12_readRecord_228 : decode cX12_readRecord 228 = .ok (.baload, 1) := by decide +kernel
theorem dX12_readRecord_229 : decode cX12_readRecord 229 = .ok (.ifCond .eq 11, 3) := by decide +kernel
theorem dX12_readRecord_232 : decode cX12_readRecord 232 = .ok (.aload_n 0, 1) := by decide +kernel
theorem dX12_readRecord_233 : decode cX12_readRecord 233 = .ok (.iload_n 1, 1) := by decide +kernel
theorem dX12_readRecord_234 : decode cX12_readRecord 234 = .ok (.invokevirtual 452, 3) := by decide +kernel
theorem dX12_readRecord_237 : decode cX12_readRecord 237 = .ok (.goto 27, 3) := by decide +kernel
theorem dX12_readRecord_240 : decode cX12_readRecord 240 = .ok (.aload_n 0, 1) := by decide +kernel
theorem dX12_readRecord_241 : decode cX12_readRecord 241 = .ok (.getfield 439, 3) := by decide +kernel
theorem dX12_readRecord_244 : decode cX12_readRecord 244 = .ok (.bipush 22, 2) := by decide +kernel
theorem dX12_readRecord_246 : decode cX12_readRecord 246 = .ok (.if_icmp .ne 11, 3) := by decide +kernel
theorem dX12_readRecord_249 : decode cX12_readRecord 249 = .ok (.aload_n 0, 1) := by decide +kernel
theorem dX12_readRecord_250 : decode cX12_readRecord 250 = .ok (.iload_n 1, 1) := by decide +kernel
theorem dX12_readRecord_251 : decode cX12_readRecord 251 = .ok (.invokevirtual 455, 3) := by decide +kernel
theorem dX12_readRecord_254 : decode cX12_readRecord 254 = .ok (.goto 10, 3) := by decide +kernel
theorem dX12_readRecord_257 : decode cX12_readRecord 257 = .ok (.aload_n 0, 1) := by decide +kernel
theorem dX12_readRecord_258 : decode cX12_readRecord 258 = .ok (.iload_n 1, 1) := by decide +kernel
theorem dX12_readRecord_259 : decode cX12_readRecord 259 = .ok (.bipush 10, 2) := by decide +kernel
theorem dX12_readRecord_261 : decode cX12_readRecord 261 = .ok (.invokevirtual 436, 3) := by decide +kernel
theorem dX12_readRecord_264 : decode cX12_readRecord 264 = .ok (.return_, 1) := by decide +kernel
theorem dX12_outerFault_0 : decode cX12_outerFault 0 = .ok (.iload_n 2, 1) := by decide +kernel
theorem dX12_outerFault_1 : decode cX12_outerFault 1 = .ok (.iconst 5, 1) := by decide +kernel
theorem dX12_outerFault_2 : decode cX12_outerFault 2 = .ok (.if_icmp .ge 6, 3) := by decide +kernel
theorem dX12_outerFault_5 : decode cX12_outerFault 5 = .ok (.bipush 50, 2) := by decide +kernel
theorem dX12_outerFault_7 : decode cX12_outerFault 7 = .ok (.ireturn, 1) := by decide +kernel
theorem dX12_outerFault_8 : decode cX12_outerFault 8 = .ok (.aload_n 0, 1) := by decide +kernel
theorem dX12_outerFault_9 : decode cX12_outerFault 9 = .ok (.getfield 182, 3) := by decide +kernel
theorem dX12_outerFault_12 : decode cX12_outerFault 12 = .ok (.iconst 0, 1) := by decide +kernel
theorem dX12_outerFault_13 : decode cX12_outerFault 13 = .ok (.baload, 1) := by decide +kernel
theorem dX12_outerFault_14 : decode cX12_outerFault 14 = .ok (.sipush 255, 3) := by decide +kernel
theorem dX12_outerFault_17 : decode cX12_outerFault 17 = .ok (.iand, 1) := by decide +kernel
theorem dX12_outerFault_18 : decode cX12_outerFault 18 = .ok (.istore_n 3, 1) := by decide +kernel
theorem dX12_outerFault_19 : decode cX12_outerFault 19 = .ok (.aload_n 0, 1) := by decide +kernel
theorem dX12_outerFault_20 : decode cX12_outerFault 20 = .ok (.getfield 182, 3) := by decide +kernel
theorem dX12_outerFault_23 : decode cX12_outerFault 23 = .ok (.iconst 3, 1) := by decide +kernel
theorem dX12_outerFault_24 : decode cX12_outerFault 24 = .ok (.baload, 1) := by decide +kernel
theorem dX12_outerFault_25 : decode cX12_outerFault 25 = .ok (.sipush 255, 3) := by decide +kernel
theorem dX12_outerFault_28 : decode cX12_outerFault 28 = .ok (.iand, 1) := by decide +kernel
theorem dX12_outerFault_29 : decode cX12_outerFault 29 = .ok (.bipush 8, 2) := by decide +kernel
theorem dX12_outerFault_31 : decode cX12_outerFault 31 = .ok (.ishl, 1) := by decide +kernel
theorem dX12_outerFault_32 : decode cX12_outerFault 32 = .ok (.aload_n 0, 1) := by decide +kernel
theorem dX12_outerFault_33 : decode cX12_outerFault 33 = .ok (.getfield 182, 3) := by decide +kernel
theorem dX12_outerFault_36 : decode cX12_outerFault 36 = .ok (.iconst 4, 1) := by decide +kernel
theorem dX12_outerFault_37 : decode cX12_outerFault 37 = .ok (.baload, 1) := by decide +kernel
theorem dX12_outerFault_38 : decode cX12_outerFault 38 = .ok (.sipush 255, 3) := by decide +kernel
theorem dX12_outerFault_41 : decode cX12_outerFault 41 = .ok (.iand, 1) := by decide +kernel
theorem dX12_outerFault_42 : decode cX12_outerFault 42 = .ok (.ior, 1) := by decide +kernel
theorem dX12_outerFault_43 : decode cX12_outerFault 43 = .ok (.istore 4, 2) := by decide +kernel
theorem dX12_outerFault_45 : decode cX12_outerFault 45 = .ok (.iload 4, 2) := by decide +kernel
theorem dX12_outerFault_47 : decode cX12_outerFault 47 = .ok (.iload_n 3, 1) := by decide +kernel
theorem dX12_outerFault_48 : decode cX12_outerFault 48 = .ok (.bipush 23, 2) := by decide +kernel
theorem dX12_outerFault_50 : decode cX12_outerFault 50 = .ok (.if_icmp .ne 9, 3) := by decide +kernel
theorem dX12_outerFault_53 : decode cX12_outerFault 53 = .ok (.sipush 16640, 3) := by decide +kernel
theorem dX12_outerFault_56 : decode cX12_outerFault 56 = .ok (.goto 6, 3) := by decide +kernel
theorem dX12_outerFault_59 : decode cX12_outerFault 59 = .ok (.sipush 16384, 3) := by decide +kernel
theorem dX12_outerFault_62 : decode cX12_outerFault 62 = .ok (.if_icmp .le 6, 3) := by decide +kernel
theorem dX12_outerFault_65 : decode cX12_outerFault 65 = .ok (.bipush 22, 2) := by decide +kernel
theorem dX12_outerFault_67 : decode cX12_outerFault 67 = .ok (.ireturn, 1) := by decide +kernel
theorem dX12_outerFault_68 : decode cX12_outerFault 68 = .ok (.iload 4, 2) := by decide +kernel
theorem dX12_outerFault_70 : decode cX12_outerFault 70 = .ok (.iload_n 2, 1) := by decide +kernel
theorem dX12_outerFault_71 : decode cX12_outerFault 71 = .ok (.iconst 5, 1) := by decide +kernel
theorem dX12_outerFault_72 : decode cX12_outerFault 72 = .ok (.isub, 1) := by decide +kernel
theorem dX12_outerFault_73 : decode cX12_outerFault 73 = .ok (.if_icmp .eq 6, 3) := by decide +kernel
theorem dX12_outerFault_76 : decode cX12_outerFault 76 = .ok (.bipush 50, 2) := by decide +kernel
theorem dX12_outerFault_78 : decode cX12_outerFault 78 = .ok (.ireturn, 1) := by decide +kernel
theorem dX12_outerFault_79 : decode cX12_outerFault 79 = .ok (.aload_n 0, 1) := by decide +kernel
theorem dX12_outerFault_80 : decode cX12_outerFault 80 = .ok (.getfield 182, 3) := by decide +kernel
theorem dX12_outerFault_83 : decode cX12_outerFault 83 = .ok (.iconst 1, 1) := by decide +kernel
theorem dX12_outerFault_84 : decode cX12_outerFault 84 = .ok (.baload, 1) := by decide +kernel
theorem dX12_outerFault_85 : decode cX12_outerFault 85 = .ok (.iconst 3, 1) := by decide +kernel
theorem dX12_outerFault_86 : decode cX12_outerFault 86 = .ok (.if_icmp .ne 13, 3) := by decide +kernel
theorem dX12_outerFault_89 : decode cX12_outerFault 89 = .ok (.aload_n 0, 1) := by decide +kernel
theorem dX12_outerFault_90 : decode cX12_outerFault 90 = .ok (.getfield 182, 3) := by decide +kernel
theorem dX12_outerFault_93 : decode cX12_outerFault 93 = .ok (.iconst 2, 1) := by decide +kernel
theorem dX12_outerFault_94 : decode cX12_outerFault 94 = .ok (.baload, 1) := by decide +kernel
theorem dX12_outerFault_95 : decode cX12_outerFault 95 = .ok (.iconst 3, 1) := by decide +kernel
theorem dX12_outerFault_96 : decode cX12_outerFault 96 = .ok (.if_icmp .eq 6, 3) := by decide +kernel
theorem dX12_outerFault_99 : decode cX12_outerFault 99 = .ok (.bipush 70, 2) := by decide +kernel
theorem dX12_outerFault_101 : decode cX12_outerFault 101 = .ok (.ireturn, 1) := by decide +kernel
theorem dX12_outerFault_102 : decode cX12_outerFault 102 = .ok (.iload_n 3, 1) := by decide +kernel
theorem dX12_outerFault_103 : decode cX12_outerFault 103 = .ok (.bipush 20, 2) := by decide +kernel
theorem dX12_outerFault_105 : decode cX12_outerFault 105 = .ok (.if_icmp .ne 50, 3) := by decide +kernel
theorem dX12_outerFault_108 : decode cX12_outerFault 108 = .ok (.iload 4, 2) := by decide +kernel
theorem dX12_outerFault_110 : decode cX12_outerFault 110 = .ok (.iconst 1, 1) := by decide +kernel
theorem dX12_outerFault_111 : decode cX12_outerFault 111 = .ok (.if_icmp .ne 41, 3) := by decide +kernel
theorem dX12_outerFault_114 : decode cX12_outerFault 114 = .ok (.aload_n 0, 1) := by decide +kernel
theorem dX12_outerFault_115 : decode cX12_outerFault 115 = .ok (.getfield 182, 3) := by decide +kernel
theorem dX12_outerFault_118 : decode cX12_outerFault 118 = .ok (.iconst 5, 1) := by decide +kernel
theorem dX12_outerFault_119 : decode cX12_outerFault 119 = .ok (.baload, 1) := by decide +kernel
theorem dX12_outerFault_120 : decode cX12_outerFault 120 = .ok (.iconst 1, 1) := by decide +kernel
theorem dX12_outerFault_121 : decode cX12_outerFault 121 = .ok (.if_icmp .ne 31, 3) := by decide +kernel
theorem dX12_outerFault_124 : decode cX12_outerFault 124 = .ok (.aload_n 0, 1) := by decide +kernel
theorem dX12_outerFault_125 : decode cX12_outerFault 125 = .ok (.getfield 17, 3) := by decide +kernel
theorem dX12_outerFault_128 : decode cX12_outerFault 128 = .ok (.iload_n 1, 1) := by decide +kernel
theorem dX12_outerFault_129 : decode cX12_outerFault 129 = .ok (.iaload, 1) := by decide +kernel
theorem dX12_outerFault_130 : decode cX12_outerFault 130 = .ok (.iconst 1, 1) := by decide +kernel
theorem dX12_outerFault_131 : decode cX12_outerFault 131 = .ok (.iconst 3, 1) := by decide +kernel
theorem dX12_outerFault_132 : decode cX12_outerFault 132 = .ok (.invokestatic 260, 3) := by decide +kernel
theorem dX12_outerFault_135 : decode cX12_outerFault 135 = .ok (.ifCond .ne 13, 3) := by decide +kernel
theorem dX12_outerFault_138 : decode cX12_outerFault 138 = .ok (.aload_n 0, 1) := by decide +kernel
theorem dX12_outerFault_139 : decode cX12_outerFault 139 = .ok (.getfield 17, 3) := by decide +kernel
theorem dX12_outerFault_142 : decode cX12_outerFault 142 = .ok (.iload_n 1, 1) := by decide +kernel
theorem dX12_outerFault_143 : decode cX12_outerFault 143 = .ok (.iaload, 1) := by decide +kernel
theorem dX12_outerFault_144 : decode cX12_outerFault 144 = .ok (.iconst 5, 1) := by decide +kernel
theorem dX12_outerFault_145 : decode cX12_outerFault 145 = .ok (.if_icmp .ne 7, 3) := by decide +kernel
theorem dX12_outerFault_148 : decode cX12_outerFault 148 = .ok (.iconst 0, 1) := by decide +kernel
theorem dX12_outerFault_149 : decode cX12_outerFault 149 = .ok (.goto 5, 3) := by decide +kernel
theorem dX12_outerFault_152 : decode cX12_outerFault 152 = .ok (.bipush 10, 2) := by decide +kernel
theorem dX12_outerFault_154 : decode cX12_outerFault 154 = .ok (.ireturn, 1) := by decide +kernel
theorem dX12_outerFault_155 : decode cX12_outerFault 155 = .ok (.aload_n 0, 1) := by decide +kernel
theorem dX12_outerFault_156 : decode cX12_outerFault 156 = .ok (.getfield 88, 3) := by decide +kernel
theorem dX12_outerFault_159 : decode cX12_outerFault 159 = .ok (.iload_n 1, 1) := by decide +kernel
theorem dX12_outerFault_160 : decode cX12_outerFault 160 = .ok (.baload, 1) := by decide +kernel
theorem dX12_outerFault_161 : decode cX12_outerFault 161 = .ok (.iload_n 3, 1) := by decide +kernel
theorem dX12_outerFault_162 : decode cX12_outerFault 162 = .ok (.bipush 23, 2) := by decide +kernel
theorem dX12_outerFault_164 : decode cX12_outerFault 164 = .ok (.if_icmp .ne 7, 3) := by decide +kernel
theorem dX12_outerFault_167 : decode cX12_outerFault 167 = .ok (.iconst 1, 1) := by decide +kernel
theorem dX12_outerFault_168 : decode cX12_outerFault 168 = .ok (.goto 4, 3) := by decide +kernel
theorem dX12_outerFault_171 : decode cX12_outerFault 171 = .ok (.iconst 0, 1) := by decide +kernel
theorem dX12_outerFault_172 : decode cX12_outerFault 172 = .ok (.if_icmp .eq 6, 3) := by decide +kernel
theorem dX12_outerFault_175 : decode cX12_outerFault 175 = .ok (.bipush 10, 2) := by decide +kernel
theorem dX12_outerFault_177 : decode cX12_outerFault 177 = .ok (.ireturn, 1) := by decide +kernel
theorem dX12_outerFault_178 : decode cX12_outerFault 178 = .ok (.iconst 0, 1) := by decide +kernel
theorem dX12_outerFault_179 : decode cX12_outerFault 179 = .ok (.ireturn, 1) := by decide +kernel
theorem dX12_readAlert_0 : decode cX12_readAlert 0 = .ok (.aload_n 0, 1) := by decide +kernel
theorem dX12_readAlert_1 : decode cX12_readAlert 1 = .ok (.getfield 442, 3) := by decide +kernel
theorem dX12_readAlert_4 : decode cX12_readAlert 4 = .ok (.iconst 2, 1) := by decide +kernel
theorem dX12_readAlert_5 : decode cX12_readAlert 5 = .ok (.if_icmp .eq 11, 3) := by decide +kernel
theorem dX12_readAlert_8 : decode cX12_readAlert 8 = .ok (.aload_n 0, 1) := by decide +kernel
theorem dX12_readAlert_9 : decode cX12_readAlert 9 = .ok (.iload_n 1, 1) := by decide +kernel
theorem dX12_readAlert_10 : decode cX12_readAlert 10 = .ok (.bipush 50, 2) := by decide +kernel
theorem dX12_readAlert_12 : decode cX12_readAlert 12 = .ok (.invokevirtual 436, 3) := by decide +kernel
theorem dX12_readAlert_15 : decode cX12_readAlert 15 = .ok (.return_, 1) := by decide +kernel
theorem dX12_readAlert_16 : decode cX12_readAlert 16 = .ok (.aload_n 0, 1) := by decide +kernel
theorem dX12_readAlert_17 : decode cX12_readAlert 17 = .ok (.getfield 182, 3) := by decide +kernel
theorem dX12_readAlert_20 : decode cX12_readAlert 20 = .ok (.iconst 5, 1) := by decide +kernel
theorem dX12_readAlert_21 : decode cX12_readAlert 21 = .ok (.baload, 1) := by decide +kernel
theorem dX12_readAlert_22 : decode cX12_readAlert 22 = .ok (.iconst 1, 1) := by decide +kernel
theorem dX12_readAlert_23 : decode cX12_readAlert 23 = .ok (.if_icmp .ne 17, 3) := by decide +kernel
theorem dX12_readAlert_26 : decode cX12_readAlert 26 = .ok (.aload_n 0, 1) := by decide +kernel
theorem dX12_readAlert_27 : decode cX12_readAlert 27 = .ok (.getfield 182, 3) := by decide +kernel
theorem dX12_readAlert_30 : decode cX12_readAlert 30 = .ok (.bipush 6, 2) := by decide +kernel
theorem dX12_readAlert_32 : decode cX12_readAlert 32 = .ok (.baload, 1) := by decide +kernel
theorem dX12_readAlert_33 : decode cX12_readAlert 33 = .ok (.ifCond .ne 7, 3) := by decide +kernel
theorem dX12_readAlert_36 : decode cX12_readAlert 36 = .ok (.iconst 1, 1) := by decide +kernel
theorem dX12_readAlert_37 : decode cX12_readAlert 37 = .ok (.goto 4, 3) := by decide +kernel
theorem dX12_readAlert_40 : decode cX12_readAlert 40 = .ok (.iconst 0, 1) := by decide +kernel
theorem dX12_readAlert_41 : decode cX12_readAlert 41 = .ok (.istore_n 2, 1) := by decide +kernel
theorem dX12_readAlert_42 : decode cX12_readAlert 42 = .ok (.iload_n 2, 1) := by decide +kernel
theorem dX12_readAlert_43 : decode cX12_readAlert 43 = .ok (.ifCond .eq 10, 3) := by decide +kernel
theorem dX12_readAlert_46 : decode cX12_readAlert 46 = .ok (.aload_n 0, 1) := by decide +kernel
theorem dX12_readAlert_47 : decode cX12_readAlert 47 = .ok (.getfield 48, 3) := by decide +kernel
theorem dX12_readAlert_50 : decode cX12_readAlert 50 = .ok (.iload_n 1, 1) := by decide +kernel
theorem dX12_readAlert_51 : decode cX12_readAlert 51 = .ok (.iconst 1, 1) := by decide +kernel
theorem dX12_readAlert_52 : decode cX12_readAlert 52 = .ok (.bastore, 1) := by decide +kernel
theorem dX12_readAlert_53 : decode cX12_readAlert 53 = .ok (.iload_n 2, 1) := by decide +kernel
theorem dX12_readAlert_54 : decode cX12_readAlert 54 = .ok (.ifCond .eq 15, 3) := by decide +kernel
theorem dX12_readAlert_57 : decode cX12_readAlert 57 = .ok (.aload_n 0, 1) := by decide +kernel
theorem dX12_readAlert_58 : decode cX12_readAlert 58 = .ok (.getfield 17, 3) := by decide +kernel
theorem dX12_readAlert_61 : decode cX12_readAlert 61 = .ok (.iload_n 1, 1) := by decide +kernel
theorem dX12_readAlert_62 : decode cX12_readAlert 62 = .ok (.iaload, 1) := by decide +kernel
theorem dX12_readAlert_63 : decode cX12_readAlert 63 = .ok (.bipush 6, 2) := by decide +kernel
theorem dX12_readAlert_65 : decode cX12_readAlert 65 = .ok (.if_icmp .ne 4, 3) := by decide +kernel
theorem dX12_readAlert_68 : decode cX12_readAlert 68 = .ok (.return_, 1) := by decide +kernel
theorem dX12_readAlert_69 : decode cX12_readAlert 69 = .ok (.aload_n 0, 1) := by decide +kernel
theorem dX12_readAlert_70 : decode cX12_readAlert 70 = .ok (.getfield 42, 3) := by decide +kernel
theorem dX12_readAlert_73 : decode cX12_readAlert 73 = .ok (.iload_n 1, 1) := by decide +kernel
theorem dX12_readAlert_74 : decode cX12_readAlert 74 = .ok (.aload_n 0, 1) := by decide +kernel
theorem dX12_readAlert_75 : decode cX12_readAlert 75 = .ok (.getfield 182, 3) := by decide +kernel
theorem dX12_readAlert_78 : decode cX12_readAlert 78 = .ok (.bipush 6, 2) := by decide +kernel
theorem dX12_readAlert_80 : decode cX12_readAlert 80 = .ok (.baload, 1) := by decide +kernel
theorem dX12_readAlert_81 : decode cX12_readAlert 81 = .ok (.sipush 255, 3) := by decide +kernel
theorem dX12_readAlert_84 : decode cX12_readAlert 84 = .ok (.iand, 1) := by decide +kernel
theorem dX12_readAlert_85 : decode cX12_readAlert 85 = .ok (.iastore, 1) := by decide +kernel
theorem dX12_readAlert_86 : decode cX12_readAlert 86 = .ok (.aload_n 0, 1) := by decide +kernel
theorem dX12_readAlert_87 : decode cX12_readAlert 87 = .ok (.getfield 17, 3) := by decide +kernel
theorem dX12_readAlert_90 : decode cX12_readAlert 90 = .ok (.iload_n 1, 1) := by decide +kernel
theorem dX12_readAlert_91 : decode cX12_readAlert 91 = .ok (.bipush 7, 2) := by decide +kernel
theorem dX12_readAlert_93 : decode cX12_readAlert 93 = .ok (.iastore, 1) := by decide +kernel
theorem dX12_readAlert_94 : decode cX12_readAlert 94 = .ok (.return_, 1) := by decide +kernel
theorem dX12_readData_0 : decode cX12_readData 0 = .ok (.aload_n 0, 1) := by decide +kernel
theorem dX12_readData_1 : decode cX12_readData 1 = .ok (.getfield 17, 3) := by decide +kernel
theorem dX12_readData_4 : decode cX12_readData 4 = .ok (.iload_n 1, 1) := by decide +kernel
theorem dX12_readData_5 : decode cX12_readData 5 = .ok (.iaload, 1) := by decide +kernel
theorem dX12_readData_6 : decode cX12_readData 6 = .ok (.bipush 6, 2) := by decide +kernel
theorem dX12_readData_8 : decode cX12_readData 8 = .ok (.if_icmp .eq 11, 3) := by decide +kernel
theorem dX12_readData_11 : decode cX12_readData 11 = .ok (.aload_n 0, 1) := by decide +kernel
theorem dX12_readData_12 : decode cX12_readData 12 = .ok (.iload_n 1, 1) := by decide +kernel
theorem dX12_readData_13 : decode cX12_readData 13 = .ok (.bipush 10, 2) := by decide +kernel
theorem dX12_readData_15 : decode cX12_readData 15 = .ok (.invokevirtual 436, 3) := by decide +kernel
theorem dX12_readData_18 : decode cX12_readData 18 = .ok (.return_, 1) := by decide +kernel
theorem dX12_readData_19 : decode cX12_readData 19 = .ok (.iconst 0, 1) := by decide +kernel
theorem dX12_readData_20 : decode cX12_readData 20 = .ok (.istore_n 2, 1) := by decide +kernel
theorem dX12_readData_21 : decode cX12_readData 21 = .ok (.iload_n 2, 1) := by decide +kernel
theorem dX12_readData_22 : decode cX12_readData 22 = .ok (.aload_n 0, 1) := by decide +kernel
theorem dX12_readData_23 : decode cX12_readData 23 = .ok (.getfield 442, 3) := by decide +kernel
theorem dX12_readData_26 : decode cX12_readData 26 = .ok (.if_icmp .ge 56, 3) := by decide +kernel
theorem dX12_readData_29 : decode cX12_readData 29 = .ok (.aload_n 0, 1) := by decide +kernel
theorem dX12_readData_30 : decode cX12_readData 30 = .ok (.getfield 64, 3) := by decide +kernel
theorem dX12_readData_33 : decode cX12_readData 33 = .ok (.iload_n 1, 1) := by decide +kernel
theorem dX12_readData_34 : decode cX12_readData 34 = .ok (.iaload, 1) := by decide +kernel
theorem dX12_readData_35 : decode cX12_readData 35 = .ok (.sipush 2000, 3) := by decide +kernel
theorem dX12_readData_38 : decode cX12_readData 38 = .ok (.if_icmp .ge 44, 3) := by decide +kernel
theorem dX12_readData_41 : decode cX12_readData 41 = .ok (.aload_n 0, 1) := by decide +kernel
theorem dX12_readData_42 : decode cX12_readData 42 = .ok (.getfield 61, 3) := by decide +kernel
theorem dX12_readData_45 : decode cX12_readData 45 = .ok (.sipush 2000, 3) := by decide +kernel
theorem dX12_readData_48 : decode cX12_readData 48 = .ok (.iload_n 1, 1) := by decide +kernel
theorem dX12_readData_49 : decode cX12_readData 49 = .ok (.imul, 1) := by decide +kernel
theorem dX12_readData_50 : decode cX12_readData 50 = .ok (.aload_n 0, 1) := by decide +kernel
theorem dX12_readData_51 : decode cX12_readData 51 = .ok (.getfield 64, 3) := by decide +kernel
theorem dX12_readData_54 : decode cX12_readData 54 = .ok (.iload_n 1, 1) := by decide +kernel
theorem dX12_readData_55 : decode cX12_readData 55 = .ok (.iaload, 1) := by decide +kernel
theorem dX12_readData_56 : decode cX12_readData 56 = .ok (.iadd, 1) := by decide +kernel
theorem dX12_readData_57 : decode cX12_readData 57 = .ok (.aload_n 0, 1) := by decide +kernel
theorem dX12_readData_58 : decode cX12_readData 58 = .ok (.getfield 182, 3) := by decide +kernel
theorem dX12_readData_61 : decode cX12_readData 61 = .ok (.iconst 5, 1) := by decide +kernel
theorem dX12_readData_62 : decode cX12_readData 62 = .ok (.iload_n 2, 1) := by decide +kernel
theorem dX12_readData_63 : decode cX12_readData 63 = .ok (.iadd, 1) := by decide +kernel
theorem dX12_readData_64 : decode cX12_readData 64 = .ok (.baload, 1) := by decide +kernel
theorem dX12_readData_65 : decode cX12_readData 65 = .ok (.bastore, 1) := by decide +kernel
theorem dX12_readData_66 : decode cX12_readData 66 = .ok (.aload_n 0, 1) := by decide +kernel
theorem dX12_readData_67 : decode cX12_readData 67 = .ok (.getfield 64, 3) := by decide +kernel
theorem dX12_readData_70 : decode cX12_readData 70 = .ok (.iload_n 1, 1) := by decide +kernel
theorem dX12_readData_71 : decode cX12_readData 71 = .ok (.dup2, 1) := by decide +kernel
theorem dX12_readData_72 : decode cX12_readData 72 = .ok (.iaload, 1) := by decide +kernel
theorem dX12_readData_73 : decode cX12_readData 73 = .ok (.iconst 1, 1) := by decide +kernel
theorem dX12_readData_74 : decode cX12_readData 74 = .ok (.iadd, 1) := by decide +kernel
theorem dX12_readData_75 : decode cX12_readData 75 = .ok (.iastore, 1) := by decide +kernel
theorem dX12_readData_76 : decode cX12_readData 76 = .ok (.iinc 2 1, 3) := by decide +kernel
theorem dX12_readData_79 : decode cX12_readData 79 = .ok (.goto (-58), 3) := by decide +kernel
theorem dX12_readData_82 : decode cX12_readData 82 = .ok (.return_, 1) := by decide +kernel
theorem dX12_waited_0 : decode cX12_waited 0 = .ok (.iload_n 0, 1) := by decide +kernel
theorem dX12_waited_1 : decode cX12_waited 1 = .ok (.iconst 1, 1) := by decide +kernel
theorem dX12_waited_2 : decode cX12_waited 2 = .ok (.if_icmp .ne 7, 3) := by decide +kernel
theorem dX12_waited_5 : decode cX12_waited 5 = .ok (.iconst 2, 1) := by decide +kernel
theorem dX12_waited_6 : decode cX12_waited 6 = .ok (.goto 39, 3) := by decide +kernel
theorem dX12_waited_9 : decode cX12_waited 9 = .ok (.iload_n 0, 1) := by decide +kernel
theorem dX12_waited_10 : decode cX12_waited 10 = .ok (.iconst 2, 1) := by decide +kernel
theorem dX12_waited_11 : decode cX12_waited 11 = .ok (.if_icmp .ne 8, 3) := by decide +kernel
theorem dX12_waited_14 : decode cX12_waited 14 = .ok (.bipush 8, 2) := by decide +kernel
theorem dX12_waited_16 : decode cX12_waited 16 = .ok (.goto 29, 3) := by decide +kernel
theorem dX12_waited_19 : decode cX12_waited 19 = .ok (.iload_n 0, 1) := by decide +kernel
theorem dX12_waited_20 : decode cX12_waited 20 = .ok (.iconst 3, 1) := by decide +kernel
theorem dX12_waited_21 : decode cX12_waited 21 = .ok (.if_icmp .eq 8, 3) := by decide +kernel
theorem dX12_waited_24 : decode cX12_waited 24 = .ok (.iload_n 0, 1) := by decide +kernel
theorem dX12_waited_25 : decode cX12_waited 25 = .ok (.iconst 5, 1) := by decide +kernel
theorem dX12_waited_26 : decode cX12_waited 26 = .ok (.if_icmp .ne 8, 3) := by decide +kernel
theorem dX12_waited_29 : decode cX12_waited 29 = .ok (.bipush 20, 2) := by decide +kernel
theorem dX12_waited_31 : decode cX12_waited 31 = .ok (.goto 14, 3) := by decide +kernel
theorem dX12_waited_34 : decode cX12_waited 34 = .ok (.iload_n 0, 1) := by decide +kernel
theorem dX12_waited_35 : decode cX12_waited 35 = .ok (.iconst 4, 1) := by decide +kernel
theorem dX12_waited_36 : decode cX12_waited 36 = .ok (.if_icmp .ne 7, 3) := by decide +kernel
theorem dX12_waited_39 : decode cX12_waited 39 = .ok (.iconst 1, 1) := by decide +kernel
theorem dX12_waited_40 : decode cX12_waited 40 = .ok (.goto 5, 3) := by decide +kernel
theorem dX12_waited_43 : decode cX12_waited 43 = .ok (.bipush 24, 2) := by decide +kernel
theorem dX12_waited_45 : decode cX12_waited 45 = .ok (.ireturn, 1) := by decide +kernel
theorem dX12_readHandshake_0 : decode cX12_readHandshake 0 = .ok (.aload_n 0, 1) := by decide +kernel
theorem dX12_readHandshake_1 : decode cX12_readHandshake 1 = .ok (.getfield 442, 3) := by decide +kernel
theorem dX12_readHandshake_4 : decode cX12_readHandshake 4 = .ok (.iconst 4, 1) := by decide +kernel
theorem dX12_readHandshake_5 : decode cX12_readHandshake 5 = .ok (.if_icmp .ge 7, 3) := by decide +kernel
theorem dX12_readHandshake_8 : decode cX12_readHandshake 8 = .ok (.iconst (-1), 1) := by decide +kernel
theorem dX12_readHandshake_9 : decode cX12_readHandshake 9 = .ok (.goto 44, 3) := by decide +kernel
theorem dX12_readHandshake_12 : decode cX12_readHandshake 12 = .ok (.aload_n 0, 1) := by decide +kernel
theorem dX12_readHandshake_13 : decode cX12_readHandshake 13 = .ok (.getfield 182, 3) := by decide +kernel
theorem dX12_readHandshake_16 : decode cX12_readHandshake 16 = .ok (.bipush 6, 2) := by decide +kernel
theorem dX12_readHandshake_18 : decode cX12_readHandshake 18 = .ok (.baload, 1) := by decide +kernel
theorem dX12_readHandshake_19 : decode cX12_readHandshake 19 = .ok (.sipush 255, 3) := by decide +kernel
theorem dX12_readHandshake_22 : decode cX12_readHandshake 22 = .ok (.iand, 1) := by decide +kernel
theorem dX12_readHandshake_23 : decode cX12_readHandshake 23 = .ok (.bipush 16, 2) := by decide +kernel
theorem dX12_readHandshake_25 : decode cX12_readHandshake 25 = .ok (.ishl, 1) := by decide +kernel
theorem dX12_readHandshake_26 : decode cX12_readHandshake 26 = .ok (.aload_n 0, 1) := by decide +kernel
theorem dX12_readHandshake_27 : decode cX12_readHandshake 27 = .ok (.getfield 182, 3) := by decide +kernel
theorem dX12_readHandshake_30 : decode cX12_readHandshake 30 = .ok (.bipush 7, 2) := by decide +kernel
theorem dX12_readHandshake_32 : decode cX12_readHandshake 32 = .ok (.baload, 1) := by decide +kernel
theorem dX12_readHandshake_33 : decode cX12_readHandshake 33 = .ok (.sipush 255, 3) := by decide +kernel
theorem dX12_readHandshake_36 : decode cX12_readHandshake 36 = .ok (.iand, 1) := by decide +kernel
theorem dX12_readHandshake_37 : decode cX12_readHandshake 37 = .ok (.bipush 8, 2) := by decide +kernel
theorem dX12_readHandshake_39 : decode cX12_readHandshake 39 = .ok (.ishl, 1) := by decide +kernel
theorem dX12_readHandshake_40 : decode cX12_readHandshake 40 = .ok (.ior, 1) := by decide +kernel
theorem dX12_readHandshake_41 : decode cX12_readHandshake 41 = .ok (.aload_n 0, 1) := by decide +kernel
theorem dX12_readHandshake_42 : decode cX12_readHandshake 42 = .ok (.getfield 182, 3) := by decide +kernel
theorem dX12_readHandshake_45 : decode cX12_readHandshake 45 = .ok (.bipush 8, 2) := by decide +kernel
theorem dX12_readHandshake_47 : decode cX12_readHandshake 47 = .ok (.baload, 1) := by decide +kernel
theorem dX12_readHandshake_48 : decode cX12_readHandshake 48 = .ok (.sipush 255, 3) := by decide +kernel
theorem dX12_readHandshake_51 : decode cX12_readHandshake 51 = .ok (.iand, 1) := by decide +kernel
theorem dX12_readHandshake_52 : decode cX12_readHandshake 52 = .ok (.ior, 1) := by decide +kernel
theorem dX12_readHandshake_53 : decode cX12_readHandshake 53 = .ok (.istore_n 2, 1) := by decide +kernel
theorem dX12_readHandshake_54 : decode cX12_readHandshake 54 = .ok (.aload_n 0, 1) := by decide +kernel
theorem dX12_readHandshake_55 : decode cX12_readHandshake 55 = .ok (.getfield 442, 3) := by decide +kernel
theorem dX12_readHandshake_58 : decode cX12_readHandshake 58 = .ok (.iconst 4, 1) := by decide +kernel
theorem dX12_readHandshake_59 : decode cX12_readHandshake 59 = .ok (.if_icmp .lt 13, 3) := by decide +kernel
theorem dX12_readHandshake_62 : decode cX12_readHandshake 62 = .ok (.iload_n 2, 1) := by decide +kernel
theorem dX12_readHandshake_63 : decode cX12_readHandshake 63 = .ok (.aload_n 0, 1) := by decide +kernel
theorem dX12_readHandshake_64 : decode cX12_readHandshake 64 = .ok (.getfield 442, 3) := by decide +kernel
theorem dX12_readHandshake_67 : decode cX12_readHandshake 67 = .ok (.iconst 4, 1) := by decide +kernel
theorem dX12_readHandshake_68 : decode cX12_readHandshake 68 = .ok (.isub, 1) := by decide +kernel
theorem dX12_readHandshake_69 : decode cX12_readHandshake 69 = .ok (.if_icmp .eq 11, 3) := by decide +kernel
theorem dX12_readHandshake_72 : decode cX12_readHandshake 72 = .ok (.aload_n 0, 1) := by decide +kernel
theorem dX12_readHandshake_73 : decode cX12_readHandshake 73 = .ok (.iload_n 1, 1) := by decide +kernel
theorem dX12_readHandshake_74 : decode cX12_readHandshake 74 = .ok (.bipush 50, 2) := by decide +kernel
theorem dX12_readHandshake_76 : decode cX12_readHandshake 76 = .ok (.invokevirtual 436, 3) := by decide +kernel
theorem dX12_readHandshake_79 : decode cX12_readHandshake 79 = .ok (.return_, 1) := by decide +kernel
theorem dX12_readHandshake_80 : decode cX12_readHandshake 80 = .ok (.aload_n 0, 1) := by decide +kernel
theorem dX12_readHandshake_81 : decode cX12_readHandshake 81 = .ok (.getfield 182, 3) := by decide +kernel
theorem dX12_readHandshake_84 : decode cX12_readHandshake 84 = .ok (.iconst 5, 1) := by decide +kernel
theorem dX12_readHandshake_85 : decode cX12_readHandshake 85 = .ok (.baload, 1) := by decide +kernel
theorem dX12_readHandshake_86 : decode cX12_readHandshake 86 = .ok (.sipush 255, 3) := by decide +kernel
theorem dX12_readHandshake_89 : decode cX12_readHandshake 89 = .ok (.iand, 1) := by decide +kernel
theorem dX12_readHandshake_90 : decode cX12_readHandshake 90 = .ok (.istore_n 3, 1) := by decide +kernel
theorem dX12_readHandshake_91 : decode cX12_readHandshake 91 = .ok (.iload_n 3, 1) := by decide +kernel
theorem dX12_readHandshake_92 : decode cX12_readHandshake 92 = .ok (.aload_n 0, 1) := by decide +kernel
theorem dX12_readHandshake_93 : decode cX12_readHandshake 93 = .ok (.getfield 17, 3) := by decide +kernel
theorem dX12_readHandshake_96 : decode cX12_readHandshake 96 = .ok (.iload_n 1, 1) := by decide +kernel
theorem dX12_readHandshake_97 : decode cX12_readHandshake 97 = .ok (.iaload, 1) := by decide +kernel
theorem dX12_readHandshake_98 : decode cX12_readHandshake 98 = .ok (.invokestatic 458, 3) := by decide +kernel
theorem dX12_readHandshake_101 : decode cX12_readHandshake 101 = .ok (.if_icmp .eq 11, 3) := by decide +kernel
theorem dX12_readHandshake_104 : decode cX12_readHandshake 104 = .ok (.aload_n 0, 1) := by decide +kernel
theorem dX12_readHandshake_105 : decode cX12_readHandshake 105 = .ok (.iload_n 1, 1) := by decide +kernel
theorem dX12_readHandshake_106 : decode cX12_readHandshake 106 = .ok (.bipush 10, 2) := by decide +kernel
theorem dX12_readHandshake_108 : decode cX12_readHandshake 108 = .ok (.invokevirtual 436, 3) := by decide +kernel
theorem dX12_readHandshake_111 : decode cX12_readHandshake 111 = .ok (.return_, 1) := by decide +kernel
theorem dX12_readHandshake_112 : decode cX12_readHandshake 112 = .ok (.aload_n 0, 1) := by decide +kernel
theorem dX12_readHandshake_113 : decode cX12_readHandshake 113 = .ok (.iload_n 1, 1) := by decide +kernel
theorem dX12_readHandshake_114 : decode cX12_readHandshake 114 = .ok (.iload_n 3, 1) := by decide +kernel
theorem dX12_readHandshake_115 : decode cX12_readHandshake 115 = .ok (.iload_n 2, 1) := by decide +kernel
theorem dX12_readHandshake_116 : decode cX12_readHandshake 116 = .ok (.invokevirtual 461, 3) := by decide +kernel
theorem dX12_readHandshake_119 : decode cX12_readHandshake 119 = .ok (.istore 4, 2) := by decide +kernel
theorem dX12_readHandshake_121 : decode cX12_readHandshake 121 = .ok (.iload 4, 2) := by decide +kernel
theorem dX12_readHandshake_123 : decode cX12_readHandshake 123 = .ok (.ifCond .le 11, 3) := by decide +kernel
theorem dX12_readHandshake_126 : decode cX12_readHandshake 126 = .ok (.aload_n 0, 1) := by decide +kernel
theorem dX12_readHandshake_127 : decode cX12_readHandshake 127 = .ok (.iload_n 1, 1) := by decide +kernel
theorem dX12_readHandshake_128 : decode cX12_readHandshake 128 = .ok (.iload 4, 2) := by decide +kernel
theorem dX12_readHandshake_130 : decode cX12_readHandshake 130 = .ok (.invokevirtual 436, 3) := by decide +kernel
theorem dX12_readHandshake_133 : decode cX12_readHandshake 133 = .ok (.return_, 1) := by decide +kernel
theorem dX12_readHandshake_134 : decode cX12_readHandshake 134 = .ok (.iload_n 3, 1) := by decide +kernel
theorem dX12_readHandshake_135 : decode cX12_readHandshake 135 = .ok (.bipush 24, 2) := by decide +kernel
theorem dX12_readHandshake_137 : decode cX12_readHandshake 137 = .ok (.if_icmp .eq 17, 3) := by decide +kernel
theorem dX12_readHandshake_140 : decode cX12_readHandshake 140 = .ok (.aload_n 0, 1) := by decide +kernel
theorem dX12_readHandshake_141 : decode cX12_readHandshake 141 = .ok (.iload_n 1, 1) := by decide +kernel
theorem dX12_readHandshake_142 : decode cX12_readHandshake 142 = .ok (.aload_n 0, 1) := by decide +kernel
theorem dX12_readHandshake_143 : decode cX12_readHandshake 143 = .ok (.getfield 182, 3) := by decide +kernel
theorem dX12_readHandshake_146 : decode cX12_readHandshake 146 = .ok (.iconst 5, 1) := by decide +kernel
theorem dX12_readHandshake_147 : decode cX12_readHandshake 147 = .ok (.aload_n 0, 1) := by decide +kernel
theorem dX12_readHandshake_148 : decode cX12_readHandshake 148 = .ok (.getfield 442, 3) := by decide +kernel
theorem dX12_readHandshake_151 : decode cX12_readHandshake 151 = .ok (.invokevirtual 393, 3) := by decide +kernel
theorem dX12_readHandshake_154 : decode cX12_readHandshake 154 = .ok (.aload_n 0, 1) := by decide +kernel
theorem dX12_readHandshake_155 : decode cX12_readHandshake 155 = .ok (.iload_n 1, 1) := by decide +kernel
theorem dX12_readHandshake_156 : decode cX12_readHandshake 156 = .ok (.iload_n 3, 1) := by decide +kernel
theorem dX12_readHandshake_157 : decode cX12_readHandshake 157 = .ok (.invokevirtual 465, 3) := by decide +kernel
theorem dX12_readHandshake_160 : decode cX12_readHandshake 160 = .ok (.return_, 1) := by decide +kernel
theorem dX12_bodyFault_0 : decode cX12_bodyFault 0 = .ok (.iload_n 2, 1) := by decide +kernel
