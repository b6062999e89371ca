theorem dX12_bodyFault_1 : decode cX12_bodyFault 1 = .ok (.lookupswitch 161 #[(1, 43), (2, 50), (8, 65), (20, 97)], 43) := by decide +kernel
theorem dX12_bodyFault_44 : decode cX12_bodyFault 44 = .ok (.aload_n 0, 1) := by decide +kernel
theorem dX12_bodyFault_45 : decode cX12_bodyFault 45 = .ok (.iload_n 1, 1) := by decide +kernel
theorem dX12_bodyFault_46 : decode cX12_bodyFault 46 = .ok (.iload_n 3, 1) := by decide +kernel
theorem dX12_bodyFault_47 : decode cX12_bodyFault 47 = .ok (.invokevirtual 468, 3) := by decide +kernel
theorem dX12_bodyFault_50 : decode cX12_bodyFault 50 = .ok (.ireturn, 1) := by decide +kernel
theorem dX12_bodyFault_51 : decode cX12_bodyFault 51 = .ok (.aload_n 0, 1) := by decide +kernel
theorem dX12_bodyFault_52 : decode cX12_bodyFault 52 = .ok (.iload_n 3, 1) := by decide +kernel
theorem dX12_bodyFault_53 : decode cX12_bodyFault 53 = .ok (.invokevirtual 471, 3) := by decide +kernel
theorem dX12_bodyFault_56 : decode cX12_bodyFault 56 = .ok (.ifCond .eq 7, 3) := by decide +kernel
theorem dX12_bodyFault_59 : decode cX12_bodyFault 59 = .ok (.iconst 0, 1) := by decide +kernel
theorem dX12_bodyFault_60 : decode cX12_bodyFault 60 = .ok (.goto 5, 3) := by decide +kernel
theorem dX12_bodyFault_63 : decode cX12_bodyFault 63 = .ok (.bipush 47, 2) := by decide +kernel
theorem dX12_bodyFault_65 : decode cX12_bodyFault 65 = .ok (.ireturn, 1) := by decide +kernel
theorem dX12_bodyFault_66 : decode cX12_bodyFault 66 = .ok (.iload_n 3, 1) := by decide +kernel
theorem dX12_bodyFault_67 : decode cX12_bodyFault 67 = .ok (.iconst 2, 1) := by decide +kernel
theorem dX12_bodyFault_68 : decode cX12_bodyFault 68 = .ok (.if_icmp .ne 27, 3) := by decide +kernel
theorem dX12_bodyFault_71 : decode cX12_bodyFault 71 = .ok (.aload_n 0, 1) := by decide +kernel
theorem dX12_bodyFault_72 : decode cX12_bodyFault 72 = .ok (.getfield 182, 3) := by decide +kernel
theorem dX12_bodyFault_75 : decode cX12_bodyFault 75 = .ok (.bipush 9, 2) := by decide +kernel
theorem dX12_bodyFault_77 : decode cX12_bodyFault 77 = .ok (.baload, 1) := by decide +kernel
theorem dX12_bodyFault_78 : decode cX12_bodyFault 78 = .ok (.ifCond .ne 17, 3) := by decide +kernel
theorem dX12_bodyFault_81 : decode cX12_bodyFault 81 = .ok (.aload_n 0, 1) := by decide +kernel
theorem dX12_bodyFault_82 : decode cX12_bodyFault 82 = .ok (.getfield 182, 3) := by decide +kernel
theorem dX12_bodyFault_85 : decode cX12_bodyFault 85 = .ok (.bipush 10, 2) := by decide +kernel
theorem dX12_bodyFault_87 : decode cX12_bodyFault 87 = .ok (.baload, 1) := by decide +kernel
theorem dX12_bodyFault_88 : decode cX12_bodyFault 88 = .ok (.ifCond .ne 7, 3) := by decide +kernel
theorem dX12_bodyFault_91 : decode cX12_bodyFault 91 = .ok (.iconst 0, 1) := by decide +kernel
theorem dX12_bodyFault_92 : decode cX12_bodyFault 92 = .ok (.goto 5, 3) := by decide +kernel
theorem dX12_bodyFault_95 : decode cX12_bodyFault 95 = .ok (.bipush 47, 2) := by decide +kernel
theorem dX12_bodyFault_97 : decode cX12_bodyFault 97 = .ok (.ireturn, 1) := by decide +kernel
theorem dX12_bodyFault_98 : decode cX12_bodyFault 98 = .ok (.iload_n 3, 1) := by decide +kernel
theorem dX12_bodyFault_99 : decode cX12_bodyFault 99 = .ok (.bipush 32, 2) := by decide +kernel
theorem dX12_bodyFault_101 : decode cX12_bodyFault 101 = .ok (.if_icmp .eq 6, 3) := by decide +kernel
theorem dX12_bodyFault_104 : decode cX12_bodyFault 104 = .ok (.bipush 50, 2) := by decide +kernel
theorem dX12_bodyFault_106 : decode cX12_bodyFault 106 = .ok (.ireturn, 1) := by decide +kernel
theorem dX12_bodyFault_107 : decode cX12_bodyFault 107 = .ok (.aload_n 0, 1) := by decide +kernel
theorem dX12_bodyFault_108 : decode cX12_bodyFault 108 = .ok (.iload_n 1, 1) := by decide +kernel
theorem dX12_bodyFault_109 : decode cX12_bodyFault 109 = .ok (.aload_n 0, 1) := by decide +kernel
theorem dX12_bodyFault_110 : decode cX12_bodyFault 110 = .ok (.getfield 76, 3) := by decide +kernel
theorem dX12_bodyFault_113 : decode cX12_bodyFault 113 = .ok (.aload_n 0, 1) := by decide +kernel
theorem dX12_bodyFault_114 : decode cX12_bodyFault 114 = .ok (.getfield 133, 3) := by decide +kernel
theorem dX12_bodyFault_117 : decode cX12_bodyFault 117 = .ok (.iconst 0, 1) := by decide +kernel
theorem dX12_bodyFault_118 : decode cX12_bodyFault 118 = .ok (.invokevirtual 417, 3) := by decide +kernel
theorem dX12_bodyFault_121 : decode cX12_bodyFault 121 = .ok (.iconst 0, 1) := by decide +kernel
theorem dX12_bodyFault_122 : decode cX12_bodyFault 122 = .ok (.istore 4, 2) := by decide +kernel
theorem dX12_bodyFault_124 : decode cX12_bodyFault 124 = .ok (.iload 4, 2) := by decide +kernel
theorem dX12_bodyFault_126 : decode cX12_bodyFault 126 = .ok (.bipush 32, 2) := by decide +kernel
theorem dX12_bodyFault_128 : decode cX12_bodyFault 128 = .ok (.if_icmp .ge 32, 3) := by decide +kernel
theorem dX12_bodyFault_131 : decode cX12_bodyFault 131 = .ok (.aload_n 0, 1) := by decide +kernel
theorem dX12_bodyFault_132 : decode cX12_bodyFault 132 = .ok (.getfield 133, 3) := by decide +kernel
theorem dX12_bodyFault_135 : decode cX12_bodyFault 135 = .ok (.iload 4, 2) := by decide +kernel
theorem dX12_bodyFault_137 : decode cX12_bodyFault 137 = .ok (.baload, 1) := by decide +kernel
theorem dX12_bodyFault_138 : decode cX12_bodyFault 138 = .ok (.aload_n 0, 1) := by decide +kernel
theorem dX12_bodyFault_139 : decode cX12_bodyFault 139 = .ok (.getfield 182, 3) := by decide +kernel
theorem dX12_bodyFault_142 : decode cX12_bodyFault 142 = .ok (.bipush 9, 2) := by decide +kernel
theorem dX12_bodyFault_144 : decode cX12_bodyFault 144 = .ok (.iload 4, 2) := by decide +kernel
theorem dX12_bodyFault_146 : decode cX12_bodyFault 146 = .ok (.iadd, 1) := by decide +kernel
theorem dX12_bodyFault_147 : decode cX12_bodyFault 147 = .ok (.baload, 1) := by decide +kernel
theorem dX12_bodyFault_148 : decode cX12_bodyFault 148 = .ok (.if_icmp .eq 6, 3) := by decide +kernel
theorem dX12_bodyFault_151 : decode cX12_bodyFault 151 = .ok (.bipush 51, 2) := by decide +kernel
theorem dX12_bodyFault_153 : decode cX12_bodyFault 153 = .ok (.ireturn, 1) := by decide +kernel
theorem dX12_bodyFault_154 : decode cX12_bodyFault 154 = .ok (.iinc 4 1, 3) := by decide +kernel
theorem dX12_bodyFault_157 : decode cX12_bodyFault 157 = .ok (.goto (-33), 3) := by decide +kernel
theorem dX12_bodyFault_160 : decode cX12_bodyFault 160 = .ok (.iconst 0, 1) := by decide +kernel
theorem dX12_bodyFault_161 : decode cX12_bodyFault 161 = .ok (.ireturn, 1) := by decide +kernel
theorem dX12_bodyFault_162 : decode cX12_bodyFault 162 = .ok (.iload_n 3, 1) := by decide +kernel
theorem dX12_bodyFault_163 : decode cX12_bodyFault 163 = .ok (.iconst 1, 1) := by decide +kernel
theorem dX12_bodyFault_164 : decode cX12_bodyFault 164 = .ok (.if_icmp .eq 6, 3) := by decide +kernel
theorem dX12_bodyFault_167 : decode cX12_bodyFault 167 = .ok (.bipush 50, 2) := by decide +kernel
theorem dX12_bodyFault_169 : decode cX12_bodyFault 169 = .ok (.ireturn, 1) := by decide +kernel
theorem dX12_bodyFault_170 : decode cX12_bodyFault 170 = .ok (.aload_n 0, 1) := by decide +kernel
theorem dX12_bodyFault_171 : decode cX12_bodyFault 171 = .ok (.getfield 182, 3) := by decide +kernel
theorem dX12_bodyFault_174 : decode cX12_bodyFault 174 = .ok (.bipush 9, 2) := by decide +kernel
theorem dX12_bodyFault_176 : decode cX12_bodyFault 176 = .ok (.baload, 1) := by decide +kernel
theorem dX12_bodyFault_177 : decode cX12_bodyFault 177 = .ok (.ifCond .eq 14, 3) := by decide +kernel
theorem dX12_bodyFault_180 : decode cX12_bodyFault 180 = .ok (.aload_n 0, 1) := by decide +kernel
theorem dX12_bodyFault_181 : decode cX12_bodyFault 181 = .ok (.getfield 182, 3) := by decide +kernel
theorem dX12_bodyFault_184 : decode cX12_bodyFault 184 = .ok (.bipush 9, 2) := by decide +kernel
theorem dX12_bodyFault_186 : decode cX12_bodyFault 186 = .ok (.baload, 1) := by decide +kernel
theorem dX12_bodyFault_187 : decode cX12_bodyFault 187 = .ok (.iconst 1, 1) := by decide +kernel
theorem dX12_bodyFault_188 : decode cX12_bodyFault 188 = .ok (.if_icmp .ne 7, 3) := by decide +kernel
theorem dX12_bodyFault_191 : decode cX12_bodyFault 191 = .ok (.iconst 0, 1) := by decide +kernel
theorem dX12_bodyFault_192 : decode cX12_bodyFault 192 = .ok (.goto 5, 3) := by decide +kernel
theorem dX12_bodyFault_195 : decode cX12_bodyFault 195 = .ok (.bipush 47, 2) := by decide +kernel
theorem dX12_bodyFault_197 : decode cX12_bodyFault 197 = .ok (.ireturn, 1) := by decide +kernel
theorem dX12_mustBe_0 : decode cX12_mustBe 0 = .ok (.aload_n 0, 1) := by decide +kernel
theorem dX12_mustBe_1 : decode cX12_mustBe 1 = .ok (.aload_n 0, 1) := by decide +kernel
theorem dX12_mustBe_2 : decode cX12_mustBe 2 = .ok (.getfield 474, 3) := by decide +kernel
theorem dX12_mustBe_5 : decode cX12_mustBe 5 = .ok (.ifCond .eq 40, 3) := by decide +kernel
theorem dX12_mustBe_8 : decode cX12_mustBe 8 = .ok (.aload_n 0, 1) := by decide +kernel
theorem dX12_mustBe_9 : decode cX12_mustBe 9 = .ok (.getfield 182, 3) := by decide +kernel
theorem dX12_mustBe_12 : decode cX12_mustBe 12 = .ok (.aload_n 0, 1) := by decide +kernel
theorem dX12_mustBe_13 : decode cX12_mustBe 13 = .ok (.getfield 478, 3) := by decide +kernel
theorem dX12_mustBe_16 : decode cX12_mustBe 16 = .ok (.baload, 1) := by decide +kernel
theorem dX12_mustBe_17 : decode cX12_mustBe 17 = .ok (.iload_n 1, 1) := by decide +kernel
theorem dX12_mustBe_18 : decode cX12_mustBe 18 = .ok (.bipush 8, 2) := by decide +kernel
theorem dX12_mustBe_20 : decode cX12_mustBe 20 = .ok (.ishr, 1) := by decide +kernel
theorem dX12_mustBe_21 : decode cX12_mustBe 21 = .ok (.i2b, 1) := by decide +kernel
theorem dX12_mustBe_22 : decode cX12_mustBe 22 = .ok (.if_icmp .ne 23, 3) := by decide +kernel
theorem dX12_mustBe_25 : decode cX12_mustBe 25 = .ok (.aload_n 0, 1) := by decide +kernel
theorem dX12_mustBe_26 : decode cX12_mustBe 26 = .ok (.getfield 182, 3) := by decide +kernel
theorem dX12_mustBe_29 : decode cX12_mustBe 29 = .ok (.aload_n 0, 1) := by decide +kernel
theorem dX12_mustBe_30 : decode cX12_mustBe 30 = .ok (.getfield 478, 3) := by decide +kernel
theorem dX12_mustBe_33 : decode cX12_mustBe 33 = .ok (.iconst 1, 1) := by decide +kernel
theorem dX12_mustBe_34 : decode cX12_mustBe 34 = .ok (.iadd, 1) := by decide +kernel
theorem dX12_mustBe_35 : decode cX12_mustBe 35 = .ok (.baload, 1) := by decide +kernel
theorem dX12_mustBe_36 : decode cX12_mustBe 36 = .ok (.iload_n 1, 1) := by decide +kernel
theorem dX12_mustBe_37 : decode cX12_mustBe 37 = .ok (.i2b, 1) := by decide +kernel
theorem dX12_mustBe_38 : decode cX12_mustBe 38 = .ok (.if_icmp .ne 7, 3) := by decide +kernel
theorem dX12_mustBe_41 : decode cX12_mustBe 41 = .ok (.iconst 1, 1) := by decide +kernel
theorem dX12_mustBe_42 : decode cX12_mustBe 42 = .ok (.goto 4, 3) := by decide +kernel
theorem dX12_mustBe_45 : decode cX12_mustBe 45 = .ok (.iconst 0, 1) := by decide +kernel
theorem dX12_mustBe_46 : decode cX12_mustBe 46 = .ok (.putfield 474, 3) := by decide +kernel
theorem dX12_mustBe_49 : decode cX12_mustBe 49 = .ok (.aload_n 0, 1) := by decide +kernel
theorem dX12_mustBe_50 : decode cX12_mustBe 50 = .ok (.dup, 1) := by decide +kernel
theorem dX12_mustBe_51 : decode cX12_mustBe 51 = .ok (.getfield 478, 3) := by decide +kernel
theorem dX12_mustBe_54 : decode cX12_mustBe 54 = .ok (.iconst 2, 1) := by decide +kernel
theorem dX12_mustBe_55 : decode cX12_mustBe 55 = .ok (.iadd, 1) := by decide +kernel
theorem dX12_mustBe_56 : decode cX12_mustBe 56 = .ok (.putfield 478, 3) := by decide +kernel
theorem dX12_mustBe_59 : decode cX12_mustBe 59 = .ok (.return_, 1) := by decide +kernel
theorem dX12_mustByte_0 : decode cX12_mustByte 0 = .ok (.aload_n 0, 1) := by decide +kernel
theorem dX12_mustByte_1 : decode cX12_mustByte 1 = .ok (.aload_n 0, 1) := by decide +kernel
theorem dX12_mustByte_2 : decode cX12_mustByte 2 = .ok (.getfield 474, 3) := by decide +kernel
theorem dX12_mustByte_5 : decode cX12_mustByte 5 = .ok (.ifCond .eq 21, 3) := by decide +kernel
theorem dX12_mustByte_8 : decode cX12_mustByte 8 = .ok (.aload_n 0, 1) := by decide +kernel
theorem dX12_mustByte_9 : decode cX12_mustByte 9 = .ok (.getfield 182, 3) := by decide +kernel
theorem dX12_mustByte_12 : decode cX12_mustByte 12 = .ok (.aload_n 0, 1) := by decide +kernel
theorem dX12_mustByte_13 : decode cX12_mustByte 13 = .ok (.getfield 478, 3) := by decide +kernel
theorem dX12_mustByte_16 : decode cX12_mustByte 16 = .ok (.baload, 1) := by decide +kernel
theorem dX12_mustByte_17 : decode cX12_mustByte 17 = .ok (.iload_n 1, 1) := by decide +kernel
theorem dX12_mustByte_18 : decode cX12_mustByte 18 = .ok (.i2b, 1) := by decide +kernel
theorem dX12_mustByte_19 : decode cX12_mustByte 19 = .ok (.if_icmp .ne 7, 3) := by decide +kernel
theorem dX12_mustByte_22 : decode cX12_mustByte 22 = .ok (.iconst 1, 1) := by decide +kernel
theorem dX12_mustByte_23 : decode cX12_mustByte 23 = .ok (.goto 4, 3) := by decide +kernel
theorem dX12_mustByte_26 : decode cX12_mustByte 26 = .ok (.iconst 0, 1) := by decide +kernel
theorem dX12_mustByte_27 : decode cX12_mustByte 27 = .ok (.putfield 474, 3) := by decide +kernel
theorem dX12_mustByte_30 : decode cX12_mustByte 30 = .ok (.aload_n 0, 1) := by decide +kernel
theorem dX12_mustByte_31 : decode cX12_mustByte 31 = .ok (.dup, 1) := by decide +kernel
theorem dX12_mustByte_32 : decode cX12_mustByte 32 = .ok (.getfield 478, 3) := by decide +kernel
theorem dX12_mustByte_35 : decode cX12_mustByte 35 = .ok (.iconst 1, 1) := by decide +kernel
theorem dX12_mustByte_36 : decode cX12_mustByte 36 = .ok (.iadd, 1) := by decide +kernel
theorem dX12_mustByte_37 : decode cX12_mustByte 37 = .ok (.putfield 478, 3) := by decide +kernel
theorem dX12_mustByte_40 : decode cX12_mustByte 40 = .ok (.return_, 1) := by decide +kernel
theorem dX12_isAnswer_0 : decode cX12_isAnswer 0 = .ok (.iload_n 1, 1) := by decide +kernel
theorem dX12_isAnswer_1 : decode cX12_isAnswer 1 = .ok (.bipush 52, 2) := by decide +kernel
theorem dX12_isAnswer_3 : decode cX12_isAnswer 3 = .ok (.if_icmp .eq 5, 3) := by decide +kernel
theorem dX12_isAnswer_6 : decode cX12_isAnswer 6 = .ok (.iconst 0, 1) := by decide +kernel
theorem dX12_isAnswer_7 : decode cX12_isAnswer 7 = .ok (.ireturn, 1) := by decide +kernel
theorem dX12_isAnswer_8 : decode cX12_isAnswer 8 = .ok (.aload_n 0, 1) := by decide +kernel
theorem dX12_isAnswer_9 : decode cX12_isAnswer 9 = .ok (.bipush 9, 2) := by decide +kernel
theorem dX12_isAnswer_11 : decode cX12_isAnswer 11 = .ok (.putfield 478, 3) := by decide +kernel
theorem dX12_isAnswer_14 : decode cX12_isAnswer 14 = .ok (.aload_n 0, 1) := by decide +kernel
theorem dX12_isAnswer_15 : decode cX12_isAnswer 15 = .ok (.iconst 1, 1) := by decide +kernel
theorem dX12_isAnswer_16 : decode cX12_isAnswer 16 = .ok (.putfield 474, 3) := by decide +kernel
theorem dX12_isAnswer_19 : decode cX12_isAnswer 19 = .ok (.aload_n 0, 1) := by decide +kernel
theorem dX12_isAnswer_20 : decode cX12_isAnswer 20 = .ok (.sipush 771, 3) := by decide +kernel
theorem dX12_isAnswer_23 : decode cX12_isAnswer 23 = .ok (.invokevirtual 481, 3) := by decide +kernel
theorem dX12_isAnswer_26 : decode cX12_isAnswer 26 = .ok (.aload_n 0, 1) := by decide +kernel
theorem dX12_isAnswer_27 : decode cX12_isAnswer 27 = .ok (.dup, 1) := by decide +kernel
theorem dX12_isAnswer_28 : decode cX12_isAnswer 28 = .ok (.getfield 478, 3) := by decide +kernel
theorem dX12_isAnswer_31 : decode cX12_isAnswer 31 = .ok (.bipush 32, 2) := by decide +kernel
theorem dX12_isAnswer_33 : decode cX12_isAnswer 33 = .ok (.iadd, 1) := by decide +kernel
theorem dX12_isAnswer_34 : decode cX12_isAnswer 34 = .ok (.putfield 478, 3) := by decide +kernel
theorem dX12_isAnswer_37 : decode cX12_isAnswer 37 = .ok (.aload_n 0, 1) := by decide +kernel
theorem dX12_isAnswer_38 : decode cX12_isAnswer 38 = .ok (.iconst 0, 1) := by decide +kernel
theorem dX12_isAnswer_39 : decode cX12_isAnswer 39 = .ok (.invokevirtual 484, 3) := by decide +kernel
theorem dX12_isAnswer_42 : decode cX12_isAnswer 42 = .ok (.aload_n 0, 1) := by decide +kernel
theorem dX12_isAnswer_43 : decode cX12_isAnswer 43 = .ok (.sipush 4867, 3) := by decide +kernel
theorem dX12_isAnswer_46 : decode cX12_isAnswer 46 = .ok (.invokevirtual 481, 3) := by decide +kernel
theorem dX12_isAnswer_49 : decode cX12_isAnswer 49 = .ok (.aload_n 0, 1) := by decide +kernel
theorem dX12_isAnswer_50 : decode cX12_isAnswer 50 = .ok (.iconst 0, 1) := by decide +kernel
theorem dX12_isAnswer_51 : decode cX12_isAnswer 51 = .ok (.invokevirtual 484, 3) := by decide +kernel
theorem dX12_isAnswer_54 : decode cX12_isAnswer 54 = .ok (.aload_n 0, 1) := by decide +kernel
theorem dX12_isAnswer_55 : decode cX12_isAnswer 55 = .ok (.bipush 12, 2) := by decide +kernel
theorem dX12_isAnswer_57 : decode cX12_isAnswer 57 = .ok (.invokevirtual 481, 3) := by decide +kernel
theorem dX12_isAnswer_60 : decode cX12_isAnswer 60 = .ok (.aload_n 0, 1) := by decide +kernel
theorem dX12_isAnswer_61 : decode cX12_isAnswer 61 = .ok (.bipush 43, 2) := by decide +kernel
theorem dX12_isAnswer_63 : decode cX12_isAnswer 63 = .ok (.invokevirtual 481, 3) := by decide +kernel
theorem dX12_isAnswer_66 : decode cX12_isAnswer 66 = .ok (.aload_n 0, 1) := by decide +kernel
theorem dX12_isAnswer_67 : decode cX12_isAnswer 67 = .ok (.iconst 2, 1) := by decide +kernel
theorem dX12_isAnswer_68 : decode cX12_isAnswer 68 = .ok (.invokevirtual 481, 3) := by decide +kernel
theorem dX12_isAnswer_71 : decode cX12_isAnswer 71 = .ok (.aload_n 0, 1) := by decide +kernel
theorem dX12_isAnswer_72 : decode cX12_isAnswer 72 = .ok (.sipush 772, 3) := by decide +kernel
theorem dX12_isAnswer_75 : decode cX12_isAnswer 75 = .ok (.invokevirtual 481, 3) := by decide +kernel
theorem dX12_isAnswer_78 : decode cX12_isAnswer 78 = .ok (.aload_n 0, 1) := by decide +kernel
theorem dX12_isAnswer_79 : decode cX12_isAnswer 79 = .ok (.bipush 41, 2) := by decide +kernel
theorem dX12_isAnswer_81 : decode cX12_isAnswer 81 = .ok (.invokevirtual 481, 3) := by decide +kernel
theorem dX12_isAnswer_84 : decode cX12_isAnswer 84 = .ok (.aload_n 0, 1) := by decide +kernel
theorem dX12_isAnswer_85 : decode cX12_isAnswer 85 = .ok (.iconst 2, 1) := by decide +kernel
theorem dX12_isAnswer_86 : decode cX12_isAnswer 86 = .ok (.invokevirtual 481, 3) := by decide +kernel
theorem dX12_isAnswer_89 : decode cX12_isAnswer 89 = .ok (.aload_n 0, 1) := by decide +kernel
theorem dX12_isAnswer_90 : decode cX12_isAnswer 90 = .ok (.iconst 0, 1) := by decide +kernel
theorem dX12_isAnswer_91 : decode cX12_isAnswer 91 = .ok (.invokevirtual 481, 3) := by decide +kernel
theorem dX12_isAnswer_94 : decode cX12_isAnswer 94 = .ok (.aload_n 0, 1) := by decide +kernel
theorem dX12_isAnswer_95 : decode cX12_isAnswer 95 = .ok (.getfield 474, 3) := by decide +kernel
theorem dX12_isAnswer_98 : decode cX12_isAnswer 98 = .ok (.ireturn, 1) := by decide +kernel
theorem dX12_helloFault_0 : decode cX12_helloFault 0 = .ok (.iload_n 2, 1) := by decide +kernel
theorem dX12_helloFault_1 : decode cX12_helloFault 1 = .ok (.bipush 103, 2) := by decide +kernel
theorem dX12_helloFault_3 : decode cX12_helloFault 3 = .ok (.isub, 1) := by decide +kernel
theorem dX12_helloFault_4 : decode cX12_helloFault 4 = .ok (.istore_n 3, 1) := by decide +kernel
theorem dX12_helloFault_5 : decode cX12_helloFault 5 = .ok (.iload_n 3, 1) := by decide +kernel
theorem dX12_helloFault_6 : decode cX12_helloFault 6 = .ok (.iconst 1, 1) := by decide +kernel
theorem dX12_helloFault_7 : decode cX12_helloFault 7 = .ok (.bipush 16, 2) := by decide +kernel
theorem dX12_helloFault_9 : decode cX12_helloFault 9 = .ok (.invokestatic 260, 3) := by decide +kernel
theorem dX12_helloFault_12 : decode cX12_helloFault 12 = .ok (.ifCond .ne 6, 3) := by decide +kernel
theorem dX12_helloFault_15 : decode cX12_helloFault 15 = .ok (.bipush 47, 2) := by decide +kernel
theorem dX12_helloFault_17 : decode cX12_helloFault 17 = .ok (.ireturn, 1) := by decide +kernel
theorem dX12_helloFault_18 : decode cX12_helloFault 18 = .ok (.aload_n 0, 1) := by decide +kernel
theorem dX12_helloFault_19 : decode cX12_helloFault 19 = .ok (.bipush 9, 2) := by decide +kernel
theorem dX12_helloFault_21 : decode cX12_helloFault 21 = .ok (.putfield 478, 3) := by decide +kernel
theorem dX12_helloFault_24 : decode cX12_helloFault 24 = .ok (.aload_n 0, 1) := by decide +kernel
theorem dX12_helloFault_25 : decode cX12_helloFault 25 = .ok (.iconst 1, 1) := by decide +kernel
theorem dX12_helloFault_26 : decode cX12_helloFault 26 = .ok (.putfield 474, 3) := by decide +kernel
theorem dX12_helloFault_29 : decode cX12_helloFault 29 = .ok (.aload_n 0, 1) := by decide +kernel
theorem dX12_helloFault_30 : decode cX12_helloFault 30 = .ok (.sipush 771, 3) := by decide +kernel
theorem dX12_helloFault_33 : decode cX12_helloFault 33 = .ok (.invokevirtual 481, 3) := by decide +kernel
theorem dX12_helloFault_36 : decode cX12_helloFault 36 = .ok (.aload_n 0, 1) := by decide +kernel
theorem dX12_helloFault_37 : decode cX12_helloFault 37 = .ok (.dup, 1) := by decide +kernel
theorem dX12_helloFault_38 : decode cX12_helloFault 38 = .ok (.getfield 478, 3) := by decide +kernel
theorem dX12_helloFault_41 : decode cX12_helloFault 41 = .ok (.bipush 32, 2) := by decide +kernel
theorem dX12_helloFault_43 : decode cX12_helloFault 43 = .ok (.iadd, 1) := by decide +kernel
theorem dX12_helloFault_44 : decode cX12_helloFault 44 = .ok (.putfield 478, 3) := by decide +kernel
theorem dX12_helloFault_47 : decode cX12_helloFault 47 = .ok (.aload_n 0, 1) := by decide +kernel
theorem dX12_helloFault_48 : decode cX12_helloFault 48 = .ok (.iconst 0, 1) := by decide +kernel
theorem dX12_helloFault_49 : decode cX12_helloFault 49 = .ok (.invokevirtual 484, 3) := by decide +kernel
theorem dX12_helloFault_52 : decode cX12_helloFault 52 = .ok (.aload_n 0, 1) := by decide +kernel
theorem dX12_helloFault_53 : decode cX12_helloFault 53 = .ok (.iconst 2, 1) := by decide +kernel
theorem dX12_helloFault_54 : decode cX12_helloFault 54 = .ok (.invokevirtual 481, 3) := by decide +kernel
theorem dX12_helloFault_57 : decode cX12_helloFault 57 = .ok (.aload_n 0, 1) := by decide +kernel
theorem dX12_helloFault_58 : decode cX12_helloFault 58 = .ok (.sipush 4867, 3) := by decide +kernel
theorem dX12_helloFault_61 : decode cX12_helloFault 61 = .ok (.invokevirtual 481, 3) := by decide +kernel
theorem dX12_helloFault_64 : decode cX12_helloFault 64 = .ok (.aload_n 0, 1) := by decide +kernel
theorem dX12_helloFault_65 : decode cX12_helloFault 65 = .ok (.sipush 256, 3) := by decide +kernel
theorem dX12_helloFault_68 : decode cX12_helloFault 68 = .ok (.invokevirtual 481, 3) := by decide +kernel
theorem dX12_helloFault_71 : decode cX12_helloFault 71 = .ok (.aload_n 0, 1) := by decide +kernel
theorem dX12_helloFault_72 : decode cX12_helloFault 72 = .ok (.bipush 60, 2) := by decide +kernel
theorem dX12_helloFault_74 : decode cX12_helloFault 74 = .ok (.iload_n 3, 1) := by decide +kernel
theorem dX12_helloFault_75 : decode cX12_helloFault 75 = .ok (.iadd, 1) := by decide +kernel
theorem dX12_helloFault_76 : decode cX12_helloFault 76 = .ok (.invokevirtual 481, 3) := by decide +kernel
theorem dX12_helloFault_79 : decode cX12_helloFault 79 = .ok (.aload_n 0, 1) := by decide +kernel
theorem dX12_helloFault_80 : decode cX12_helloFault 80 = .ok (.bipush 43, 2) := by decide +kernel
theorem dX12_helloFault_82 : decode cX12_helloFault 82 = .ok (.invokevirtual 481, 3) := by decide +kernel
theorem dX12_helloFault_85 : decode cX12_helloFault 85 = .ok (.aload_n 0, 1) := by decide +kernel
theorem dX12_helloFault_86 : decode cX12_helloFault 86 = .ok (.iconst 3, 1) := by decide +kernel
theorem dX12_helloFault_87 : decode cX12_helloFault 87 = .ok (.invokevirtual 481, 3) := by decide +kernel
theorem dX12_helloFault_90 : decode cX12_helloFault 90 = .ok (.aload_n 0, 1) := by decide +kernel
theorem dX12_helloFault_91 : decode cX12_helloFault 91 = .ok (.iconst 2, 1) := by decide +kernel
theorem dX12_helloFault_92 : decode cX12_helloFault 92 = .ok (.invokevirtual 484, 3) := by decide +kernel
theorem dX12_helloFault_95 : decode cX12_helloFault 95 = .ok (.aload_n 0, 1) := by decide +kernel
theorem dX12_helloFault_96 : decode cX12_helloFault 96 = .ok (.sipush 772, 3) := by decide +kernel
theorem dX12_helloFault_99 : decode cX12_helloFault 99 = .ok (.invokevirtual 481, 3) := by decide +kernel
theorem dX12_helloFault_102 : decode cX12_helloFault 102 = .ok (.aload_n 0, 1) := by decide +kernel
theorem dX12_helloFault_103 : decode cX12_helloFault 103 = .ok (.bipush 45, 2) := by decide +kernel
theorem dX12_helloFault_105 : decode cX12_helloFault 105 = .ok (.invokevirtual 481, 3) := by decide +kernel
theorem dX12_helloFault_108 : decode cX12_helloFault 108 = .ok (.aload_n 0, 1) := by decide +kernel
theorem dX12_helloFault_109 : decode cX12_helloFault 109 = .ok (.iconst 2, 1) := by decide +kernel
theorem dX12_helloFault_110 : decode cX12_helloFault 110 = .ok (.invokevirtual 481, 3) := by decide +kernel
theorem dX12_helloFault_113 : decode cX12_helloFault 113 = .ok (.aload_n 0, 1) := by decide +kernel
theorem dX12_helloFault_114 : decode cX12_helloFault 114 = .ok (.sipush 256, 3) := by decide +kernel
theorem dX12_helloFault_117 : decode cX12_helloFault 117 = .ok (.invokevirtual 481, 3) := by decide +kernel
theorem dX12_helloFault_120 : decode cX12_helloFault 120 = .ok (.aload_n 0, 1) := by decide +kernel
theorem dX12_helloFault_121 : decode cX12_helloFault 121 = .ok (.bipush 41, 2) := by decide +kernel
theorem dX12_helloFault_123 : decode cX12_helloFault 123 = .ok (.invokevirtual 481, 3) := by decide +kernel
theorem dX12_helloFault_126 : decode cX12_helloFault 126 = .ok (.aload_n 0, 1) := by decide +kernel
theorem dX12_helloFault_127 : decode cX12_helloFault 127 = .ok (.iload_n 3, 1) := by decide +kernel
theorem dX12_helloFault_128 : decode cX12_helloFault 128 = .ok (.bipush 43, 2) := by decide +kernel
theorem dX12_helloFault_130 : decode cX12_helloFault 130 = .ok (.iadd, 1) := by decide +kernel
theorem dX12_helloFault_131 : decode cX12_helloFault 131 = .ok (.invokevirtual 481, 3) := by decide +kernel
theorem dX12_helloFault_134 : decode cX12_helloFault 134 = .ok (.aload_n 0, 1) := by decide +kernel
theorem dX12_helloFault_135 : decode cX12_helloFault 135 = .ok (.iload_n 3, 1) := by decide +kernel
theorem dX12_helloFault_136 : decode cX12_helloFault 136 = .ok (.bipush 6, 2) := by decide +kernel
theorem dX12_helloFault_138 : decode cX12_helloFault 138 = .ok (.iadd, 1) := by decide +kernel
theorem dX12_helloFault_139 : decode cX12_helloFault 139 = .ok (.invokevirtual 481, 3) := by decide +kernel
theorem dX12_helloFault_142 : decode cX12_helloFault 142 = .ok (.aload_n 0, 1) := by decide +kernel
theorem dX12_helloFault_143 : decode cX12_helloFault 143 = .ok (.iload_n 3, 1) := by decide +kernel
theorem dX12_helloFault_144 : decode cX12_helloFault 144 = .ok (.invokevirtual 481, 3) := by decide +kernel
theorem dX12_helloFault_147 : decode cX12_helloFault 147 = .ok (.aload_n 0, 1) := by decide +kernel
theorem dX12_helloFault_148 : decode cX12_helloFault 148 = .ok (.getfield 478, 3) := by decide +kernel
theorem dX12_helloFault_151 : decode cX12_helloFault 151 = .ok (.istore 4, 2) := by decide +kernel
theorem dX12_helloFault_153 : decode cX12_helloFault 153 = .ok (.aload_n 0, 1) := by decide +kernel
theorem dX12_helloFault_154 : decode cX12_helloFault 154 = .ok (.dup, 1) := by decide +kernel
theorem dX12_helloFault_155 : decode cX12_helloFault 155 = .ok (.getfield 478, 3) := by decide +kernel
theorem dX12_helloFault_158 : decode cX12_helloFault 158 = .ok (.iload_n 3, 1) := by decide +kernel
theorem dX12_helloFault_159 : decode cX12_helloFault 159 = .ok (.iadd, 1) := by decide +kernel
theorem dX12_helloFault_160 : decode cX12_helloFault 160 = .ok (.putfield 478, 3) := by decide +kernel
theorem dX12_helloFault_163 : decode cX12_helloFault 163 = .ok (.aload_n 0, 1) := by decide +kernel
theorem dX12_helloFault_164 : decode cX12_helloFault 164 = .ok (.iconst 0, 1) := by decide +kernel
theorem dX12_helloFault_165 : decode cX12_helloFault 165 = .ok (.invokevirtual 481, 3) := by decide +kernel
theorem dX12_helloFault_168 : decode cX12_helloFault 168 = .ok (.aload_n 0, 1) := by decide +kernel
theorem dX12_helloFault_169 : decode cX12_helloFault 169 = .ok (.iconst 0, 1) := by decide +kernel
theorem dX12_helloFault_170 : decode cX12_helloFault 170 = .ok (.invokevirtual 481, 3) := by decide +kernel
theorem dX12_helloFault_173 : decode cX12_helloFault 173 = .ok (.aload_n 0, 1) := by decide +kernel
theorem dX12_helloFault_174 : decode cX12_helloFault 174 = .ok (.getfield 478, 3) := by decide +kernel
theorem dX12_helloFault_177 : decode cX12_helloFault 177 = .ok (.istore 5, 2) := by decide +kernel
theorem dX12_helloFault_179 : decode cX12_helloFault 179 = .ok (.aload_n 0, 1) := by decide +kernel
theorem dX12_helloFault_180 : decode cX12_helloFault 180 = .ok (.bipush 33, 2) := by decide +kernel
theorem dX12_helloFault_182 : decode cX12_helloFault 182 = .ok (.invokevirtual 481, 3) := by decide +kernel
theorem dX12_helloFault_185 : decode cX12_helloFault 185 = .ok (.aload_n 0, 1) := by decide +kernel
theorem dX12_helloFault_186 : decode cX12_helloFault 186 = .ok (.bipush 32, 2) := by decide +kernel
theorem dX12_helloFault_188 : decode cX12_helloFault 188 = .ok (.invokevirtual 484, 3) := by decide +kernel
theorem dX12_helloFault_191 : decode cX12_helloFault 191 = .ok (.aload_n 0, 1) := by decide +kernel
theorem dX12_helloFault_192 : decode cX12_helloFault 192 = .ok (.getfield 474, 3) := by decide +kernel
theorem dX12_helloFault_195 : decode cX12_helloFault 195 = .ok (.ifCond .ne 6, 3) := by decide +kernel
theorem dX12_helloFault_198 : decode cX12_helloFault 198 = .ok (.bipush 47, 2) := by decide +kernel
theorem dX12_helloFault_200 : decode cX12_helloFault 200 = .ok (.ireturn, 1) := by decide +kernel
theorem dX12_helloFault_201 : decode cX12_helloFault 201 = .ok (.iload_n 3, 1) := by decide +kernel
theorem dX12_helloFault_202 : decode cX12_helloFault 202 = .ok (.aload_n 0, 1) := by decide +kernel
theorem dX12_helloFault_203 : decode cX12_helloFault 203 = .ok (.getfield 30, 3) := by decide +kernel
theorem dX12_helloFault_206 : decode cX12_helloFault 206 = .ok (.iload_n 1, 1) := by decide +kernel
theorem dX12_helloFault_207 : decode cX12_helloFault 207 = .ok (.iaload, 1) := by decide +kernel
theorem dX12_helloFault_208 : decode cX12_helloFault 208 = .ok (.if_icmp .ne 7, 3) := by decide +kernel
theorem dX12_helloFault_211 : decode cX12_helloFault 211 = .ok (.iconst 1, 1) := by decide +kernel
theorem dX12_helloFault_212 : decode cX12_helloFault 212 = .ok (.goto 4, 3) := by decide +kernel
theorem dX12_helloFault_215 : decode cX12_helloFault 215 = .ok (.iconst 0, 1) := by decide +kernel
theorem dX12_helloFault_216 : decode cX12_helloFault 216 = .ok (.istore 6, 2) := by decide +kernel
theorem dX12_helloFault_218 : decode cX12_helloFault 218 = .ok (.iconst 0, 1) := by decide +kernel
theorem dX12_helloFault_219 : decode cX12_helloFault 219 = .ok (.istore 7, 2) := by decide +kernel
theorem dX12_helloFault_221 : decode cX12_helloFault 221 = .ok (.iload 7, 2) := by decide +kernel
theorem dX12_helloFault_223 : decode cX12_helloFault 223 = .ok (.iload_n 3, 1) := by decide +kernel
theorem dX12_helloFault_224 : decode cX12_helloFault 224 = .ok (.if_icmp .ge 46, 3) := by decide +kernel
theorem dX12_helloFault_227 : decode cX12_helloFault 227 = .ok (.iload 6, 2) := by decide +kernel
theorem dX12_helloFault_229 : decode cX12_helloFault 229 = .ok (.ifCond .eq 41, 3) := by decide +kernel
theorem dX12_helloFault_232 : decode cX12_helloFault 232 = .ok (.aload_n 0, 1) := by decide +kernel
theorem dX12_helloFault_233 : decode cX12_helloFault 233 = .ok (.getfield 182, 3) := by decide +kernel
theorem dX12_helloFault_236 : decode cX12_helloFault 236 = .ok (.iload 4, 2) := by decide +kernel
theorem dX12_helloFault_238 : decode cX12_helloFault 238 = .ok (.iload 7, 2) := by decide +kernel
theorem dX12_helloFault_240 : decode cX12_helloFault 240 = .ok (.iadd, 1) := by decide +kernel
theorem dX12_helloFault_241 : decode cX12_helloFault 241 = .ok (.baload, 1) := by decide +kernel
theorem dX12_helloFault_242 : decode cX12_helloFault 242 = .ok (.aload_n 0, 1) := by decide +kernel
theorem dX12_helloFault_243 : decode cX12_helloFault 243 = .ok (.getfield 27, 3) := by decide +kernel
theorem dX12_helloFault_246 : decode cX12_helloFault 246 = .ok (.bipush 16, 2) := by decide +kernel
theorem dX12_helloFault_248 : decode cX12_helloFault 248 = .ok (.iload_n 1, 1) := by decide +kernel
theorem dX12_helloFault_249 : decode cX12_helloFault 249 = .ok (.imul, 1) := by decide +kernel
theorem dX12_helloFault_250 : decode cX12_helloFault 250 = .ok (.iload 7, 2) := by decide +kernel
theorem dX12_helloFault_252 : decode cX12_helloFault 252 = .ok (.iadd, 1) := by decide +kernel
theorem dX12_helloFault_253 : decode cX12_helloFault 253 = .ok (.baload, 1) := by decide +kernel
theorem dX12_helloFault_254 : decode cX12_helloFault 254 = .ok (.if_icmp .ne 7, 3) := by decide +kernel
theorem dX12_helloFault_257 : decode cX12_helloFault 257 = .ok (.iconst 1, 1) := by decide +kernel
theorem dX12_helloFault_258 : decode cX12_helloFault 258 = .ok (.goto 4, 3) := by decide +kernel
theorem dX12_helloFault_261 : decode cX12_helloFault 261 = .ok (.iconst 0, 1) := by decide +kernel
theorem dX12_helloFault_262 : decode cX12_helloFault 262 = .ok (.istore 6, 2) := by decide +kernel
theorem dX12_helloFault_264 : decode cX12_helloFault 264 = .ok (.iinc 7 1, 3) := by decide +kernel
theorem dX12_helloFault_267 : decode cX12_helloFault 267 = .ok (.goto (-46), 3) := by decide +kernel
theorem dX12_helloFault_270 : decode cX12_helloFault 270 = .ok (.iload 6, 2) := by decide +kernel
theorem dX12_helloFault_272 : decode cX12_helloFault 272 = .ok (.ifCond .ne 6, 3) := by decide +kernel
theorem dX12_helloFault_275 : decode cX12_helloFault 275 = .ok (.bipush 115, 2) := by decide +kernel
theorem dX12_helloFault_277 : decode cX12_helloFault 277 = .ok (.ireturn, 1) := by decide +kernel
theorem dX12_helloFault_278 : decode cX12_helloFault 278 = .ok (.aload_n 0, 1) := by decide +kernel
theorem dX12_helloFault_279 : decode cX12_helloFault 279 = .ok (.iload_n 1, 1) := by decide +kernel
theorem dX12_helloFault_280 : decode cX12_helloFault 280 = .ok (.aload_n 0, 1) := by decide +kernel
theorem dX12_helloFault_281 : decode cX12_helloFault 281 = .ok (.getfield 182, 3) := by decide +kernel
theorem dX12_helloFault_284 : decode cX12_helloFault 284 = .ok (.iconst 5, 1) := by decide +kernel
theorem dX12_helloFault_285 : decode cX12_helloFault 285 = .ok (.iload 5, 2) := by decide +kernel
theorem dX12_helloFault_287 : decode cX12_helloFault 287 = .ok (.iconst 5, 1) := by decide +kernel
theorem dX12_helloFault_288 : decode cX12_helloFault 288 = .ok (.isub, 1) := by decide +kernel
theorem dX12_helloFault_289 : decode cX12_helloFault 289 = .ok (.invokevirtual 410, 3) := by decide +kernel
theorem dX12_helloFault_292 : decode cX12_helloFault 292 = .ok (.iconst 0, 1) := by decide +kernel
theorem dX12_helloFault_293 : decode cX12_helloFault 293 = .ok (.istore 7, 2) := by decide +kernel
theorem dX12_helloFault_295 : decode cX12_helloFault 295 = .ok (.iload 7, 2) := by decide +kernel
theorem dX12_helloFault_297 : decode cX12_helloFault 297 = .ok (.bipush 32, 2) := by decide +kernel
theorem dX12_helloFault_299 : decode cX12_helloFault 299 = .ok (.if_icmp .ge 34, 3) := by decide +kernel
theorem dX12_helloFault_302 : decode cX12_helloFault 302 = .ok (.aload_n 0, 1) := by decide +kernel
theorem dX12_helloFault_303 : decode cX12_helloFault 303 = .ok (.getfield 179, 3) := by decide +kernel
theorem dX12_helloFault_306 : decode cX12_helloFault 306 = .ok (.iload 7, 2) := by decide +kernel
theorem dX12_helloFault_308 : decode cX12_helloFault 308 = .ok (.baload, 1) := by decide +kernel
theorem dX12_helloFault_309 : decode cX12_helloFault 309 = .ok (.aload_n 0, 1) := by decide +kernel
theorem dX12_helloFault_310 : decode cX12_helloFault 310 = .ok (.getfield 182, 3) := by decide +kernel
theorem dX12_helloFault_313 : decode cX12_helloFault 313 = .ok (.aload_n 0, 1) := by decide +kernel
theorem dX12_helloFault_314 : decode cX12_helloFault 314 = .ok (.getfield 478, 3) := by decide +kernel
theorem dX12_helloFault_317 : decode cX12_helloFault 317 = .ok (.iload 7, 2) := by decide +kernel
theorem dX12_helloFault_319 : decode cX12_helloFault 319 = .ok (.iadd, 1) := by decide +kernel
theorem dX12_helloFault_320 : decode cX12_helloFault 320 = .ok (.baload, 1) := by decide +kernel
theorem dX12_helloFault_321 : decode cX12_helloFault 321 = .ok (.if_icmp .eq 6, 3) := by decide +kernel
theorem dX12_helloFault_324 : decode cX12_helloFault 324 = .ok (.bipush 51, 2) := by decide +kernel
theorem dX12_helloFault_326 : decode cX12_helloFault 326 = .ok (.ireturn, 1) := by decide +kernel
theorem dX12_helloFault_327 : decode cX12_helloFault 327 = .ok (.iinc 7 1, 3) := by decide +kernel
theorem dX12_helloFault_330 : decode cX12_helloFault 330 = .ok (.goto (-35), 3) := by decide +kernel
theorem dX12_helloFault_333 : decode cX12_helloFault 333 = .ok (.iconst 0, 1) := by decide +kernel
theorem dX12_helloFault_334 : decode cX12_helloFault 334 = .ok (.ireturn, 1) := by decide +kernel
theorem dX12_goOn_0 : decode cX12_goOn 0 = .ok (.iload_n 2, 1) := by decide +kernel
theorem dX12_goOn_1 : decode cX12_goOn 1 = .ok (.lookupswitch 76 #[(1, 43), (2, 49), (8, 62), (20, 70)], 43) := by decide +kernel
theorem dX12_goOn_44 : decode cX12_goOn 44 = .ok (.aload_n 0, 1) := by decide +kernel
theorem dX12_goOn_45 : decode cX12_goOn 45 = .ok (.iload_n 1, 1) := by decide +kernel
theorem dX12_goOn_46 : decode cX12_goOn 46 = .ok (.invokevirtual 487, 3) := by decide +kernel
theorem dX12_goOn_49 : decode cX12_goOn 49 = .ok (.return_, 1) := by decide +kernel
theorem dX12_goOn_50 : decode cX12_goOn 50 = .ok (.aload_n 0, 1) := by decide +kernel
theorem dX12_goOn_51 : decode cX12_goOn 51 = .ok (.iload_n 1, 1) := by decide +kernel
theorem dX12_goOn_52 : decode cX12_goOn 52 = .ok (.invokevirtual 490, 3) := by decide +kernel
theorem dX12_goOn_55 : decode cX12_goOn 55 = .ok (.aload_n 0, 1) := by decide +kernel
theorem dX12_goOn_56 : decode cX12_goOn 56 = .ok (.getfield 17, 3) := by decide +kernel
theorem dX12_goOn_59 : decode cX12_goOn 59 = .ok (.iload_n 1, 1) := by decide +kernel
theorem dX12_goOn_60 : decode cX12_goOn 60 = .ok (.iconst 2, 1) := by decide +kernel
theorem dX12_goOn_61 : decode cX12_goOn 61 = .ok (.iastore, 1) := by decide +kernel
theorem dX12_goOn_62 : decode cX12_goOn 62 = .ok (.return_, 1) := by decide +kernel
theorem dX12_goOn_63 : decode cX12_goOn 63 = .ok (.aload_n 0, 1) := by decide +kernel
theorem dX12_goOn_64 : decode cX12_goOn 64 = .ok (.getfield 17, 3) := by decide +kernel
theorem dX12_goOn_67 : decode cX12_goOn 67 = .ok (.iload_n 1, 1) := by decide +kernel
theorem dX12_goOn_68 : decode cX12_goOn 68 = .ok (.iconst 3, 1) := by decide +kernel
theorem dX12_goOn_69 : decode cX12_goOn 69 = .ok (.iastore, 1) := by decide +kernel
theorem dX12_goOn_70 : decode cX12_goOn 70 = .ok (.return_, 1) := by decide +kernel
theorem dX12_goOn_71 : decode cX12_goOn 71 = .ok (.aload_n 0, 1) := by decide +kernel
theorem dX12_goOn_72 : decode cX12_goOn 72 = .ok (.iload_n 1, 1) := by decide +kernel
theorem dX12_goOn_73 : decode cX12_goOn 73 = .ok (.invokevirtual 493, 3) := by decide +kernel
theorem dX12_goOn_76 : decode cX12_goOn 76 = .ok (.return_, 1) := by decide +kernel
theorem dX12_goOn_77 : decode cX12_goOn 77 = .ok (.aload_n 0, 1) := by decide +kernel
theorem dX12_goOn_78 : decode cX12_goOn 78 = .ok (.iload_n 1, 1) := by decide +kernel
theorem dX12_goOn_79 : decode cX12_goOn 79 = .ok (.invokevirtual 496, 3) := by decide +kernel
theorem dX12_goOn_82 : decode cX12_goOn 82 = .ok (.return_, 1) := by decide +kernel
theorem dX12_answer_0 : decode cX12_answer 0 = .ok (.aload_n 0, 1) := by decide +kernel
theorem dX12_answer_1 : decode cX12_answer 1 = .ok (.iconst 2, 1) := by decide +kernel
theorem dX12_answer_2 : decode cX12_answer 2 = .ok (.invokevirtual 404, 3) := by decide +kernel
theorem dX12_answer_5 : decode cX12_answer 5 = .ok (.aload_n 0, 1) := by decide +kernel
theorem dX12_answer_6 : decode cX12_answer 6 = .ok (.sipush 771, 3) := by decide +kernel
theorem dX12_answer_9 : decode cX12_answer 9 = .ok (.invokevirtual 390, 3) := by decide +kernel
theorem dX12_answer_12 : decode cX12_answer 12 = .ok (.aload_n 0, 1) := by decide +kernel
theorem dX12_answer_13 : decode cX12_answer 13 = .ok (.aload_n 0, 1) := by decide +kernel
theorem dX12_answer_14 : decode cX12_answer 14 = .ok (.getfield 33, 3) := by decide +kernel
theorem dX12_answer_17 : decode cX12_answer 17 = .ok (.bipush 32, 2) := by decide +kernel
theorem dX12_answer_19 : decode cX12_answer 19 = .ok (.iload_n 1, 1) := by decide +kernel
theorem dX12_answer_20 : decode cX12_answer 20 = .ok (.imul, 1) := by decide +kernel
theorem dX12_answer_21 : decode cX12_answer 21 = .ok (.bipush 32, 2) := by decide +kernel
theorem dX12_answer_23 : decode cX12_answer 23 = .ok (.invokevirtual 407, 3) := by decide +kernel
theorem dX12_answer_26 : decode cX12_answer 26 = .ok (.aload_n 0, 1) := by decide +kernel
theorem dX12_answer_27 : decode cX12_answer 27 = .ok (.iconst 0, 1) := by decide +kernel
theorem dX12_answer_28 : decode cX12_answer 28 = .ok (.invokevirtual 377, 3) := by decide +kernel
theorem dX12_answer_31 : decode cX12_answer 31 = .ok (.aload_n 0, 1) := by decide +kernel
theorem dX12_answer_32 : decode cX12_answer 32 = .ok (.sipush 4867, 3) := by decide +kernel
theorem dX12_answer_35 : decode cX12_answer 35 = .ok (.invokevirtual 390, 3) := by decide +kernel
theorem dX12_answer_38 : decode cX12_answer 38 = .ok (.aload_n 0, 1) := by decide +kernel
theorem dX12_answer_39 : decode cX12_answer 39 = .ok (.iconst 0, 1) := by decide +kernel
theorem dX12_answer_40 : decode cX12_answer 40 = .ok (.invokevirtual 377, 3) := by decide +kernel
theorem dX12_answer_43 : decode cX12_answer 43 = .ok (.aload_n 0, 1) := by decide +kernel
theorem dX12_answer_44 : decode cX12_answer 44 = .ok (.bipush 12, 2) := by decide +kernel
theorem dX12_answer_46 : decode cX12_answer 46 = .ok (.invokevirtual 390, 3) := by decide +kernel
theorem dX12_answer_49 : decode cX12_answer 49 = .ok (.aload_n 0, 1) := by decide +kernel
theorem dX12_answer_50 : decode cX12_answer 50 = .ok (.bipush 43, 2) := by decide +kernel
theorem dX12_answer_52 : decode cX12_answer 52 = .ok (.invokevirtual 390, 3) := by decide +kernel
theorem dX12_answer_55 : decode cX12_answer 55 = .ok (.aload_n 0, 1) := by decide +kernel
theorem dX12_answer_56 : decode cX12_answer 56 = .ok (.iconst 2, 1) := by decide +kernel
theorem dX12_answer_57 : decode cX12_answer 57 = .ok (.invokevirtual 390, 3) := by decide +kernel
theorem dX12_answer_60 : decode cX12_answer 60 = .ok (.aload_n 0, 1) := by decide +kernel
theorem dX12_answer_61 : decode cX12_answer 61 = .ok (.sipush 772, 3) := by decide +kernel
theorem dX12_answer_64 : decode cX12_answer 64 = .ok (.invokevirtual 390, 3) := by decide +kernel
theorem dX12_answer_67 : decode cX12_answer 67 = .ok (.aload_n 0, 1) := by decide +kernel
theorem dX12_answer_68 : decode cX12_answer 68 = .ok (.bipush 41, 2) := by decide +kernel
theorem dX12_answer_70 : decode cX12_answer 70 = .ok (.invokevirtual 390, 3) := by decide +kernel
theorem dX12_answer_73 : decode cX12_answer 73 = .ok (.aload_n 0, 1) := by decide +kernel
theorem dX12_answer_74 : decode cX12_answer 74 = .ok (.iconst 2, 1) := by decide +kernel
theorem dX12_answer_75 : decode cX12_answer 75 = .ok (.invokevirtual 390, 3) := by decide +kernel
theorem dX12_answer_78 : decode cX12_answer 78 = .ok (.aload_n 0, 1) := by decide +kernel
theorem dX12_answer_79 : decode cX12_answer 79 = .ok (.iconst 0, 1) := by decide +kernel
theorem dX12_answer_80 : decode cX12_answer 80 = .ok (.invokevirtual 390, 3) := by decide +kernel
theorem dX12_answer_83 : decode cX12_answer 83 = .ok (.aload_n 0, 1) := by decide +kernel
theorem dX12_answer_84 : decode cX12_answer 84 = .ok (.iload_n 1, 1) := by decide +kernel
theorem dX12_answer_85 : decode cX12_answer 85 = .ok (.iconst 1, 1) := by decide +kernel
theorem dX12_answer_86 : decode cX12_answer 86 = .ok (.invokevirtual 413, 3) := by decide +kernel
theorem dX12_answer_89 : decode cX12_answer 89 = .ok (.aload_n 0, 1) := by decide +kernel
theorem dX12_answer_90 : decode cX12_answer 90 = .ok (.iload_n 1, 1) := by decide +kernel
theorem dX12_answer_91 : decode cX12_answer 91 = .ok (.invokevirtual 490, 3) := by decide +kernel
theorem dX12_answer_94 : decode cX12_answer 94 = .ok (.aload_n 0, 1) := by decide +kernel
theorem dX12_answer_95 : decode cX12_answer 95 = .ok (.bipush 8, 2) := by decide +kernel
theorem dX12_answer_97 : decode cX12_answer 97 = .ok (.invokevirtual 404, 3) := by decide +kernel
theorem dX12_answer_100 : decode cX12_answer 100 = .ok (.aload_n 0, 1) := by decide +kernel
theorem dX12_answer_101 : decode cX12_answer 101 = .ok (.iconst 0, 1) := by decide +kernel
theorem dX12_answer_102 : decode cX12_answer 102 = .ok (.invokevirtual 390, 3) := by decide +kernel
theorem dX12_answer_105 : decode cX12_answer 105 = .ok (.aload_n 0, 1) := by decide +kernel
theorem dX12_answer_106 : decode cX12_answer 106 = .ok (.iload_n 1, 1) := by decide +kernel
theorem dX12_answer_107 : decode cX12_answer 107 = .ok (.iconst 1, 1) := by decide +kernel
theorem dX12_answer_108 : decode cX12_answer 108 = .ok (.invokevirtual 413, 3) := by decide +kernel
theorem dX12_answer_111 : decode cX12_answer 111 = .ok (.aload_n 0, 1) := by decide +kernel
theorem dX12_answer_112 : decode cX12_answer 112 = .ok (.iload_n 1, 1) := by decide +kernel
theorem dX12_answer_113 : decode cX12_answer 113 = .ok (.invokevirtual 499, 3) := by decide +kernel
theorem dX12_answer_116 : decode cX12_answer 116 = .ok (.aload_n 0, 1) := by decide +kernel
theorem dX12_answer_117 : decode cX12_answer 117 = .ok (.iload_n 1, 1) := by decide +kernel
theorem dX12_answer_118 : decode cX12_answer 118 = .ok (.invokevirtual 334, 3) := by decide +kernel
theorem dX12_answer_121 : decode cX12_answer 121 = .ok (.aload_n 0, 1) := by decide +kernel
theorem dX12_answer_122 : decode cX12_answer 122 = .ok (.aload_n 0, 1) := by decide +kernel
theorem dX12_answer_123 : decode cX12_answer 123 = .ok (.getfield 82, 3) := by decide +kernel
theorem dX12_answer_126 : decode cX12_answer 126 = .ok (.bipush 32, 2) := by decide +kernel
theorem dX12_answer_128 : decode cX12_answer 128 = .ok (.iload_n 1, 1) := by decide +kernel
theorem dX12_answer_129 : decode cX12_answer 129 = .ok (.imul, 1) := by decide +kernel
theorem dX12_answer_130 : decode cX12_answer 130 = .ok (.iconst 4, 1) := by decide +kernel
theorem dX12_answer_131 : decode cX12_answer 131 = .ok (.aload_n 0, 1) := by decide +kernel
theorem dX12_answer_132 : decode cX12_answer 132 = .ok (.getfield 136, 3) := by decide +kernel
theorem dX12_answer_135 : decode cX12_answer 135 = .ok (.bipush 32, 2) := by decide +kernel
theorem dX12_answer_137 : decode cX12_answer 137 = .ok (.aload_n 0, 1) := by decide +kernel
theorem dX12_answer_138 : decode cX12_answer 138 = .ok (.getfield 73, 3) := by decide +kernel
theorem dX12_answer_141 : decode cX12_answer 141 = .ok (.bipush 32, 2) := by decide +kernel
theorem dX12_answer_143 : decode cX12_answer 143 = .ok (.iload_n 1, 1) := by decide +kernel
theorem dX12_answer_144 : decode cX12_answer 144 = .ok (.imul, 1) := by decide +kernel
theorem dX12_answer_145 : decode cX12_answer 145 = .ok (.bipush 32, 2) := by decide +kernel
theorem dX12_answer_147 : decode cX12_answer 147 = .ok (.invokevirtual 330, 3) := by decide +kernel
theorem dX12_answer_150 : decode cX12_answer 150 = .ok (.aload_n 0, 1) := by decide +kernel
theorem dX12_answer_151 : decode cX12_answer 151 = .ok (.aload_n 0, 1) := by decide +kernel
theorem dX12_answer_152 : decode cX12_answer 152 = .ok (.getfield 82, 3) := by decide +kernel
theorem dX12_answer_155 : decode cX12_answer 155 = .ok (.bipush 32, 2) := by decide +kernel
theorem dX12_answer_157 : decode cX12_answer 157 = .ok (.iload_n 1, 1) := by decide +kernel
theorem dX12_answer_158 : decode cX12_answer 158 = .ok (.imul, 1) := by decide +kernel
theorem dX12_answer_159 : decode cX12_answer 159 = .ok (.iconst 3, 1) := by decide +kernel
theorem dX12_answer_160 : decode cX12_answer 160 = .ok (.aload_n 0, 1) := by decide +kernel
theorem dX12_answer_161 : decode cX12_answer 161 = .ok (.getfield 136, 3) := by decide +kernel
theorem dX12_answer_164 : decode cX12_answer 164 = .ok (.bipush 32, 2) := by decide +kernel
theorem dX12_answer_166 : decode cX12_answer 166 = .ok (.aload_n 0, 1) := by decide +kernel
theorem dX12_answer_167 : decode cX12_answer 167 = .ok (.getfield 79, 3) := by decide +kernel
theorem dX12_answer_170 : decode cX12_answer 170 = .ok (.bipush 32, 2) := by decide +kernel
theorem dX12_answer_172 : decode cX12_answer 172 = .ok (.iload_n 1, 1) := by decide +kernel
theorem dX12_answer_173 : decode cX12_answer 173 = .ok (.imul, 1) := by decide +kernel
theorem dX12_answer_174 : decode cX12_answer 174 = .ok (.bipush 32, 2) := by decide +kernel
theorem dX12_answer_176 : decode cX12_answer 176 = .ok (.invokevirtual 330, 3) := by decide +kernel
theorem dX12_answer_179 : decode cX12_answer 179 = .ok (.aload_n 0, 1) := by decide +kernel
theorem dX12_answer_180 : decode cX12_answer 180 = .ok (.getfield 91, 3) := by decide +kernel
theorem dX12_answer_183 : decode cX12_answer 183 = .ok (.iload_n 1, 1) := by decide +kernel
theorem dX12_answer_184 : decode cX12_answer 184 = .ok (.iconst 0, 1) := by decide +kernel
theorem dX12_answer_185 : decode cX12_answer 185 = .ok (.iastore, 1) := by decide +kernel
theorem dX12_answer_186 : decode cX12_answer 186 = .ok (.aload_n 0, 1) := by decide +kernel
theorem dX12_answer_187 : decode cX12_answer 187 = .ok (.getfield 17, 3) := by decide +kernel
theorem dX12_answer_190 : decode cX12_answer 190 = .ok (.iload_n 1, 1) := by decide +kernel
theorem dX12_answer_191 : decode cX12_answer 191 = .ok (.iconst 5, 1) := by decide +kernel
theorem dX12_answer_192 : decode cX12_answer 192 = .ok (.iastore, 1) := by decide +kernel
theorem dX12_answer_193 : decode cX12_answer 193 = .ok (.return_, 1) := by decide +kernel
theorem dX12_finish_0 : decode cX12_finish 0 = .ok (.aload_n 0, 1) := by decide +kernel
theorem dX12_finish_1 : decode cX12_finish 1 = .ok (.getfield 13, 3) := by decide +kernel
theorem dX12_finish_4 : decode cX12_finish 4 = .ok (.iload_n 1, 1) := by decide +kernel
theorem dX12_finish_5 : decode cX12_finish 5 = .ok (.baload, 1) := by decide +kernel
theorem dX12_finish_6 : decode cX12_finish 6 = .ok (.ifCond .eq 40, 3) := by decide +kernel
theorem dX12_finish_9 : decode cX12_finish 9 = .ok (.aload_n 0, 1) := by decide +kernel
theorem dX12_finish_10 : decode cX12_finish 10 = .ok (.getfield 79, 3) := by decide +kernel
theorem dX12_finish_13 : decode cX12_finish 13 = .ok (.bipush 32, 2) := by decide +kernel
theorem dX12_finish_15 : decode cX12_finish 15 = .ok (.iload_n 1, 1) := by decide +kernel
theorem dX12_finish_16 : decode cX12_finish 16 = .ok (.imul, 1) := by decide +kernel
theorem dX12_finish_17 : decode cX12_finish 17 = .ok (.aload_n 0, 1) := by decide +kernel
theorem dX12_finish_18 : decode cX12_finish 18 = .ok (.getfield 76, 3) := by decide +kernel
theorem dX12_finish_21 : decode cX12_finish 21 = .ok (.bipush 32, 2) := by decide +kernel
theorem dX12_finish_23 : decode cX12_finish 23 = .ok (.iload_n 1, 1) := by decide +kernel
theorem dX12_finish_24 : decode cX12_finish 24 = .ok (.imul, 1) := by decide +kernel
theorem dX12_finish_25 : decode cX12_finish 25 = .ok (.bipush 32, 2) := by decide +kernel
theorem dX12_finish_27 : decode cX12_finish 27 = .ok (.invokestatic 279, 3) := by decide +kernel
theorem dX12_finish_30 : decode cX12_finish 30 = .ok (.aload_n 0, 1) := by decide +kernel
theorem dX12_finish_31 : decode cX12_finish 31 = .ok (.getfield 94, 3) := by decide +kernel
theorem dX12_finish_34 : decode cX12_finish 34 = .ok (.iload_n 1, 1) := by decide +kernel
theorem dX12_finish_35 : decode cX12_finish 35 = .ok (.iconst 0, 1) := by decide +kernel
theorem dX12_finish_36 : decode cX12_finish 36 = .ok (.iastore, 1) := by decide +kernel
theorem dX12_finish_37 : decode cX12_finish 37 = .ok (.aload_n 0, 1) := by decide +kernel
theorem dX12_finish_38 : decode cX12_finish 38 = .ok (.getfield 17, 3) := by decide +kernel
theorem dX12_finish_41 : decode cX12_finish 41 = .ok (.iload_n 1, 1) := by decide +kernel
theorem dX12_finish_42 : decode cX12_finish 42 = .ok (.bipush 6, 2) := by decide +kernel
theorem dX12_finish_44 : decode cX12_finish 44 = .ok (.iastore, 1) := by decide +kernel
theorem dX12_finish_45 : decode cX12_finish 45 = .ok (.return_, 1) := by decide +kernel
theorem dX12_finish_46 : decode cX12_finish 46 = .ok (.aload_n 0, 1) := by decide +kernel
theorem dX12_finish_47 : decode cX12_finish 47 = .ok (.iload_n 1, 1) := by decide +kernel
theorem dX12_finish_48 : decode cX12_finish 48 = .ok (.invokevirtual 425, 3) := by decide +kernel
theorem dX12_finish_51 : decode cX12_finish 51 = .ok (.ifCond .eq 12, 3) := by decide +kernel
theorem dX12_finish_54 : decode cX12_finish 54 = .ok (.aload_n 0, 1) := by decide +kernel
theorem dX12_finish_55 : decode cX12_finish 55 = .ok (.getfield 17, 3) := by decide +kernel
theorem dX12_finish_58 : decode cX12_finish 58 = .ok (.iload_n 1, 1) := by decide +kernel
theorem dX12_finish_59 : decode cX12_finish 59 = .ok (.bipush 7, 2) := by decide +kernel
theorem dX12_finish_61 : decode cX12_finish 61 = .ok (.iastore, 1) := by decide +kernel
theorem dX12_finish_62 : decode cX12_finish 62 = .ok (.return_, 1) := by decide +kernel
theorem dX12_finish_63 : decode cX12_finish 63 = .ok (.aload_n 0, 1) := by decide +kernel
theorem dX12_finish_64 : decode cX12_finish 64 = .ok (.iload_n 1, 1) := by decide +kernel
theorem dX12_finish_65 : decode cX12_finish 65 = .ok (.invokevirtual 334, 3) := by decide +kernel
theorem dX12_finish_68 : decode cX12_finish 68 = .ok (.aload_n 0, 1) := by decide +kernel
theorem dX12_finish_69 : decode cX12_finish 69 = .ok (.aload_n 0, 1) := by decide +kernel
theorem dX12_finish_70 : decode cX12_finish 70 = .ok (.getfield 82, 3) := by decide +kernel
theorem dX12_finish_73 : decode cX12_finish 73 = .ok (.bipush 32, 2) := by decide +kernel
theorem dX12_finish_75 : decode cX12_finish 75 = .ok (.iload_n 1, 1) := by decide +kernel
theorem dX12_finish_76 : decode cX12_finish 76 = .ok (.imul, 1) := by decide +kernel
theorem dX12_finish_77 : decode cX12_finish 77 = .ok (.iconst 3, 1) := by decide +kernel
theorem dX12_finish_78 : decode cX12_finish 78 = .ok (.aload_n 0, 1) := by decide +kernel
theorem dX12_finish_79 : decode cX12_finish 79 = .ok (.getfield 136, 3) := by decide +kernel
theorem dX12_finish_82 : decode cX12_finish 82 = .ok (.bipush 32, 2) := by decide +kernel
theorem dX12_finish_84 : decode cX12_finish 84 = .ok (.aload_n 0, 1) := by decide +kernel
theorem dX12_finish_85 : decode cX12_finish 85 = .ok (.getfield 79, 3) := by decide +kernel
theorem dX12_finish_88 : decode cX12_finish 88 = .ok (.bipush 32, 2) := by decide +kernel
theorem dX12_finish_90 : decode cX12_finish 90 = .ok (.iload_n 1, 1) := by decide +kernel
theorem dX12_finish_91 : decode cX12_finish 91 = .ok (.imul, 1) := by decide +kernel
theorem dX12_finish_92 : decode cX12_finish 92 = .ok (.bipush 32, 2) := by decide +kernel
theorem dX12_finish_94 : decode cX12_finish 94 = .ok (.invokevirtual 330, 3) := by decide +kernel
theorem dX12_finish_97 : decode cX12_finish 97 = .ok (.aload_n 0, 1) := by decide +kernel
theorem dX12_finish_98 : decode cX12_finish 98 = .ok (.aload_n 0, 1) := by decide +kernel
theorem dX12_finish_99 : decode cX12_finish 99 = .ok (.getfield 82, 3) := by decide +kernel
theorem dX12_finish_102 : decode cX12_finish 102 = .ok (.bipush 32, 2) := by decide +kernel
theorem dX12_finish_104 : decode cX12_finish 104 = .ok (.iload_n 1, 1) := by decide +kernel
theorem dX12_finish_105 : decode cX12_finish 105 = .ok (.imul, 1) := by decide +kernel
theorem dX12_finish_106 : decode cX12_finish 106 = .ok (.iconst 4, 1) := by decide +kernel
theorem dX12_finish_107 : decode cX12_finish 107 = .ok (.aload_n 0, 1) := by decide +kernel
theorem dX12_finish_108 : decode cX12_finish 108 = .ok (.getfield 136, 3) := by decide +kernel
theorem dX12_finish_111 : decode cX12_finish 111 = .ok (.bipush 32, 2) := by decide +kernel
theorem dX12_finish_113 : decode cX12_finish 113 = .ok (.aload_n 0, 1) := by decide +kernel
theorem dX12_finish_114 : decode cX12_finish 114 = .ok (.getfield 76, 3) := by decide +kernel
theorem dX12_finish_117 : decode cX12_finish 117 = .ok (.bipush 32, 2) := by decide +kernel
theorem dX12_finish_119 : decode cX12_finish 119 = .ok (.iload_n 1, 1) := by decide +kernel
theorem dX12_finish_120 : decode cX12_finish 120 = .ok (.imul, 1) := by decide +kernel
theorem dX12_finish_121 : decode cX12_finish 121 = .ok (.bipush 32, 2) := by decide +kernel
theorem dX12_finish_123 : decode cX12_finish 123 = .ok (.invokevirtual 330, 3) := by decide +kernel
theorem dX12_finish_126 : decode cX12_finish 126 = .ok (.aload_n 0, 1) := by decide +kernel
theorem dX12_finish_127 : decode cX12_finish 127 = .ok (.getfield 94, 3) := by decide +kernel
theorem dX12_finish_130 : decode cX12_finish 130 = .ok (.iload_n 1, 1) := by decide +kernel
theorem dX12_finish_131 : decode cX12_finish 131 = .ok (.iconst 0, 1) := by decide +kernel
theorem dX12_finish_132 : decode cX12_finish 132 = .ok (.iastore, 1) := by decide +kernel
theorem dX12_finish_133 : decode cX12_finish 133 = .ok (.aload_n 0, 1) := by decide +kernel
theorem dX12_finish_134 : decode cX12_finish 134 = .ok (.iload_n 1, 1) := by decide +kernel
theorem dX12_finish_135 : decode cX12_finish 135 = .ok (.invokevirtual 499, 3) := by decide +kernel
theorem dX12_finish_138 : decode cX12_finish 138 = .ok (.aload_n 0, 1) := by decide +kernel
theorem dX12_finish_139 : decode cX12_finish 139 = .ok (.getfield 79, 3) := by decide +kernel
theorem dX12_finish_142 : decode cX12_finish 142 = .ok (.bipush 32, 2) := by decide +kernel
theorem dX12_finish_144 : decode cX12_finish 144 = .ok (.iload_n 1, 1) := by decide +kernel
theorem dX12_finish_145 : decode cX12_finish 145 = .ok (.imul, 1) := by decide +kernel
theorem dX12_finish_146 : decode cX12_finish 146 = .ok (.aload_n 0, 1) := by decide +kernel
theorem dX12_finish_147 : decode cX12_finish 147 = .ok (.getfield 73, 3) := by decide +kernel
theorem dX12_finish_150 : decode cX12_finish 150 = .ok (.bipush 32, 2) := by decide +kernel
theorem dX12_finish_152 : decode cX12_finish 152 = .ok (.iload_n 1, 1) := by decide +kernel
theorem dX12_finish_153 : decode cX12_finish 153 = .ok (.imul, 1) := by decide +kernel
theorem dX12_finish_154 : decode cX12_finish 154 = .ok (.bipush 32, 2) := by decide +kernel
theorem dX12_finish_156 : decode cX12_finish 156 = .ok (.invokestatic 279, 3) := by decide +kernel
theorem dX12_finish_159 : decode cX12_finish 159 = .ok (.aload_n 0, 1) := by decide +kernel
theorem dX12_finish_160 : decode cX12_finish 160 = .ok (.getfield 91, 3) := by decide +kernel
theorem dX12_finish_163 : decode cX12_finish 163 = .ok (.iload_n 1, 1) := by decide +kernel
theorem dX12_finish_164 : decode cX12_finish 164 = .ok (.iconst 0, 1) := by decide +kernel
theorem dX12_finish_165 : decode cX12_finish 165 = .ok (.iastore, 1) := by decide +kernel
theorem dX12_finish_166 : decode cX12_finish 166 = .ok (.aload_n 0, 1) := by decide +kernel
theorem dX12_finish_167 : decode cX12_finish 167 = .ok (.getfield 17, 3) := by decide +kernel
theorem dX12_finish_170 : decode cX12_finish 170 = .ok (.iload_n 1, 1) := by decide +kernel
theorem dX12_finish_171 : decode cX12_finish 171 = .ok (.bipush 6, 2) := by decide +kernel
theorem dX12_finish_173 : decode cX12_finish 173 = .ok (.iastore, 1) := by decide +kernel
theorem dX12_finish_174 : decode cX12_finish 174 = .ok (.return_, 1) := by decide +kernel
theorem dX12_turnOver_0 : decode cX12_turnOver 0 = .ok (.aload_n 0, 1) := by decide +kernel
theorem dX12_turnOver_1 : decode cX12_turnOver 1 = .ok (.getfield 182, 3) := by decide +kernel
theorem dX12_turnOver_4 : decode cX12_turnOver 4 = .ok (.bipush 9, 2) := by decide +kernel
theorem dX12_turnOver_6 : decode cX12_turnOver 6 = .ok (.baload, 1) := by decide +kernel
theorem dX12_turnOver_7 : decode cX12_turnOver 7 = .ok (.istore_n 2, 1) := by decide +kernel
theorem dX12_turnOver_8 : decode cX12_turnOver 8 = .ok (.aload_n 0, 1) := by decide +kernel
theorem dX12_turnOver_9 : decode cX12_turnOver 9 = .ok (.aload_n 0, 1) := by decide +kernel
theorem dX12_turnOver_10 : decode cX12_turnOver 10 = .ok (.getfield 76, 3) := by decide +kernel
theorem dX12_turnOver_13 : decode cX12_turnOver 13 = .ok (.iload_n 1, 1) := by decide +kernel
theorem dX12_turnOver_14 : decode cX12_turnOver 14 = .ok (.invokevirtual 421, 3) := by decide +kernel
theorem dX12_turnOver_17 : decode cX12_turnOver 17 = .ok (.aload_n 0, 1) := by decide +kernel
theorem dX12_turnOver_18 : decode cX12_turnOver 18 = .ok (.getfield 94, 3) := by decide +kernel
theorem dX12_turnOver_21 : decode cX12_turnOver 21 = .ok (.iload_n 1, 1) := by decide +kernel
theorem dX12_turnOver_22 : decode cX12_turnOver 22 = .ok (.iconst 0, 1) := by decide +kernel
theorem dX12_turnOver_23 : decode cX12_turnOver 23 = .ok (.iastore, 1) := by decide +kernel
theorem dX12_turnOver_24 : decode cX12_turnOver 24 = .ok (.iload_n 2, 1) := by decide +kernel
theorem dX12_turnOver_25 : decode cX12_turnOver 25 = .ok (.ifCond .eq 12, 3) := by decide +kernel
theorem dX12_turnOver_28 : decode cX12_turnOver 28 = .ok (.aload_n 0, 1) := by decide +kernel
theorem dX12_turnOver_29 : decode cX12_turnOver 29 = .ok (.getfield 45, 3) := by decide +kernel
theorem dX12_turnOver_32 : decode cX12_turnOver 32 = .ok (.iload_n 1, 1) := by decide +kernel
theorem dX12_turnOver_33 : decode cX12_turnOver 33 = .ok (.baload, 1) := by decide +kernel
theorem dX12_turnOver_34 : decode cX12_turnOver 34 = .ok (.ifCond .eq 4, 3) := by decide +kernel
theorem dX12_turnOver_37 : decode cX12_turnOver 37 = .ok (.return_, 1) := by decide +kernel
theorem dX12_turnOver_38 : decode cX12_turnOver 38 = .ok (.aload_n 0, 1) := by decide +kernel
theorem dX12_turnOver_39 : decode cX12_turnOver 39 = .ok (.iload_n 1, 1) := by decide +kernel
theorem dX12_turnOver_40 : decode cX12_turnOver 40 = .ok (.invokevirtual 425, 3) := by decide +kernel
theorem dX12_turnOver_43 : decode cX12_turnOver 43 = .ok (.ifCond .eq 14, 3) := by decide +kernel
theorem dX12_turnOver_46 : decode cX12_turnOver 46 = .ok (.aload_n 0, 1) := by decide +kernel
theorem dX12_turnOver_47 : decode cX12_turnOver 47 = .ok (.getfield 17, 3) := by decide +kernel
theorem dX12_turnOver_50 : decode cX12_turnOver 50 = .ok (.iload_n 1, 1) := by decide +kernel
theorem dX12_turnOver_51 : decode cX12_turnOver 51 = .ok (.bipush 7, 2) := by decide +kernel
theorem dX12_turnOver_53 : decode cX12_turnOver 53 = .ok (.iastore, 1) := by decide +kernel
theorem dX12_turnOver_54 : decode cX12_turnOver 54 = .ok (.goto 9, 3) := by decide +kernel
theorem dX12_turnOver_57 : decode cX12_turnOver 57 = .ok (.aload_n 0, 1) := by decide +kernel
theorem dX12_turnOver_58 : decode cX12_turnOver 58 = .ok (.iload_n 1, 1) := by decide +kernel
theorem dX12_turnOver_59 : decode cX12_turnOver 59 = .ok (.iconst 0, 1) := by decide +kernel
theorem dX12_turnOver_60 : decode cX12_turnOver 60 = .ok (.invokevirtual 502, 3) := by decide +kernel
theorem dX12_turnOver_63 : decode cX12_turnOver 63 = .ok (.return_, 1) := by decide +kernel
theorem dX12_feed_0 : decode cX12_feed 0 = .ok (.aload_n 0, 1) := by decide +kernel
theorem dX12_feed_1 : decode cX12_feed 1 = .ok (.getfield 505, 3) := by decide +kernel
theorem dX12_feed_4 : decode cX12_feed 4 = .ok (.bipush 20, 2) := by decide +kernel
theorem dX12_feed_6 : decode cX12_feed 6 = .ok (.iadd, 1) := by decide +kernel
theorem dX12_feed_7 : decode cX12_feed 7 = .ok (.sipush 600, 3) := by decide +kernel
theorem dX12_feed_10 : decode cX12_feed 10 = .ok (.if_icmp .le 5, 3) := by decide +kernel
theorem dX12_feed_13 : decode cX12_feed 13 = .ok (.iconst (-1), 1) := by decide +kernel
theorem dX12_feed_14 : decode cX12_feed 14 = .ok (.ireturn, 1) := by decide +kernel
theorem dX12_feed_15 : decode cX12_feed 15 = .ok (.aload_n 0, 1) := by decide +kernel
theorem dX12_feed_16 : decode cX12_feed 16 = .ok (.iload_n 1, 1) := by decide +kernel
theorem dX12_feed_17 : decode cX12_feed 17 = .ok (.invokevirtual 508, 3) := by decide +kernel
theorem dX12_feed_20 : decode cX12_feed 20 = .ok (.aload_n 0, 1) := by decide +kernel
theorem dX12_feed_21 : decode cX12_feed 21 = .ok (.iload_n 2, 1) := by decide +kernel
theorem dX12_feed_22 : decode cX12_feed 22 = .ok (.invokevirtual 508, 3) := by decide +kernel
theorem dX12_feed_25 : decode cX12_feed 25 = .ok (.aload_n 0, 1) := by decide +kernel
theorem dX12_feed_26 : decode cX12_feed 26 = .ok (.iload_n 3, 1) := by decide +kernel
theorem dX12_feed_27 : decode cX12_feed 27 = .ok (.invokevirtual 508, 3) := by decide +kernel
theorem dX12_feed_30 : decode cX12_feed 30 = .ok (.aload_n 0, 1) := by decide +kernel
theorem dX12_feed_31 : decode cX12_feed 31 = .ok (.iload 4, 2) := by decide +kernel
theorem dX12_feed_33 : decode cX12_feed 33 = .ok (.invokevirtual 508, 3) := by decide +kernel
theorem dX12_feed_36 : decode cX12_feed 36 = .ok (.aload_n 0, 1) := by decide +kernel
theorem dX12_feed_37 : decode cX12_feed 37 = .ok (.iload 5, 2) := by decide +kernel
theorem dX12_feed_39 : decode cX12_feed 39 = .ok (.invokevirtual 508, 3) := by decide +kernel
theorem dX12_feed_42 : decode cX12_feed 42 = .ok (.aload_n 0, 1) := by decide +kernel
theorem dX12_feed_43 : decode cX12_feed 43 = .ok (.getfield 505, 3) := by decide +kernel
theorem dX12_feed_46 : decode cX12_feed 46 = .ok (.ireturn, 1) := by decide +kernel
theorem dX12_four_0 : decode cX12_four 0 = .ok (.bipush 24, 2) := by decide +kernel
theorem dX12_four_2 : decode cX12_four 2 = .ok (.istore_n 2, 1) := by decide +kernel
theorem dX12_four_3 : decode cX12_four 3 = .ok (.iload_n 2, 1) := by decide +kernel
theorem dX12_four_4 : decode cX12_four 4 = .ok (.ifCond .lt 32, 3) := by decide +kernel
theorem dX12_four_7 : decode cX12_four 7 = .ok (.aload_n 0, 1) := by decide +kernel
theorem dX12_four_8 : decode cX12_four 8 = .ok (.getfield 7, 3) := by decide +kernel
theorem dX12_four_11 : decode cX12_four 11 = .ok (.aload_n 0, 1) := by decide +kernel
theorem dX12_four_12 : decode cX12_four 12 = .ok (.getfield 505, 3) := by decide +kernel
theorem dX12_four_15 : decode cX12_four 15 = .ok (.iload_n 1, 1) := by decide +kernel
theorem dX12_four_16 : decode cX12_four 16 = .ok (.iload_n 2, 1) := by decide +kernel
theorem dX12_four_17 : decode cX12_four 17 = .ok (.ishr, 1) := by decide +kernel
theorem dX12_four_18 : decode cX12_four 18 = .ok (.i2b, 1) := by decide +kernel
theorem dX12_four_19 : decode cX12_four 19 = .ok (.bastore, 1) := by decide +kernel
theorem dX12_four_20 : decode cX12_four 20 = .ok (.aload_n 0, 1) := by decide +kernel
theorem dX12_four_21 : decode cX12_four 21 = .ok (.dup, 1) := by decide +kernel
theorem dX12_four_22 : decode cX12_four 22 = .ok (.getfield 505, 3) := by decide +kernel
theorem dX12_four_25 : decode cX12_four 25 = .ok (.iconst 1, 1) := by decide +kernel
theorem dX12_four_26 : decode cX12_four 26 = .ok (.iadd, 1) := by decide +kernel
theorem dX12_four_27 : decode cX12_four 27 = .ok (.putfield 505, 3) := by decide +kernel
theorem dX12_four_30 : decode cX12_four 30 = .ok (.iinc 2 (-8), 3) := by decide +kernel
theorem dX12_four_33 : decode cX12_four 33 = .ok (.goto (-30), 3) := by decide +kernel
theorem dX12_four_36 : decode cX12_four 36 = .ok (.return_, 1) := by decide +kernel
theorem dX12_end_0 : decode cX12_end 0 = .ok (.iload_n 1, 1) := by decide +kernel
theorem dX12_end_1 : decode cX12_end 1 = .ok (.iconst 0, 1) := by decide +kernel
theorem dX12_end_2 : decode cX12_end 2 = .ok (.aload_n 0, 1) := by decide +kernel
theorem dX12_end_3 : decode cX12_end 3 = .ok (.getfield 505, 3) := by decide +kernel
theorem dX12_end_6 : decode cX12_end 6 = .ok (.invokestatic 260, 3) := by decide +kernel
theorem dX12_end_9 : decode cX12_end 9 = .ok (.ifCond .ne 5, 3) := by decide +kernel
theorem dX12_end_12 : decode cX12_end 12 = .ok (.iconst (-1), 1) := by decide +kernel
theorem dX12_end_13 : decode cX12_end 13 = .ok (.ireturn, 1) := by decide +kernel
theorem dX12_end_14 : decode cX12_end 14 = .ok (.aload_n 0, 1) := by decide +kernel
theorem dX12_end_15 : decode cX12_end 15 = .ok (.iload_n 1, 1) := by decide +kernel
theorem dX12_end_16 : decode cX12_end 16 = .ok (.putfield 505, 3) := by decide +kernel
theorem dX12_end_19 : decode cX12_end 19 = .ok (.iload_n 1, 1) := by decide +kernel
theorem dX12_end_20 : decode cX12_end 20 = .ok (.ireturn, 1) := by decide +kernel
theorem dX12_make_0 : decode cX12_make 0 = .ok (.aload_n 0, 1) := by decide +kernel
theorem dX12_make_1 : decode cX12_make 1 = .ok (.getfield 256, 3) := by decide +kernel
theorem dX12_make_4 : decode cX12_make 4 = .ok (.iconst 4, 1) := by decide +kernel
theorem dX12_make_5 : decode cX12_make 5 = .ok (.if_icmp .ne 5, 3) := by decide +kernel
theorem dX12_make_8 : decode cX12_make 8 = .ok (.iconst (-1), 1) := by decide +kernel
theorem dX12_make_9 : decode cX12_make 9 = .ok (.ireturn, 1) := by decide +kernel
theorem dX12_make_10 : decode cX12_make 10 = .ok (.aload_n 0, 1) := by decide +kernel
theorem dX12_make_11 : decode cX12_make 11 = .ok (.getfield 13, 3) := by decide +kernel
theorem dX12_make_14 : decode cX12_make 14 = .ok (.aload_n 0, 1) := by decide +kernel
theorem dX12_make_15 : decode cX12_make 15 = .ok (.getfield 256, 3) := by decide +kernel
theorem dX12_make_18 : decode cX12_make 18 = .ok (.iload_n 1, 1) := by decide +kernel
theorem dX12_make_19 : decode cX12_make 19 = .ok (.bastore, 1) := by decide +kernel
theorem dX12_make_20 : decode cX12_make 20 = .ok (.aload_n 0, 1) := by decide +kernel
theorem dX12_make_21 : decode cX12_make 21 = .ok (.dup, 1) := by decide +kernel
theorem dX12_make_22 : decode cX12_make 22 = .ok (.getfield 256, 3) := by decide +kernel
theorem dX12_make_25 : decode cX12_make 25 = .ok (.iconst 1, 1) := by decide +kernel
theorem dX12_make_26 : decode cX12_make 26 = .ok (.iadd, 1) := by decide +kernel
theorem dX12_make_27 : decode cX12_make 27 = .ok (.putfield 256, 3) := by decide +kernel
theorem dX12_make_30 : decode cX12_make 30 = .ok (.aload_n 0, 1) := by decide +kernel
theorem dX12_make_31 : decode cX12_make 31 = .ok (.getfield 256, 3) := by decide +kernel
theorem dX12_make_34 : decode cX12_make 34 = .ok (.iconst 1, 1) := by decide +kernel
theorem dX12_make_35 : decode cX12_make 35 = .ok (.isub, 1) := by decide +kernel
theorem dX12_make_36 : decode cX12_make 36 = .ok (.ireturn, 1) := by decide +kernel
theorem dX12_tell_0 : decode cX12_tell 0 = .ok (.aload_n 0, 1) := by decide +kernel
theorem dX12_tell_1 : decode cX12_tell 1 = .ok (.iload_n 1, 1) := by decide +kernel
theorem dX12_tell_2 : decode cX12_tell 2 = .ok (.invokevirtual 511, 3) := by decide +kernel
theorem dX12_tell_5 : decode cX12_tell 5 = .ok (.ifCond .eq 12, 3) := by decide +kernel
theorem dX12_tell_8 : decode cX12_tell 8 = .ok (.aload_n 0, 1) := by decide +kernel
theorem dX12_tell_9 : decode cX12_tell 9 = .ok (.getfield 17, 3) := by decide +kernel
theorem dX12_tell_12 : decode cX12_tell 12 = .ok (.iload_n 1, 1) := by decide +kernel
theorem dX12_tell_13 : decode cX12_tell 13 = .ok (.iaload, 1) := by decide +kernel
theorem dX12_tell_14 : decode cX12_tell 14 = .ok (.ifCond .eq 5, 3) := by decide +kernel
theorem dX12_tell_17 : decode cX12_tell 17 = .ok (.iconst 0, 1) := by decide +kernel
theorem dX12_tell_18 : decode cX12_tell 18 = .ok (.ireturn, 1) := by decide +kernel
theorem dX12_tell_19 : decode cX12_tell 19 = .ok (.iload_n 2, 1) := by decide +kernel
theorem dX12_tell_20 : decode cX12_tell 20 = .ok (.ifCond .ne 49, 3) := by decide +kernel
theorem dX12_tell_23 : decode cX12_tell 23 = .ok (.aload_n 0, 1) := by decide +kernel
theorem dX12_tell_24 : decode cX12_tell 24 = .ok (.getfield 505, 3) := by decide +kernel
theorem dX12_tell_27 : decode cX12_tell 27 = .ok (.iconst 1, 1) := by decide +kernel
theorem dX12_tell_28 : decode cX12_tell 28 = .ok (.bipush 64, 2) := by decide +kernel
theorem dX12_tell_30 : decode cX12_tell 30 = .ok (.invokestatic 260, 3) := by decide +kernel
theorem dX12_tell_33 : decode cX12_tell 33 = .ok (.ifCond .eq 36, 3) := by decide +kernel
theorem dX12_tell_36 : decode cX12_tell 36 = .ok (.aload_n 0, 1) := by decide +kernel
theorem dX12_tell_37 : decode cX12_tell 37 = .ok (.getfield 7, 3) := by decide +kernel
theorem dX12_tell_40 : decode cX12_tell 40 = .ok (.iconst 0, 1) := by decide +kernel
theorem dX12_tell_41 : decode cX12_tell 41 = .ok (.aload_n 0, 1) := by decide +kernel
theorem dX12_tell_42 : decode cX12_tell 42 = .ok (.getfield 21, 3) := by decide +kernel
theorem dX12_tell_45 : decode cX12_tell 45 = .ok (.bipush 64, 2) := by decide +kernel
theorem dX12_tell_47 : decode cX12_tell 47 = .ok (.iload_n 1, 1) := by decide +kernel
theorem dX12_tell_48 : decode cX12_tell 48 = .ok (.imul, 1) := by decide +kernel
theorem dX12_tell_49 : decode cX12_tell 49 = .ok (.aload_n 0, 1) := by decide +kernel
theorem dX12_tell_50 : decode cX12_tell 50 = .ok (.getfield 505, 3) := by decide +kernel
theorem dX12_tell_53 : decode cX12_tell 53 = .ok (.invokestatic 279, 3) := by decide +kernel
theorem dX12_tell_56 : decode cX12_tell 56 = .ok (.aload_n 0, 1) := by decide +kernel
theorem dX12_tell_57 : decode cX12_tell 57 = .ok (.getfield 24, 3) := by decide +kernel
theorem dX12_tell_60 : decode cX12_tell 60 = .ok (.iload_n 1, 1) := by decide +kernel
theorem dX12_tell_61 : decode cX12_tell 61 = .ok (.aload_n 0, 1) := by decide +kernel
theorem dX12_tell_62 : decode cX12_tell 62 = .ok (.getfield 505, 3) := by decide +kernel
theorem dX12_tell_65 : decode cX12_tell 65 = .ok (.iastore, 1) := by decide +kernel
theorem dX12_tell_66 : decode cX12_tell 66 = .ok (.goto 98, 3) := by decide +kernel
theorem dX12_tell_69 : decode cX12_tell 69 = .ok (.iload_n 2, 1) := by decide +kernel
theorem dX12_tell_70 : decode cX12_tell 70 = .ok (.iconst 1, 1) := by decide +kernel
theorem dX12_tell_71 : decode cX12_tell 71 = .ok (.if_icmp .ne 49, 3) := by decide +kernel
theorem dX12_tell_74 : decode cX12_tell 74 = .ok (.aload_n 0, 1) := by decide +kernel
theorem dX12_tell_75 : decode cX12_tell 75 = .ok (.getfield 505, 3) := by decide +kernel
theorem dX12_tell_78 : decode cX12_tell 78 = .ok (.iconst 1, 1) := by decide +kernel
theorem dX12_tell_79 : decode cX12_tell 79 = .ok (.bipush 16, 2) := by decide +kernel
theorem dX12_tell_81 : decode cX12_tell 81 = .ok (.invokestatic 260, 3) := by decide +kernel
theorem dX12_tell_84 : decode cX12_tell 84 = .ok (.ifCond .eq 36, 3) := by decide +kernel
theorem dX12_tell_87 : decode cX12_tell 87 = .ok (.aload_n 0, 1) := by decide +kernel
theorem dX12_tell_88 : decode cX12_tell 88 = .ok (.getfield 7, 3) := by decide +kernel
theorem dX12_tell_91 : decode cX12_tell 91 = .ok (.iconst 0, 1) := by decide +kernel
theorem dX12_tell_92 : decode cX12_tell 92 = .ok (.aload_n 0, 1) := by decide +kernel
theorem dX12_tell_93 : decode cX12_tell 93 = .ok (.getfield 27, 3) := by decide +kernel
theorem dX12_tell_96 : decode cX12_tell 96 = .ok (.bipush 16, 2) := by decide +kernel
theorem dX12_tell_98 : decode cX12_tell 98 = .ok (.iload_n 1, 1) := by decide +kernel
theorem dX12_tell_99 : decode cX12_tell 99 = .ok (.imul, 1) := by decide +kernel
theorem dX12_tell_100 : decode cX12_tell 100 = .ok (.aload_n 0, 1) := by decide +kernel
theorem dX12_tell_101 : decode cX12_tell 101 = .ok (.getfield 505, 3) := by decide +kernel
theorem dX12_tell_104 : decode cX12_tell 104 = .ok (.invokestatic 279, 3) := by decide +kernel
theorem dX12_tell_107 : decode cX12_tell 107 = .ok (.aload_n 0, 1) := by decide +kernel
theorem dX12_tell_108 : decode cX12_tell 108 = .ok (.getfield 30, 3) := by decide +kernel
theorem dX12_tell_111 : decode cX12_tell 111 = .ok (.iload_n 1, 1) := by decide +kernel
theorem dX12_tell_112 : decode cX12_tell 112 = .ok (.aload_n 0, 1) := by decide +kernel
theorem dX12_tell_113 : decode cX12_tell 113 = .ok (.getfield 505, 3) := by decide +kernel
theorem dX12_tell_116 : decode cX12_tell 116 = .ok (.iastore, 1) := by decide +kernel
theorem dX12_tell_117 : decode cX12_tell 117 = .ok (.goto 47, 3) := by decide +kernel
theorem dX12_tell_120 : decode cX12_tell 120 = .ok (.iload_n 2, 1) := by decide +kernel
theorem dX12_tell_121 : decode cX12_tell 121 = .ok (.iconst 2, 1) := by decide +kernel
theorem dX12_tell_122 : decode cX12_tell 122 = .ok (.if_icmp .ne 40, 3) := by decide +kernel
theorem dX12_tell_125 : decode cX12_tell 125 = .ok (.aload_n 0, 1) := by decide +kernel
theorem dX12_tell_126 : decode cX12_tell 126 = .ok (.getfield 505, 3) := by decide +kernel
theorem dX12_tell_129 : decode cX12_tell 129 = .ok (.bipush 32, 2) := by decide +kernel
theorem dX12_tell_131 : decode cX12_tell 131 = .ok (.if_icmp .ne 31, 3) := by decide +kernel
theorem dX12_tell_134 : decode cX12_tell 134 = .ok (.aload_n 0, 1) := by decide +kernel
theorem dX12_tell_135 : decode cX12_tell 135 = .ok (.getfield 7, 3) := by decide +kernel
theorem dX12_tell_138 : decode cX12_tell 138 = .ok (.iconst 0, 1) := by decide +kernel
theorem dX12_tell_139 : decode cX12_tell 139 = .ok (.aload_n 0, 1) := by decide +kernel
theorem dX12_tell_140 : decode cX12_tell 140 = .ok (.getfield 33, 3) := by decide +kernel
theorem dX12_tell_143 : decode cX12_tell 143 = .ok (.bipush 32, 2) := by decide +kernel
theorem dX12_tell_145 : decode cX12_tell 145 = .ok (.iload_n 1, 1) := by decide +kernel
theorem dX12_tell_146 : decode cX12_tell 146 = .ok (.imul, 1) := by decide +kernel
theorem dX12_tell_147 : decode cX12_tell 147 = .ok (.bipush 32, 2) := by decide +kernel
theorem dX12_tell_149 : decode cX12_tell 149 = .ok (.invokestatic 279, 3) := by decide +kernel
theorem dX12_tell_152 : decode cX12_tell 152 = .ok (.aload_n 0, 1) := by decide +kernel
theorem dX12_tell_153 : decode cX12_tell 153 = .ok (.getfield 36, 3) := by decide +kernel
theorem dX12_tell_156 : decode cX12_tell 156 = .ok (.iload_n 1, 1) := by decide +kernel
theorem dX12_tell_157 : decode cX12_tell 157 = .ok (.iconst 1, 1) := by decide +kernel
theorem dX12_tell_158 : decode cX12_tell 158 = .ok (.bastore, 1) := by decide +kernel
theorem dX12_tell_159 : decode cX12_tell 159 = .ok (.goto 5, 3) := by decide +kernel
theorem dX12_tell_162 : decode cX12_tell 162 = .ok (.iconst 0, 1) := by decide +kernel
theorem dX12_tell_163 : decode cX12_tell 163 = .ok (.ireturn, 1) := by decide +kernel
theorem dX12_tell_164 : decode cX12_tell 164 = .ok (.aload_n 0, 1) := by decide +kernel
theorem dX12_tell_165 : decode cX12_tell 165 = .ok (.iconst 0, 1) := by decide +kernel
theorem dX12_tell_166 : decode cX12_tell 166 = .ok (.putfield 505, 3) := by decide +kernel
theorem dX12_tell_169 : decode cX12_tell 169 = .ok (.iconst 1, 1) := by decide +kernel
theorem dX12_tell_170 : decode cX12_tell 170 = .ok (.ireturn, 1) := by decide +kernel
theorem dX12_start_0 : decode cX12_start 0 = .ok (.aload_n 0, 1) := by decide +kernel
theorem dX12_start_1 : decode cX12_start 1 = .ok (.iload_n 1, 1) := by decide +kernel
theorem dX12_start_2 : decode cX12_start 2 = .ok (.invokevirtual 511, 3) := by decide +kernel
theorem dX12_start_5 : decode cX12_start 5 = .ok (.ifCond .eq 39, 3) := by decide +kernel
theorem dX12_start_8 : decode cX12_start 8 = .ok (.aload_n 0, 1) := by decide +kernel
theorem dX12_start_9 : decode cX12_start 9 = .ok (.getfield 17, 3) := by decide +kernel
theorem dX12_start_12 : decode cX12_start 12 = .ok (.iload_n 1, 1) := by decide +kernel
theorem dX12_start_13 : decode cX12_start 13 = .ok (.iaload, 1) := by decide +kernel
theorem dX12_start_14 : decode cX12_start 14 = .ok (.ifCond .ne 30, 3) := by decide +kernel
theorem dX12_start_17 : decode cX12_start 17 = .ok (.aload_n 0, 1) := by decide +kernel
theorem dX12_start_18 : decode cX12_start 18 = .ok (.getfield 24, 3) := by decide +kernel
theorem dX12_start_21 : decode cX12_start 21 = .ok (.iload_n 1, 1) := by decide +kernel
theorem dX12_start_22 : decode cX12_start 22 = .ok (.iaload, 1) := by decide +kernel
theorem dX12_start_23 : decode cX12_start 23 = .ok (.ifCond .eq 21, 3) := by decide +kernel
theorem dX12_start_26 : decode cX12_start 26 = .ok (.aload_n 0, 1) := by decide +kernel
theorem dX12_start_27 : decode cX12_start 27 = .ok (.getfield 30, 3) := by decide +kernel
theorem dX12_start_30 : decode cX12_start 30 = .ok (.iload_n 1, 1) := by decide +kernel
theorem dX12_start_31 : decode cX12_start 31 = .ok (.iaload, 1) := by decide +kernel
theorem dX12_start_32 : decode cX12_start 32 = .ok (.ifCond .eq 12, 3) := by decide +kernel
theorem dX12_start_35 : decode cX12_start 35 = .ok (.aload_n 0, 1) := by decide +kernel
theorem dX12_start_36 : decode cX12_start 36 = .ok (.getfield 36, 3) := by decide +kernel
theorem dX12_start_39 : decode cX12_start 39 = .ok (.iload_n 1, 1) := by decide +kernel
theorem dX12_start_40 : decode cX12_start 40 = .ok (.baload, 1) := by decide +kernel
theorem dX12_start_41 : decode cX12_start 41 = .ok (.ifCond .ne 5, 3) := by decide +kernel
theorem dX12_start_44 : decode cX12_start 44 = .ok (.iconst 0, 1) := by decide +kernel
theorem dX12_start_45 : decode cX12_start 45 = .ok (.ireturn, 1) := by decide +kernel
theorem dX12_start_46 : decode cX12_start 46 = .ok (.aload_n 0, 1) := by decide +kernel
theorem dX12_start_47 : decode cX12_start 47 = .ok (.getfield 17, 3) := by decide +kernel
theorem dX12_start_50 : decode cX12_start 50 = .ok (.iload_n 1, 1) := by decide +kernel
theorem dX12_start_51 : decode cX12_start 51 = .ok (.aload_n 0, 1) := by decide +kernel
theorem dX12_start_52 : decode cX12_start 52 = .ok (.getfield 13, 3) := by decide +kernel
theorem dX12_start_55 : decode cX12_start 55 = .ok (.iload_n 1, 1) := by decide +kernel
theorem dX12_start_56 : decode cX12_start 56 = .ok (.baload, 1) := by decide +kernel
theorem dX12_start_57 : decode cX12_start 57 = .ok (.ifCond .eq 7, 3) := by decide +kernel
theorem dX12_start_60 : decode cX12_start 60 = .ok (.iconst 4, 1) := by decide +kernel
theorem dX12_start_61 : decode cX12_start 61 = .ok (.goto 4, 3) := by decide +kernel
theorem dX12_start_64 : decode cX12_start 64 = .ok (.iconst 1, 1) := by decide +kernel
theorem dX12_start_65 : decode cX12_start 65 = .ok (.iastore, 1) := by decide +kernel
theorem dX12_start_66 : decode cX12_start 66 = .ok (.aload_n 0, 1) := by decide +kernel
theorem dX12_start_67 : decode cX12_start 67 = .ok (.getfield 13, 3) := by decide +kernel
theorem dX12_start_70 : decode cX12_start 70 = .ok (.iload_n 1, 1) := by decide +kernel
theorem dX12_start_71 : decode cX12_start 71 = .ok (.baload, 1) := by decide +kernel
theorem dX12_start_72 : decode cX12_start 72 = .ok (.ifCond .ne 8, 3) := by decide +kernel
theorem dX12_start_75 : decode cX12_start 75 = .ok (.aload_n 0, 1) := by decide +kernel
theorem dX12_start_76 : decode cX12_start 76 = .ok (.iload_n 1, 1) := by decide +kernel
theorem dX12_start_77 : decode cX12_start 77 = .ok (.invokevirtual 514, 3) := by decide +kernel
theorem dX12_start_80 : decode cX12_start 80 = .ok (.iconst 1, 1) := by decide +kernel
theorem dX12_start_81 : decode cX12_start 81 = .ok (.ireturn, 1) := by decide +kernel
theorem dX12_canSay_0 : decode cX12_canSay 0 = .ok (.aload_n 0, 1) := by decide +kernel
theorem dX12_canSay_1 : decode cX12_canSay 1 = .ok (.iload_n 1, 1) := by decide +kernel
theorem dX12_canSay_2 : decode cX12_canSay 2 = .ok (.invokevirtual 511, 3) := by decide +kernel
theorem dX12_canSay_5 : decode cX12_canSay 5 = .ok (.ifCond .eq 35, 3) := by decide +kernel
theorem dX12_canSay_8 : decode cX12_canSay 8 = .ok (.aload_n 0, 1) := by decide +kernel
theorem dX12_canSay_9 : decode cX12_canSay 9 = .ok (.getfield 17, 3) := by decide +kernel
theorem dX12_canSay_12 : decode cX12_canSay 12 = .ok (.iload_n 1, 1) := by decide +kernel
theorem dX12_canSay_13 : decode cX12_canSay 13 = .ok (.iaload, 1) := by decide +kernel
theorem dX12_canSay_14 : decode cX12_canSay 14 = .ok (.bipush 6, 2) := by decide +kernel
theorem dX12_canSay_16 : decode cX12_canSay 16 = .ok (.if_icmp .ne 24, 3) := by decide +kernel
theorem dX12_canSay_19 : decode cX12_canSay 19 = .ok (.aload_n 0, 1) := by decide +kernel
theorem dX12_canSay_20 : decode cX12_canSay 20 = .ok (.getfield 45, 3) := by decide +kernel
theorem dX12_canSay_23 : decode cX12_canSay 23 = .ok (.iload_n 1, 1) := by decide +kernel
theorem dX12_canSay_24 : decode cX12_canSay 24 = .ok (.baload, 1) := by decide +kernel
theorem dX12_canSay_25 : decode cX12_canSay 25 = .ok (.ifCond .ne 15, 3) := by decide +kernel
theorem dX12_canSay_28 : decode cX12_canSay 28 = .ok (.aload_n 0, 1) := by decide +kernel
theorem dX12_canSay_29 : decode cX12_canSay 29 = .ok (.iload_n 1, 1) := by decide +kernel
theorem dX12_canSay_30 : decode cX12_canSay 30 = .ok (.invokevirtual 425, 3) := by decide +kernel
theorem dX12_canSay_33 : decode cX12_canSay 33 = .ok (.ifCond .ne 7, 3) := by decide +kernel
theorem dX12_canSay_36 : decode cX12_canSay 36 = .ok (.iconst 1, 1) := by decide +kernel
theorem dX12_canSay_37 : decode cX12_canSay 37 = .ok (.goto 4, 3) := by decide +kernel
theorem dX12_canSay_40 : decode cX12_canSay 40 = .ok (.iconst 0, 1) := by decide +kernel
theorem dX12_canSay_41 : decode cX12_canSay 41 = .ok (.ireturn, 1) := by decide +kernel
theorem dX12_say_0 : decode cX12_say 0 = .ok (.aload_n 0, 1) := by decide +kernel
theorem dX12_say_1 : decode cX12_say 1 = .ok (.iload_n 1, 1) := by decide +kernel
theorem dX12_say_2 : decode cX12_say 2 = .ok (.invokevirtual 517, 3) := by decide +kernel
theorem dX12_say_5 : decode cX12_say 5 = .ok (.ifCond .eq 17, 3) := by decide +kernel
theorem dX12_say_8 : decode cX12_say 8 = .ok (.aload_n 0, 1) := by decide +kernel
theorem dX12_say_9 : decode cX12_say 9 = .ok (.getfield 505, 3) := by decide +kernel
theorem dX12_say_12 : decode cX12_say 12 = .ok (.iconst 1, 1) := by decide +kernel
theorem dX12_say_13 : decode cX12_say 13 = .ok (.sipush 400, 3) := by decide +kernel
theorem dX12_say_16 : decode cX12_say 16 = .ok (.invokestatic 260, 3) := by decide +kernel
theorem dX12_say_19 : decode cX12_say 19 = .ok (.ifCond .ne 5, 3) := by decide +kernel
theorem dX12_say_22 : decode cX12_say 22 = .ok (.iconst (-1), 1) := by decide +kernel
theorem dX12_say_23 : decode cX12_say 23 = .ok (.ireturn, 1) := by decide +kernel
theorem dX12_say_24 : decode cX12_say 24 = .ok (.aload_n 0, 1) := by decide +kernel
theorem dX12_say_25 : decode cX12_say 25 = .ok (.iconst 0, 1) := by decide +kernel
theorem dX12_say_26 : decode cX12_say 26 = .ok (.putfield 374, 3) := by decide +kernel
theorem dX12_say_29 : decode cX12_say 29 = .ok (.aload_n 0, 1) := by decide +kernel
theorem dX12_say_30 : decode cX12_say 30 = .ok (.aload_n 0, 1) := by decide +kernel
theorem dX12_say_31 : decode cX12_say 31 = .ok (.getfield 7, 3) := by decide +kernel
theorem dX12_say_34 : decode cX12_say 34 = .ok (.iconst 0, 1) := by decide +kernel
theorem dX12_say_35 : decode cX12_say 35 = .ok (.aload_n 0, 1) := by decide +kernel
theorem dX12_say_36 : decode cX12_say 36 = .ok (.getfield 505, 3) := by decide +kernel
theorem dX12_say_39 : decode cX12_say 39 = .ok (.invokevirtual 407, 3) := by decide +kernel
theorem dX12_say_42 : decode cX12_say 42 = .ok (.aload_n 0, 1) := by decide +kernel
theorem dX12_say_43 : decode cX12_say 43 = .ok (.iload_n 1, 1) := by decide +kernel
theorem dX12_say_44 : decode cX12_say 44 = .ok (.bipush 23, 2) := by decide +kernel
theorem dX12_say_46 : decode cX12_say 46 = .ok (.invokevirtual 397, 3) := by decide +kernel
theorem dX12_say_49 : decode cX12_say 49 = .ok (.aload_n 0, 1) := by decide +kernel
theorem dX12_say_50 : decode cX12_say 50 = .ok (.iconst 0, 1) := by decide +kernel
theorem dX12_say_51 : decode cX12_say 51 = .ok (.putfield 505, 3) := by decide +kernel
theorem dX12_say_54 : decode cX12_say 54 = .ok (.aload_n 0, 1) := by decide +kernel
theorem dX12_say_55 : decode cX12_say 55 = .ok (.getfield 58, 3) := by decide +kernel
theorem dX12_say_58 : decode cX12_say 58 = .ok (.iload_n 1, 1) := by decide +kernel
theorem dX12_say_59 : decode cX12_say 59 = .ok (.iaload, 1) := by decide +kernel
theorem dX12_say_60 : decode cX12_say 60 = .ok (.ireturn, 1) := by decide +kernel
theorem dX12_update_0 : decode cX12_update 0 = .ok (.aload_n 0, 1) := by decide +kernel
theorem dX12_update_1 : decode cX12_update 1 = .ok (.iload_n 1, 1) := by decide +kernel
theorem dX12_update_2 : decode cX12_update 2 = .ok (.invokevirtual 517, 3) := by decide +kernel
theorem dX12_update_5 : decode cX12_update 5 = .ok (.ifCond .eq 12, 3) := by decide +kernel
theorem dX12_update_8 : decode cX12_update 8 = .ok (.iload_n 2, 1) := by decide +kernel
theorem dX12_update_9 : decode cX12_update 9 = .ok (.iconst 0, 1) := by decide +kernel
theorem dX12_update_10 : decode cX12_update 10 = .ok (.iconst 1, 1) := by decide +kernel
theorem dX12_update_11 : decode cX12_update 11 = .ok (.invokestatic 260, 3) := by decide +kernel
theorem dX12_update_14 : decode cX12_update 14 = .ok (.ifCond .ne 5, 3) := by decide +kernel
theorem dX12_update_17 : decode cX12_update 17 = .ok (.iconst (-1), 1) := by decide +kernel
theorem dX12_update_18 : decode cX12_update 18 = .ok (.ireturn, 1) := by decide +kernel
theorem dX12_update_19 : decode cX12_update 19 = .ok (.aload_n 0, 1) := by decide +kernel
theorem dX12_update_20 : decode cX12_update 20 = .ok (.iload_n 1, 1) := by decide +kernel
theorem dX12_update_21 : decode cX12_update 21 = .ok (.iload_n 2, 1) := by decide +kernel
theorem dX12_update_22 : decode cX12_update 22 = .ok (.invokevirtual 502, 3) := by decide +kernel
theorem dX12_update_25 : decode cX12_update 25 = .ok (.aload_n 0, 1) := by decide +kernel
theorem dX12_update_26 : decode cX12_update 26 = .ok (.getfield 58, 3) := by decide +kernel
theorem dX12_update_29 : decode cX12_update 29 = .ok (.iload_n 1, 1) := by decide +kernel
theorem dX12_update_30 : decode cX12_update 30 = .ok (.iaload, 1) := by decide +kernel
theorem dX12_update_31 : decode cX12_update 31 = .ok (.ireturn, 1) := by decide +kernel
theorem dX12_close_0 : decode cX12_close 0 = .ok (.aload_n 0, 1) := by decide +kernel
theorem dX12_close_1 : decode cX12_close 1 = .ok (.iload_n 1, 1) := by decide +kernel
theorem dX12_close_2 : decode cX12_close 2 = .ok (.invokevirtual 517, 3) := by decide +kernel
theorem dX12_close_5 : decode cX12_close 5 = .ok (.ifCond .ne 5, 3) := by decide +kernel
theorem dX12_close_8 : decode cX12_close 8 = .ok (.iconst 0, 1) := by decide +kernel
theorem dX12_close_9 : decode cX12_close 9 = .ok (.ireturn, 1) := by decide +kernel
theorem dX12_close_10 : decode cX12_close 10 = .ok (.aload_n 0, 1) := by decide +kernel
theorem dX12_close_11 : decode cX12_close 11 = .ok (.iload_n 1, 1) := by decide +kernel
theorem dX12_close_12 : decode cX12_close 12 = .ok (.iconst 1, 1) := by decide +kernel
theorem dX12_close_13 : decode cX12_close 13 = .ok (.iconst 0, 1) := by decide +kernel
theorem dX12_close_14 : decode cX12_close 14 = .ok (.invokevirtual 429, 3) := by decide +kernel
theorem dX12_close_17 : decode cX12_close 17 = .ok (.aload_n 0, 1) := by decide +kernel
theorem dX12_close_18 : decode cX12_close 18 = .ok (.getfield 45, 3) := by decide +kernel
theorem dX12_close_21 : decode cX12_close 21 = .ok (.iload_n 1, 1) := by decide +kernel
theorem dX12_close_22 : decode cX12_close 22 = .ok (.iconst 1, 1) := by decide +kernel
theorem dX12_close_23 : decode cX12_close 23 = .ok (.bastore, 1) := by decide +kernel
theorem dX12_close_24 : decode cX12_close 24 = .ok (.iconst 1, 1) := by decide +kernel
theorem dX12_close_25 : decode cX12_close 25 = .ok (.ireturn, 1) := by decide +kernel
theorem dX12_leave_0 : decode cX12_leave 0 = .ok (.iconst 1, 1) := by decide +kernel
theorem dX12_leave_1 : decode cX12_leave 1 = .ok (.istore_n 2, 1) := by decide +kernel
theorem dX12_leave_2 : decode cX12_leave 2 = .ok (.iload_n 2, 1) := by decide +kernel
theorem dX12_leave_3 : decode cX12_leave 3 = .ok (.aload_n 0, 1) := by decide +kernel
theorem dX12_leave_4 : decode cX12_leave 4 = .ok (.getfield 58, 3) := by decide +kernel
theorem dX12_leave_7 : decode cX12_leave 7 = .ok (.iload_n 1, 1) := by decide +kernel
theorem dX12_leave_8 : decode cX12_leave 8 = .ok (.iaload, 1) := by decide +kernel
theorem dX12_leave_9 : decode cX12_leave 9 = .ok (.if_icmp .ge 18, 3) := by decide +kernel
theorem dX12_leave_12 : decode cX12_leave 12 = .ok (.aload_n 0, 1) := by decide +kernel
theorem dX12_leave_13 : decode cX12_leave 13 = .ok (.iload_n 1, 1) := by decide +kernel
theorem dX12_leave_14 : decode cX12_leave 14 = .ok (.iload_n 2, 1) := by decide +kernel
theorem dX12_leave_15 : decode cX12_leave 15 = .ok (.iload_n 2, 1) := by decide +kernel
theorem dX12_leave_16 : decode cX12_leave 16 = .ok (.iconst 1, 1) := by decide +kernel
theorem dX12_leave_17 : decode cX12_leave 17 = .ok (.isub, 1) := by decide +kernel
theorem dX12_leave_18 : decode cX12_leave 18 = .ok (.invokevirtual 520, 3) := by decide +kernel
theorem dX12_leave_21 : decode cX12_leave 21 = .ok (.iinc 2 1, 3) := by decide +kernel
theorem dX12_leave_24 : decode cX12_leave 24 = .ok (.goto (-22), 3) := by decide +kernel
theorem dX12_leave_27 : decode cX12_leave 27 = .ok (.aload_n 0, 1) := by decide +kernel
theorem dX12_leave_28 : decode cX12_leave 28 = .ok (.getfield 58, 3) := by decide +kernel
theorem dX12_leave_31 : decode cX12_leave 31 = .ok (.iload_n 1, 1) := by decide +kernel
theorem dX12_leave_32 : decode cX12_leave 32 = .ok (.dup2, 1) := by decide +kernel
theorem dX12_leave_33 : decode cX12_leave 33 = .ok (.iaload, 1) := by decide +kernel
theorem dX12_leave_34 : decode cX12_leave 34 = .ok (.iconst 1, 1) := by decide +kernel
theorem dX12_leave_35 : decode cX12_leave 35 = .ok (.isub, 1) := by decide +kernel
theorem dX12_leave_36 : decode cX12_leave 36 = .ok (.iastore, 1) := by decide +kernel
theorem dX12_leave_37 : decode cX12_leave 37 = .ok (.return_, 1) := by decide +kernel
theorem dX12_copyRecord_0 : decode cX12_copyRecord 0 = .ok (.aload_n 0, 1) := by decide +kernel
theorem dX12_copyRecord_1 : decode cX12_copyRecord 1 = .ok (.getfield 52, 3) := by decide +kernel
theorem dX12_copyRecord_4 : decode cX12_copyRecord 4 = .ok (.sipush 640, 3) := by decide +kernel
theorem dX12_copyRecord_7 : decode cX12_copyRecord 7 = .ok (.bipush 33, 2) := by decide +kernel
theorem dX12_copyRecord_9 : decode cX12_copyRecord 9 = .ok (.iload_n 1, 1) := by decide +kernel
theorem dX12_copyRecord_10 : decode cX12_copyRecord 10 = .ok (.imul, 1) := by decide +kernel
theorem dX12_copyRecord_11 : decode cX12_copyRecord 11 = .ok (.iload_n 2, 1) := by decide +kernel
theorem dX12_copyRecord_12 : decode cX12_copyRecord 12 = .ok (.iadd, 1) := by decide +kernel
theorem dX12_copyRecord_13 : decode cX12_copyRecord 13 = .ok (.imul, 1) := by decide +kernel
theorem dX12_copyRecord_14 : decode cX12_copyRecord 14 = .ok (.aload_n 0, 1) := by decide +kernel
theorem dX12_copyRecord_15 : decode cX12_copyRecord 15 = .ok (.getfield 52, 3) := by decide +kernel
theorem dX12_copyRecord_18 : decode cX12_copyRecord 18 = .ok (.sipush 640, 3) := by decide +kernel
theorem dX12_copyRecord_21 : decode cX12_copyRecord 21 = .ok (.bipush 33, 2) := by decide +kernel
theorem dX12_copyRecord_23 : decode cX12_copyRecord 23 = .ok (.iload_n 1, 1) := by decide +kernel
theorem dX12_copyRecord_24 : decode cX12_copyRecord 24 = .ok (.imul, 1) := by decide +kernel
theorem dX12_copyRecord_25 : decode cX12_copyRecord 25 = .ok (.iload_n 3, 1) := by decide +kernel
theorem dX12_copyRecord_26 : decode cX12_copyRecord 26 = .ok (.iadd, 1) := by decide +kernel
theorem dX12_copyRecord_27 : decode cX12_copyRecord 27 = .ok (.imul, 1) := by decide +kernel
theorem dX12_copyRecord_28 : decode cX12_copyRecord 28 = .ok (.aload_n 0, 1) := by decide +kernel
theorem dX12_copyRecord_29 : decode cX12_copyRecord 29 = .ok (.getfield 55, 3) := by decide +kernel
theorem dX12_copyRecord_32 : decode cX12_copyRecord 32 = .ok (.bipush 33, 2) := by decide +kernel
theorem dX12_copyRecord_34 : decode cX12_copyRecord 34 = .ok (.iload_n 1, 1) := by decide +kernel
theorem dX12_copyRecord_35 : decode cX12_copyRecord 35 = .ok (.imul, 1) := by decide +kernel
theorem dX12_copyRecord_36 : decode cX12_copyRecord 36 = .ok (.iload_n 2, 1) := by decide +kernel
theorem dX12_copyRecord_37 : decode cX12_copyRecord 37 = .ok (.iadd, 1) := by decide +kernel
theorem dX12_copyRecord_38 : decode cX12_copyRecord 38 = .ok (.iaload, 1) := by decide +kernel
theorem dX12_copyRecord_39 : decode cX12_copyRecord 39 = .ok (.invokestatic 279, 3) := by decide +kernel
theorem dX12_copyRecord_42 : decode cX12_copyRecord 42 = .ok (.aload_n 0, 1) := by decide +kernel
theorem dX12_copyRecord_43 : decode cX12_copyRecord 43 = .ok (.getfield 55, 3) := by decide +kernel
theorem dX12_copyRecord_46 : decode cX12_copyRecord 46 = .ok (.bipush 33, 2) := by decide +kernel
theorem dX12_copyRecord_48 : decode cX12_copyRecord 48 = .ok (.iload_n 1, 1) := by decide +kernel
theorem dX12_copyRecord_49 : decode cX12_copyRecord 49 = .ok (.imul, 1) := by decide +kernel
theorem dX12_copyRecord_50 : decode cX12_copyRecord 50 = .ok (.iload_n 3, 1) := by decide +kernel
theorem dX12_copyRecord_51 : decode cX12_copyRecord 51 = .ok (.iadd, 1) := by decide +kernel
theorem dX12_copyRecord_52 : decode cX12_copyRecord 52 = .ok (.aload_n 0, 1) := by decide +kernel
theorem dX12_copyRecord_53 : decode cX12_copyRecord 53 = .ok (.getfield 55, 3) := by decide +kernel
theorem dX12_copyRecord_56 : decode cX12_copyRecord 56 = .ok (.bipush 33, 2) := by decide +kernel
theorem dX12_copyRecord_58 : decode cX12_copyRecord 58 = .ok (.iload_n 1, 1) := by decide +kernel
theorem dX12_copyRecord_59 : decode cX12_copyRecord 59 = .ok (.imul, 1) := by decide +kernel
theorem dX12_copyRecord_60 : decode cX12_copyRecord 60 = .ok (.iload_n 2, 1) := by decide +kernel
theorem dX12_copyRecord_61 : decode cX12_copyRecord 61 = .ok (.iadd, 1) := by decide +kernel
theorem dX12_copyRecord_62 : decode cX12_copyRecord 62 = .ok (.iaload, 1) := by decide +kernel
theorem dX12_copyRecord_63 : decode cX12_copyRecord 63 = .ok (.iastore, 1) := by decide +kernel
theorem dX12_copyRecord_64 : decode cX12_copyRecord 64 = .ok (.return_, 1) := by decide +kernel
theorem dX12_carry_0 : decode cX12_carry 0 = .ok (.aload_n 0, 1) := by decide +kernel
theorem dX12_carry_1 : decode cX12_carry 1 = .ok (.iload_n 1, 1) := by decide +kernel
theorem dX12_carry_2 : decode cX12_carry 2 = .ok (.invokevirtual 511, 3) := by decide +kernel
theorem dX12_carry_5 : decode cX12_carry 5 = .ok (.ifCond .eq 20, 3) := by decide +kernel
theorem dX12_carry_8 : decode cX12_carry 8 = .ok (.aload_n 0, 1) := by decide +kernel
theorem dX12_carry_9 : decode cX12_carry 9 = .ok (.iload_n 2, 1) := by decide +kernel
theorem dX12_carry_10 : decode cX12_carry 10 = .ok (.invokevirtual 511, 3) := by decide +kernel
theorem dX12_carry_13 : decode cX12_carry 13 = .ok (.ifCond .eq 12, 3) := by decide +kernel
theorem dX12_carry_16 : decode cX12_carry 16 = .ok (.aload_n 0, 1) := by decide +kernel
theorem dX12_carry_17 : decode cX12_carry 17 = .ok (.getfield 58, 3) := by decide +kernel
theorem dX12_carry_20 : decode cX12_carry 20 = .ok (.iload_n 1, 1) := by decide +kernel
theorem dX12_carry_21 : decode cX12_carry 21 = .ok (.iaload, 1) := by decide +kernel
theorem dX12_carry_22 : decode cX12_carry 22 = .ok (.ifCond .ne 5, 3) := by decide +kernel
theorem dX12_carry_25 : decode cX12_carry 25 = .ok (.iconst (-1), 1) := by decide +kernel
theorem dX12_carry_26 : decode cX12_carry 26 = .ok (.ireturn, 1) := by decide +kernel
theorem dX12_carry_27 : decode cX12_carry 27 = .ok (.aload_n 0, 1) := by decide +kernel
theorem dX12_carry_28 : decode cX12_carry 28 = .ok (.getfield 55, 3) := by decide +kernel
theorem dX12_carry_31 : decode cX12_carry 31 = .ok (.bipush 33, 2) := by decide +kernel
theorem dX12_carry_33 : decode cX12_carry 33 = .ok (.iload_n 1, 1) := by decide +kernel
theorem dX12_carry_34 : decode cX12_carry 34 = .ok (.imul, 1) := by decide +kernel
theorem dX12_carry_35 : decode cX12_carry 35 = .ok (.iaload, 1) := by decide +kernel
theorem dX12_carry_36 : decode cX12_carry 36 = .ok (.istore_n 3, 1) := by decide +kernel
theorem dX12_carry_37 : decode cX12_carry 37 = .ok (.aload_n 0, 1) := by decide +kernel
theorem dX12_carry_38 : decode cX12_carry 38 = .ok (.getfield 52, 3) := by decide +kernel
theorem dX12_carry_41 : decode cX12_carry 41 = .ok (.sipush 21120, 3) := by decide +kernel
theorem dX12_carry_44 : decode cX12_carry 44 = .ok (.iload_n 1, 1) := by decide +kernel
theorem dX12_carry_45 : decode cX12_carry 45 = .ok (.imul, 1) := by decide +kernel
theorem dX12_carry_46 : decode cX12_carry 46 = .ok (.aload_n 0, 1) := by decide +kernel
theorem dX12_carry_47 : decode cX12_carry 47 = .ok (.getfield 182, 3) := by decide +kernel
theorem dX12_carry_50 : decode cX12_carry 50 = .ok (.iconst 0, 1) := by decide +kernel
theorem dX12_carry_51 : decode cX12_carry 51 = .ok (.iload_n 3, 1) := by decide +kernel
theorem dX12_carry_52 : decode cX12_carry 52 = .ok (.invokestatic 279, 3) := by decide +kernel
theorem dX12_carry_55 : decode cX12_carry 55 = .ok (.aload_n 0, 1) := by decide +kernel
theorem dX12_carry_56 : decode cX12_carry 56 = .ok (.iload_n 1, 1) := by decide +kernel
theorem dX12_carry_57 : decode cX12_carry 57 = .ok (.invokevirtual 523, 3) := by decide +kernel
theorem dX12_carry_60 : decode cX12_carry 60 = .ok (.aload_n 0, 1) := by decide +kernel
theorem dX12_carry_61 : decode cX12_carry 61 = .ok (.iload_n 2, 1) := by decide +kernel
theorem dX12_carry_62 : decode cX12_carry 62 = .ok (.iload_n 3, 1) := by decide +kernel
theorem dX12_carry_63 : decode cX12_carry 63 = .ok (.invokevirtual 526, 3) := by decide +kernel
theorem dX12_carry_66 : decode cX12_carry 66 = .ok (.aload_n 0, 1) := by decide +kernel
theorem dX12_carry_67 : decode cX12_carry 67 = .ok (.getfield 17, 3) := by decide +kernel
theorem dX12_carry_70 : decode cX12_carry 70 = .ok (.iload_n 2, 1) := by decide +kernel
theorem dX12_carry_71 : decode cX12_carry 71 = .ok (.iaload, 1) := by decide +kernel
theorem dX12_carry_72 : decode cX12_carry 72 = .ok (.ireturn, 1) := by decide +kernel
theorem dX12_give_0 : decode cX12_give 0 = .ok (.aload_n 0, 1) := by decide +kernel
theorem dX12_give_1 : decode cX12_give 1 = .ok (.iload_n 1, 1) := by decide +kernel
theorem dX12_give_2 : decode cX12_give 2 = .ok (.invokevirtual 511, 3) := by decide +kernel
theorem dX12_give_5 : decode cX12_give 5 = .ok (.ifCond .ne 5, 3) := by decide +kernel
theorem dX12_give_8 : decode cX12_give 8 = .ok (.iconst (-1), 1) := by decide +kernel
theorem dX12_give_9 : decode cX12_give 9 = .ok (.ireturn, 1) := by decide +kernel
theorem dX12_give_10 : decode cX12_give 10 = .ok (.aload_n 0, 1) := by decide +kernel
theorem dX12_give_11 : decode cX12_give 11 = .ok (.getfield 505, 3) := by decide +kernel
theorem dX12_give_14 : decode cX12_give 14 = .ok (.istore_n 2, 1) := by decide +kernel
theorem dX12_give_15 : decode cX12_give 15 = .ok (.aload_n 0, 1) := by decide +kernel
theorem dX12_give_16 : decode cX12_give 16 = .ok (.getfield 7, 3) := by decide +kernel
theorem dX12_give_19 : decode cX12_give 19 = .ok (.iconst 0, 1) := by decide +kernel
theorem dX12_give_20 : decode cX12_give 20 = .ok (.aload_n 0, 1) := by decide +kernel
theorem dX12_give_21 : decode cX12_give 21 = .ok (.getfield 182, 3) := by decide +kernel
theorem dX12_give_24 : decode cX12_give 24 = .ok (.iconst 0, 1) := by decide +kernel
theorem dX12_give_25 : decode cX12_give 25 = .ok (.iload_n 2, 1) := by decide +kernel
theorem dX12_give_26 : decode cX12_give 26 = .ok (.invokestatic 279, 3) := by decide +kernel
theorem dX12_give_29 : decode cX12_give 29 = .ok (.aload_n 0, 1) := by decide +kernel
theorem dX12_give_30 : decode cX12_give 30 = .ok (.iconst 0, 1) := by decide +kernel
theorem dX12_give_31 : decode cX12_give 31 = .ok (.putfield 505, 3) := by decide +kernel
theorem dX12_give_34 : decode cX12_give 34 = .ok (.aload_n 0, 1) := by decide +kernel
theorem dX12_give_35 : decode cX12_give 35 = .ok (.iload_n 1, 1) := by decide +kernel
theorem dX12_give_36 : decode cX12_give 36 = .ok (.iload_n 2, 1) := by decide +kernel
theorem dX12_give_37 : decode cX12_give 37 = .ok (.invokevirtual 526, 3) := by decide +kernel
theorem dX12_give_40 : decode cX12_give 40 = .ok (.aload_n 0, 1) := by decide +kernel
theorem dX12_give_41 : decode cX12_give 41 = .ok (.getfield 17, 3) := by decide +kernel
theorem dX12_give_44 : decode cX12_give 44 = .ok (.iload_n 1, 1) := by decide +kernel
theorem dX12_give_45 : decode cX12_give 45 = .ok (.iaload, 1) := by decide +kernel
theorem dX12_give_46 : decode cX12_give 46 = .ok (.ireturn, 1) := by decide +kernel
theorem dX12_meddle_0 : decode cX12_meddle 0 = .ok (.aload_n 0, 1) := by decide +kernel
theorem dX12_meddle_1 : decode cX12_meddle 1 = .ok (.iload_n 1, 1) := by decide +kernel
theorem dX12_meddle_2 : decode cX12_meddle 2 = .ok (.invokevirtual 511, 3) := by decide +kernel
theorem dX12_meddle_5 : decode cX12_meddle 5 = .ok (.ifCond .eq 44, 3) := by decide +kernel
theorem dX12_meddle_8 : decode cX12_meddle 8 = .ok (.iload_n 2, 1) := by decide +kernel
theorem dX12_meddle_9 : decode cX12_meddle 9 = .ok (.iconst 0, 1) := by decide +kernel
theorem dX12_meddle_10 : decode cX12_meddle 10 = .ok (.iconst 2, 1) := by decide +kernel
theorem dX12_meddle_11 : decode cX12_meddle 11 = .ok (.invokestatic 260, 3) := by decide +kernel
theorem dX12_meddle_14 : decode cX12_meddle 14 = .ok (.ifCond .eq 35, 3) := by decide +kernel
theorem dX12_meddle_17 : decode cX12_meddle 17 = .ok (.aload_n 0, 1) := by decide +kernel
theorem dX12_meddle_18 : decode cX12_meddle 18 = .ok (.getfield 58, 3) := by decide +kernel
theorem dX12_meddle_21 : decode cX12_meddle 21 = .ok (.iload_n 1, 1) := by decide +kernel
theorem dX12_meddle_22 : decode cX12_meddle 22 = .ok (.iaload, 1) := by decide +kernel
theorem dX12_meddle_23 : decode cX12_meddle 23 = .ok (.iload_n 2, 1) := by decide +kernel
theorem dX12_meddle_24 : decode cX12_meddle 24 = .ok (.iconst 2, 1) := by decide +kernel
theorem dX12_meddle_25 : decode cX12_meddle 25 = .ok (.if_icmp .ne 7, 3) := by decide +kernel
theorem dX12_meddle_28 : decode cX12_meddle 28 = .ok (.iconst 2, 1) := by decide +kernel
theorem dX12_meddle_29 : decode cX12_meddle 29 = .ok (.goto 4, 3) := by decide +kernel
theorem dX12_meddle_32 : decode cX12_meddle 32 = .ok (.iconst 1, 1) := by decide +kernel
theorem dX12_meddle_33 : decode cX12_meddle 33 = .ok (.if_icmp .lt 16, 3) := by decide +kernel
theorem dX12_meddle_36 : decode cX12_meddle 36 = .ok (.iload_n 2, 1) := by decide +kernel
theorem dX12_meddle_37 : decode cX12_meddle 37 = .ok (.iconst 1, 1) := by decide +kernel
theorem dX12_meddle_38 : decode cX12_meddle 38 = .ok (.if_icmp .ne 13, 3) := by decide +kernel
theorem dX12_meddle_41 : decode cX12_meddle 41 = .ok (.aload_n 0, 1) := by decide +kernel
theorem dX12_meddle_42 : decode cX12_meddle 42 = .ok (.iload_n 1, 1) := by decide +kernel
theorem dX12_meddle_43 : decode cX12_meddle 43 = .ok (.invokevirtual 425, 3) := by decide +kernel
theorem dX12_meddle_46 : decode cX12_meddle 46 = .ok (.ifCond .eq 5, 3) := by decide +kernel
theorem dX12_meddle_49 : decode cX12_meddle 49 = .ok (.iconst 0, 1) := by decide +kernel
theorem dX12_meddle_50 : decode cX12_meddle 50 = .ok (.ireturn, 1) := by decide +kernel
theorem dX12_meddle_51 : decode cX12_meddle 51 = .ok (.iload_n 2, 1) := by decide +kernel
theorem dX12_meddle_52 : decode cX12_meddle 52 = .ok (.ifCond .ne 11, 3) := by decide +kernel
theorem dX12_meddle_55 : decode cX12_meddle 55 = .ok (.aload_n 0, 1) := by decide +kernel
theorem dX12_meddle_56 : decode cX12_meddle 56 = .ok (.iload_n 1, 1) := by decide +kernel
theorem dX12_meddle_57 : decode cX12_meddle 57 = .ok (.invokevirtual 523, 3) := by decide +kernel
theorem dX12_meddle_60 : decode cX12_meddle 60 = .ok (.goto 72, 3) := by decide +kernel
theorem dX12_meddle_63 : decode cX12_meddle 63 = .ok (.iload_n 2, 1) := by decide +kernel
theorem dX12_meddle_64 : decode cX12_meddle 64 = .ok (.iconst 1, 1) := by decide +kernel
theorem dX12_meddle_65 : decode cX12_meddle 65 = .ok (.if_icmp .ne 44, 3) := by decide +kernel
theorem dX12_meddle_68 : decode cX12_meddle 68 = .ok (.aload_n 0, 1) := by decide +kernel
theorem dX12_meddle_69 : decode cX12_meddle 69 = .ok (.getfield 58, 3) := by decide +kernel
theorem dX12_meddle_72 : decode cX12_meddle 72 = .ok (.iload_n 1, 1) := by decide +kernel
theorem dX12_meddle_73 : decode cX12_meddle 73 = .ok (.iaload, 1) := by decide +kernel
theorem dX12_meddle_74 : decode cX12_meddle 74 = .ok (.iconst 1, 1) := by decide +kernel
theorem dX12_meddle_75 : decode cX12_meddle 75 = .ok (.isub, 1) := by decide +kernel
theorem dX12_meddle_76 : decode cX12_meddle 76 = .ok (.istore_n 3, 1) := by decide +kernel
theorem dX12_meddle_77 : decode cX12_meddle 77 = .ok (.iload_n 3, 1) := by decide +kernel
theorem dX12_meddle_78 : decode cX12_meddle 78 = .ok (.ifCond .lt 18, 3) := by decide +kernel
theorem dX12_meddle_81 : decode cX12_meddle 81 = .ok (.aload_n 0, 1) := by decide +kernel
theorem dX12_meddle_82 : decode cX12_meddle 82 = .ok (.iload_n 1, 1) := by decide +kernel
theorem dX12_meddle_83 : decode cX12_meddle 83 = .ok (.iload_n 3, 1) := by decide +kernel
theorem dX12_meddle_84 : decode cX12_meddle 84 = .ok (.iload_n 3, 1) := by decide +kernel
theorem dX12_meddle_85 : decode cX12_meddle 85 = .ok (.iconst 1, 1) := by decide +kernel
theorem dX12_meddle_86 : decode cX12_meddle 86 = .ok (.iadd, 1) := by decide +kernel
theorem dX12_meddle_87 : decode cX12_meddle 87 = .ok (.invokevirtual 520, 3) := by decide +kernel
theorem dX12_meddle_90 : decode cX12_meddle 90 = .ok (.iinc 3 (-1), 3) := by decide +kernel
theorem dX12_meddle_93 : decode cX12_meddle 93 = .ok (.goto (-16), 3) := by decide +kernel
theorem dX12_meddle_96 : decode cX12_meddle 96 = .ok (.aload_n 0, 1) := by decide +kernel
theorem dX12_meddle_97 : decode cX12_meddle 97 = .ok (.getfield 58, 3) := by decide +kernel
theorem dX12_meddle_100 : decode cX12_meddle 100 = .ok (.iload_n 1, 1) := by decide +kernel
theorem dX12_meddle_101 : decode cX12_meddle 101 = .ok (.dup2, 1) := by decide +kernel
theorem dX12_meddle_102 : decode cX12_meddle 102 = .ok (.iaload, 1) := by decide +kernel
theorem dX12_meddle_103 : decode cX12_meddle 103 = .ok (.iconst 1, 1) := by decide +kernel
theorem dX12_meddle_104 : decode cX12_meddle 104 = .ok (.iadd, 1) := by decide +kernel
theorem dX12_meddle_105 : decode cX12_meddle 105 = .ok (.iastore, 1) := by decide +kernel
theorem dX12_meddle_106 : decode cX12_meddle 106 = .ok (.goto 26, 3) := by decide +kernel
theorem dX12_meddle_109 : decode cX12_meddle 109 = .ok (.aload_n 0, 1) := by decide +kernel
theorem dX12_meddle_110 : decode cX12_meddle 110 = .ok (.iload_n 1, 1) := by decide +kernel
theorem dX12_meddle_111 : decode cX12_meddle 111 = .ok (.iconst 0, 1) := by decide +kernel
theorem dX12_meddle_112 : decode cX12_meddle 112 = .ok (.bipush 32, 2) := by decide +kernel
theorem dX12_meddle_114 : decode cX12_meddle 114 = .ok (.invokevirtual 520, 3) := by decide +kernel
theorem dX12_meddle_117 : decode cX12_meddle 117 = .ok (.aload_n 0, 1) := by decide +kernel
theorem dX12_meddle_118 : decode cX12_meddle 118 = .ok (.iload_n 1, 1) := by decide +kernel
theorem dX12_meddle_119 : decode cX12_meddle 119 = .ok (.iconst 1, 1) := by decide +kernel
theorem dX12_meddle_120 : decode cX12_meddle 120 = .ok (.iconst 0, 1) := by decide +kernel
theorem dX12_meddle_121 : decode cX12_meddle 121 = .ok (.invokevirtual 520, 3) := by decide +kernel
theorem dX12_meddle_124 : decode cX12_meddle 124 = .ok (.aload_n 0, 1) := by decide +kernel
theorem dX12_meddle_125 : decode cX12_meddle 125 = .ok (.iload_n 1, 1) := by decide +kernel
theorem dX12_meddle_126 : decode cX12_meddle 126 = .ok (.bipush 32, 2) := by decide +kernel
theorem dX12_meddle_128 : decode cX12_meddle 128 = .ok (.iconst 1, 1) := by decide +kernel
theorem dX12_meddle_129 : decode cX12_meddle 129 = .ok (.invokevirtual 520, 3) := by decide +kernel
theorem dX12_meddle_132 : decode cX12_meddle 132 = .ok (.iconst 1, 1) := by decide +kernel
theorem dX12_meddle_133 : decode cX12_meddle 133 = .ok (.ireturn, 1) := by decide +kernel
theorem dX12_alter_0 : decode cX12_alter 0 = .ok (.aload_n 0, 1) := by decide +kernel
theorem dX12_alter_1 : decode cX12_alter 1 = .ok (.iload_n 1, 1) := by decide +kernel
theorem dX12_alter_2 : decode cX12_alter 2 = .ok (.invokevirtual 511, 3) := by decide +kernel
theorem dX12_alter_5 : decode cX12_alter 5 = .ok (.ifCond .eq 42, 3) := by decide +kernel
theorem dX12_alter_8 : decode cX12_alter 8 = .ok (.aload_n 0, 1) := by decide +kernel
theorem dX12_alter_9 : decode cX12_alter 9 = .ok (.getfield 58, 3) := by decide +kernel
theorem dX12_alter_12 : decode cX12_alter 12 = .ok (.iload_n 1, 1) := by decide +kernel
theorem dX12_alter_13 : decode cX12_alter 13 = .ok (.iaload, 1) := by decide +kernel
theorem dX12_alter_14 : decode cX12_alter 14 = .ok (.ifCond .eq 33, 3) := by decide +kernel
theorem dX12_alter_17 : decode cX12_alter 17 = .ok (.iload_n 2, 1) := by decide +kernel
theorem dX12_alter_18 : decode cX12_alter 18 = .ok (.iconst 0, 1) := by decide +kernel
theorem dX12_alter_19 : decode cX12_alter 19 = .ok (.aload_n 0, 1) := by decide +kernel
theorem dX12_alter_20 : decode cX12_alter 20 = .ok (.getfield 55, 3) := by decide +kernel
theorem dX12_alter_23 : decode cX12_alter 23 = .ok (.bipush 33, 2) := by decide +kernel
theorem dX12_alter_25 : decode cX12_alter 25 = .ok (.iload_n 1, 1) := by decide +kernel
theorem dX12_alter_26 : decode cX12_alter 26 = .ok (.imul, 1) := by decide +kernel
theorem dX12_alter_27 : decode cX12_alter 27 = .ok (.iaload, 1) := by decide +kernel
theorem dX12_alter_28 : decode cX12_alter 28 = .ok (.iconst 1, 1) := by decide +kernel
theorem dX12_alter_29 : decode cX12_alter 29 = .ok (.isub, 1) := by decide +kernel
theorem dX12_alter_30 : decode cX12_alter 30 = .ok (.invokestatic 260, 3) := by decide +kernel
theorem dX12_alter_33 : decode cX12_alter 33 = .ok (.ifCond .eq 14, 3) := by decide +kernel
theorem dX12_alter_36 : decode cX12_alter 36 = .ok (.iload_n 3, 1) := by decide +kernel
theorem dX12_alter_37 : decode cX12_alter 37 = .ok (.iconst 0, 1) := by decide +kernel
theorem dX12_alter_38 : decode cX12_alter 38 = .ok (.sipush 255, 3) := by decide +kernel
theorem dX12_alter_41 : decode cX12_alter 41 = .ok (.invokestatic 260, 3) := by decide +kernel
theorem dX12_alter_44 : decode cX12_alter 44 = .ok (.ifCond .ne 5, 3) := by decide +kernel
theorem dX12_alter_47 : decode cX12_alter 47 = .ok (.iconst 0, 1) := by decide +kernel
theorem dX12_alter_48 : decode cX12_alter 48 = .ok (.ireturn, 1) := by decide +kernel
theorem dX12_alter_49 : decode cX12_alter 49 = .ok (.aload_n 0, 1) := by decide +kernel
theorem dX12_alter_50 : decode cX12_alter 50 = .ok (.getfield 52, 3) := by decide +kernel
theorem dX12_alter_53 : decode cX12_alter 53 = .ok (.sipush 21120, 3) := by decide +kernel
theorem dX12_alter_56 : decode cX12_alter 56 = .ok (.iload_n 1, 1) := by decide +kernel
theorem dX12_alter_57 : decode cX12_alter 57 = .ok (.imul, 1) := by decide +kernel
theorem dX12_alter_58 : decode cX12_alter 58 = .ok (.iload_n 2, 1) := by decide +kernel
theorem dX12_alter_59 : decode cX12_alter 59 = .ok (.iadd, 1) := by decide +kernel
theorem dX12_alter_60 : decode cX12_alter 60 = .ok (.dup2, 1) := by decide +kernel
theorem dX12_alter_61 : decode cX12_alter 61 = .ok (.baload, 1) := by decide +kernel
theorem dX12_alter_62 : decode cX12_alter 62 = .ok (.iload_n 3, 1) := by decide +kernel
theorem dX12_alter_63 : decode cX12_alter 63 = .ok (.i2b, 1) := by decide +kernel
theorem dX12_alter_64 : decode cX12_alter 64 = .ok (.ixor, 1) := by decide +kernel
theorem dX12_alter_65 : decode cX12_alter 65 = .ok (.i2b, 1) := by decide +kernel
theorem dX12_alter_66 : decode cX12_alter 66 = .ok (.bastore, 1) := by decide +kernel
theorem dX12_alter_67 : decode cX12_alter 67 = .ok (.iconst 1, 1) := by decide +kernel
theorem dX12_alter_68 : decode cX12_alter 68 = .ok (.ireturn, 1) := by decide +kernel
theorem dX12_written_0 : decode cX12_written 0 = .ok (.aload_n 0, 1) := by decide +kernel
theorem dX12_written_1 : decode cX12_written 1 = .ok (.iload_n 1, 1) := by decide +kernel
theorem dX12_written_2 : decode cX12_written 2 = .ok (.invokevirtual 511, 3) := by decide +kernel
theorem dX12_written_5 : decode cX12_written 5 = .ok (.ifCond .eq 64, 3) := by decide +kernel
theorem dX12_written_8 : decode cX12_written 8 = .ok (.iload_n 2, 1) := by decide +kernel
theorem dX12_written_9 : decode cX12_written 9 = .ok (.iconst 0, 1) := by decide +kernel
theorem dX12_written_10 : decode cX12_written 10 = .ok (.aload_n 0, 1) := by decide +kernel
theorem dX12_written_11 : decode cX12_written 11 = .ok (.getfield 58, 3) := by decide +kernel
theorem dX12_written_14 : decode cX12_written 14 = .ok (.iload_n 1, 1) := by decide +kernel
theorem dX12_written_15 : decode cX12_written 15 = .ok (.iaload, 1) := by decide +kernel
theorem dX12_written_16 : decode cX12_written 16 = .ok (.iconst 1, 1) := by decide +kernel
theorem dX12_written_17 : decode cX12_written 17 = .ok (.isub, 1) := by decide +kernel
theorem dX12_written_18 : decode cX12_written 18 = .ok (.invokestatic 260, 3) := by decide +kernel
theorem dX12_written_21 : decode cX12_written 21 = .ok (.ifCond .eq 48, 3) := by decide +kernel
theorem dX12_written_24 : decode cX12_written 24 = .ok (.iload_n 3, 1) := by decide +kernel
theorem dX12_written_25 : decode cX12_written 25 = .ok (.iconst 0, 1) := by decide +kernel
theorem dX12_written_26 : decode cX12_written 26 = .ok (.aload_n 0, 1) := by decide +kernel
theorem dX12_written_27 : decode cX12_written 27 = .ok (.getfield 55, 3) := by decide +kernel
theorem dX12_written_30 : decode cX12_written 30 = .ok (.bipush 33, 2) := by decide +kernel
theorem dX12_written_32 : decode cX12_written 32 = .ok (.iload_n 1, 1) := by decide +kernel
theorem dX12_written_33 : decode cX12_written 33 = .ok (.imul, 1) := by decide +kernel
theorem dX12_written_34 : decode cX12_written 34 = .ok (.iload_n 2, 1) := by decide +kernel
theorem dX12_written_35 : decode cX12_written 35 = .ok (.iadd, 1) := by decide +kernel
theorem dX12_written_36 : decode cX12_written 36 = .ok (.iaload, 1) := by decide +kernel
theorem dX12_written_37 : decode cX12_written 37 = .ok (.iconst 1, 1) := by decide +kernel
theorem dX12_written_38 : decode cX12_written 38 = .ok (.isub, 1) := by decide +kernel
theorem dX12_written_39 : decode cX12_written 39 = .ok (.invokestatic 260, 3) := by decide +kernel
theorem dX12_written_42 : decode cX12_written 42 = .ok (.ifCond .eq 27, 3) := by decide +kernel
theorem dX12_written_45 : decode cX12_written 45 = .ok (.aload_n 0, 1) := by decide +kernel
theorem dX12_written_46 : decode cX12_written 46 = .ok (.getfield 52, 3) := by decide +kernel
theorem dX12_written_49 : decode cX12_written 49 = .ok (.sipush 640, 3) := by decide +kernel
theorem dX12_written_52 : decode cX12_written 52 = .ok (.bipush 33, 2) := by decide +kernel
theorem dX12_written_54 : decode cX12_written 54 = .ok (.iload_n 1, 1) := by decide +kernel
theorem dX12_written_55 : decode cX12_written 55 = .ok (.imul, 1) := by decide +kernel
theorem dX12_written_56 : decode cX12_written 56 = .ok (.iload_n 2, 1) := by decide +kernel
theorem dX12_written_57 : decode cX12_written 57 = .ok (.iadd, 1) := by decide +kernel
theorem dX12_written_58 : decode cX12_written 58 = .ok (.imul, 1) := by decide +kernel
theorem dX12_written_59 : decode cX12_written 59 = .ok (.iload_n 3, 1) := by decide +kernel
theorem dX12_written_60 : decode cX12_written 60 = .ok (.iadd, 1) := by decide +kernel
theorem dX12_written_61 : decode cX12_written 61 = .ok (.baload, 1) := by decide +kernel
theorem dX12_written_62 : decode cX12_written 62 = .ok (.sipush 255, 3) := by decide +kernel
theorem dX12_written_65 : decode cX12_written 65 = .ok (.iand, 1) := by decide +kernel
theorem dX12_written_66 : decode cX12_written 66 = .ok (.goto 4, 3) := by decide +kernel
theorem dX12_written_69 : decode cX12_written 69 = .ok (.iconst (-1), 1) := by decide +kernel
theorem dX12_written_70 : decode cX12_written 70 = .ok (.ireturn, 1) := by decide +kernel
theorem dX12_given_0 : decode cX12_given 0 = .ok (.aload_n 0, 1) := by decide +kernel
theorem dX12_given_1 : decode cX12_given 1 = .ok (.iload_n 1, 1) := by decide +kernel
theorem dX12_given_2 : decode cX12_given 2 = .ok (.invokevirtual 511, 3) := by decide +kernel
theorem dX12_given_5 : decode cX12_given 5 = .ok (.ifCond .eq 38, 3) := by decide +kernel
theorem dX12_given_8 : decode cX12_given 8 = .ok (.iload_n 2, 1) := by decide +kernel
theorem dX12_given_9 : decode cX12_given 9 = .ok (.iconst 0, 1) := by decide +kernel
theorem dX12_given_10 : decode cX12_given 10 = .ok (.aload_n 0, 1) := by decide +kernel
theorem dX12_given_11 : decode cX12_given 11 = .ok (.getfield 64, 3) := by decide +kernel
theorem dX12_given_14 : decode cX12_given 14 = .ok (.iload_n 1, 1) := by decide +kernel
theorem dX12_given_15 : decode cX12_given 15 = .ok (.iaload, 1) := by decide +kernel
theorem dX12_given_16 : decode cX12_given 16 = .ok (.iconst 1, 1) := by decide +kernel
theorem dX12_given_17 : decode cX12_given 17 = .ok (.isub, 1) := by decide +kernel
theorem dX12_given_18 : decode cX12_given 18 = .ok (.invokestatic 260, 3) := by decide +kernel
theorem dX12_given_21 : decode cX12_given 21 = .ok (.ifCond .eq 22, 3) := by decide +kernel
theorem dX12_given_24 : decode cX12_given 24 = .ok (.aload_n 0, 1) := by decide +kernel
theorem dX12_given_25 : decode cX12_given 25 = .ok (.getfield 61, 3) := by decide +kernel
theorem dX12_given_28 : decode cX12_given 28 = .ok (.sipush 2000, 3) := by decide +kernel
theorem dX12_given_31 : decode cX12_given 31 = .ok (.iload_n 1, 1) := by decide +kernel
theorem dX12_given_32 : decode cX12_given 32 = .ok (.imul, 1) := by decide +kernel
theorem dX12_given_33 : decode cX12_given 33 = .ok (.iload_n 2, 1) := by decide +kernel
theorem dX12_given_34 : decode cX12_given 34 = .ok (.iadd, 1) := by decide +kernel
theorem dX12_given_35 : decode cX12_given 35 = .ok (.baload, 1) := by decide +kernel
theorem dX12_given_36 : decode cX12_given 36 = .ok (.sipush 255, 3) := by decide +kernel
theorem dX12_given_39 : decode cX12_given 39 = .ok (.iand, 1) := by decide +kernel
theorem dX12_given_40 : decode cX12_given 40 = .ok (.goto 4, 3) := by decide +kernel
theorem dX12_given_43 : decode cX12_given 43 = .ok (.iconst (-1), 1) := by decide +kernel
theorem dX12_given_44 : decode cX12_given 44 = .ok (.ireturn, 1) := by decide +kernel
theorem dX12_secret_0 : decode cX12_secret 0 = .ok (.aload_n 0, 1) := by decide +kernel
theorem dX12_secret_1 : decode cX12_secret 1 = .ok (.iload_n 1, 1) := by decide +kernel
theorem dX12_secret_2 : decode cX12_secret 2 = .ok (.invokevirtual 511, 3) := by decide +kernel
theorem dX12_secret_5 : decode cX12_secret 5 = .ok (.ifCond .eq 13, 3) := by decide +kernel
theorem dX12_secret_8 : decode cX12_secret 8 = .ok (.iload_n 3, 1) := by decide +kernel
theorem dX12_secret_9 : decode cX12_secret 9 = .ok (.iconst 0, 1) := by decide +kernel
theorem dX12_secret_10 : decode cX12_secret 10 = .ok (.bipush 31, 2) := by decide +kernel
theorem dX12_secret_12 : decode cX12_secret 12 = .ok (.invokestatic 260, 3) := by decide +kernel
theorem dX12_secret_15 : decode cX12_secret 15 = .ok (.ifCond .ne 5, 3) := by decide +kernel
theorem dX12_secret_18 : decode cX12_secret 18 = .ok (.iconst (-1), 1) := by decide +kernel
theorem dX12_secret_19 : decode cX12_secret 19 = .ok (.ireturn, 1) := by decide +kernel
theorem dX12_secret_20 : decode cX12_secret 20 = .ok (.iload_n 2, 1) := by decide +kernel
theorem dX12_secret_21 : decode cX12_secret 21 = .ok (.ifCond .ne 32, 3) := by decide +kernel
theorem dX12_secret_24 : decode cX12_secret 24 = .ok (.aload_n 0, 1) := by decide +kernel
theorem dX12_secret_25 : decode cX12_secret 25 = .ok (.getfield 85, 3) := by decide +kernel
theorem dX12_secret_28 : decode cX12_secret 28 = .ok (.iload_n 1, 1) := by decide +kernel
theorem dX12_secret_29 : decode cX12_secret 29 = .ok (.baload, 1) := by decide +kernel
theorem dX12_secret_30 : decode cX12_secret 30 = .ok (.ifCond .eq 21, 3) := by decide +kernel
theorem dX12_secret_33 : decode cX12_secret 33 = .ok (.aload_n 0, 1) := by decide +kernel
theorem dX12_secret_34 : decode cX12_secret 34 = .ok (.getfield 73, 3) := by decide +kernel
theorem dX12_secret_37 : decode cX12_secret 37 = .ok (.bipush 32, 2) := by decide +kernel
theorem dX12_secret_39 : decode cX12_secret 39 = .ok (.iload_n 1, 1) := by decide +kernel
theorem dX12_secret_40 : decode cX12_secret 40 = .ok (.imul, 1) := by decide +kernel
theorem dX12_secret_41 : decode cX12_secret 41 = .ok (.iload_n 3, 1) := by decide +kernel
theorem dX12_secret_42 : decode cX12_secret 42 = .ok (.iadd, 1) := by decide +kernel
theorem dX12_secret_43 : decode cX12_secret 43 = .ok (.baload, 1) := by decide +kernel
theorem dX12_secret_44 : decode cX12_secret 44 = .ok (.sipush 255, 3) := by decide +kernel
theorem dX12_secret_47 : decode cX12_secret 47 = .ok (.iand, 1) := by decide +kernel
theorem dX12_secret_48 : decode cX12_secret 48 = .ok (.goto 4, 3) := by decide +kernel
theorem dX12_secret_51 : decode cX12_secret 51 = .ok (.iconst (-1), 1) := by decide +kernel
theorem dX12_secret_52 : decode cX12_secret 52 = .ok (.ireturn, 1) := by decide +kernel
theorem dX12_secret_53 : decode cX12_secret 53 = .ok (.iload_n 2, 1) := by decide +kernel
theorem dX12_secret_54 : decode cX12_secret 54 = .ok (.iconst 1, 1) := by decide +kernel
theorem dX12_secret_55 : decode cX12_secret 55 = .ok (.if_icmp .ne 30, 3) := by decide +kernel
theorem dX12_secret_58 : decode cX12_secret 58 = .ok (.aload_n 0, 1) := by decide +kernel
theorem dX12_secret_59 : decode cX12_secret 59 = .ok (.getfield 88, 3) := by decide +kernel
theorem dX12_secret_62 : decode cX12_secret 62 = .ok (.iload_n 1, 1) := by decide +kernel
theorem dX12_secret_63 : decode cX12_secret 63 = .ok (.baload, 1) := by decide +kernel
theorem dX12_secret_64 : decode cX12_secret 64 = .ok (.ifCond .eq 21, 3) := by decide +kernel
theorem dX12_secret_67 : decode cX12_secret 67 = .ok (.aload_n 0, 1) := by decide +kernel
theorem dX12_secret_68 : decode cX12_secret 68 = .ok (.getfield 76, 3) := by decide +kernel
theorem dX12_secret_71 : decode cX12_secret 71 = .ok (.bipush 32, 2) := by decide +kernel
theorem dX12_secret_73 : decode cX12_secret 73 = .ok (.iload_n 1, 1) := by decide +kernel
theorem dX12_secret_74 : decode cX12_secret 74 = .ok (.imul, 1) := by decide +kernel
theorem dX12_secret_75 : decode cX12_secret 75 = .ok (.iload_n 3, 1) := by decide +kernel
theorem dX12_secret_76 : decode cX12_secret 76 = .ok (.iadd, 1) := by decide +kernel
theorem dX12_secret_77 : decode cX12_secret 77 = .ok (.baload, 1) := by decide +kernel
theorem dX12_secret_78 : decode cX12_secret 78 = .ok (.sipush 255, 3) := by decide +kernel
theorem dX12_secret_81 : decode cX12_secret 81 = .ok (.iand, 1) := by decide +kernel
theorem dX12_secret_82 : decode cX12_secret 82 = .ok (.goto 4, 3) := by decide +kernel
theorem dX12_secret_85 : decode cX12_secret 85 = .ok (.iconst (-1), 1) := by decide +kernel
theorem dX12_secret_86 : decode cX12_secret 86 = .ok (.ireturn, 1) := by decide +kernel
theorem dX12_state_0 : decode cX12_state 0 = .ok (.aload_n 0, 1) := by decide +kernel
theorem dX12_state_1 : decode cX12_state 1 = .ok (.iload_n 1, 1) := by decide +kernel
theorem dX12_state_2 : decode cX12_state 2 = .ok (.invokevirtual 511, 3) := by decide +kernel
theorem dX12_state_5 : decode cX12_state 5 = .ok (.ifCond .ne 5, 3) := by decide +kernel
theorem dX12_state_8 : decode cX12_state 8 = .ok (.iconst (-1), 1) := by decide +kernel
theorem dX12_state_9 : decode cX12_state 9 = .ok (.ireturn, 1) := by decide +kernel
theorem dX12_state_10 : decode cX12_state 10 = .ok (.iload_n 2, 1) := by decide +kernel
theorem dX12_state_11 : decode cX12_state 11 = .ok (.tableswitch 147 0 9 #[53, 60, 67, 74, 81, 88, 95, 102, 117, 132], 53) := by decide +kernel
theorem dX12_state_64 : decode cX12_state 64 = .ok (.aload_n 0, 1) := by decide +kernel
theorem dX12_state_65 : decode cX12_state 65 = .ok (.getfield 17, 3) := by decide +kernel
theorem dX12_state_68 : decode cX12_state 68 = .ok (.iload_n 1, 1) := by decide +kernel
theorem dX12_state_69 : decode cX12_state 69 = .ok (.iaload, 1) := by decide +kernel
theorem dX12_state_70 : decode cX12_state 70 = .ok (.ireturn, 1) := by decide +kernel
theorem dX12_state_71 : decode cX12_state 71 = .ok (.aload_n 0, 1) := by decide +kernel
theorem dX12_state_72 : decode cX12_state 72 = .ok (.getfield 39, 3) := by decide +kernel
theorem dX12_state_75 : decode cX12_state 75 = .ok (.iload_n 1, 1) := by decide +kernel
theorem dX12_state_76 : decode cX12_state 76 = .ok (.iaload, 1) := by decide +kernel
theorem dX12_state_77 : decode cX12_state 77 = .ok (.ireturn, 1) := by decide +kernel
theorem dX12_state_78 : decode cX12_state 78 = .ok (.aload_n 0, 1) := by decide +kernel
theorem dX12_state_79 : decode cX12_state 79 = .ok (.getfield 42, 3) := by decide +kernel
theorem dX12_state_82 : decode cX12_state 82 = .ok (.iload_n 1, 1) := by decide +kernel
theorem dX12_state_83 : decode cX12_state 83 = .ok (.iaload, 1) := by decide +kernel
theorem dX12_state_84 : decode cX12_state 84 = .ok (.ireturn, 1) := by decide +kernel
theorem dX12_state_85 : decode cX12_state 85 = .ok (.aload_n 0, 1) := by decide +kernel
theorem dX12_state_86 : decode cX12_state 86 = .ok (.getfield 58, 3) := by decide +kernel
theorem dX12_state_89 : decode cX12_state 89 = .ok (.iload_n 1, 1) := by decide +kernel
theorem dX12_state_90 : decode cX12_state 90 = .ok (.iaload, 1) := by decide +kernel
theorem dX12_state_91 : decode cX12_state 91 = .ok (.ireturn, 1) := by decide +kernel
theorem dX12_state_92 : decode cX12_state 92 = .ok (.aload_n 0, 1) := by decide +kernel
theorem dX12_state_93 : decode cX12_state 93 = .ok (.getfield 64, 3) := by decide +kernel
theorem dX12_state_96 : decode cX12_state 96 = .ok (.iload_n 1, 1) := by decide +kernel
theorem dX12_state_97 : decode cX12_state 97 = .ok (.iaload, 1) := by decide +kernel
theorem dX12_state_98 : decode cX12_state 98 = .ok (.ireturn, 1) := by decide +kernel
theorem dX12_state_99 : decode cX12_state 99 = .ok (.aload_n 0, 1) := by decide +kernel
theorem dX12_state_100 : decode cX12_state 100 = .ok (.getfield 91, 3) := by decide +kernel
theorem dX12_state_103 : decode cX12_state 103 = .ok (.iload_n 1, 1) := by decide +kernel
theorem dX12_state_104 : decode cX12_state 104 = .ok (.iaload, 1) := by decide +kernel
theorem dX12_state_105 : decode cX12_state 105 = .ok (.ireturn, 1) := by decide +kernel
theorem dX12_state_106 : decode cX12_state 106 = .ok (.aload_n 0, 1) := by decide +kernel
theorem dX12_state_107 : decode cX12_state 107 = .ok (.getfield 94, 3) := by decide +kernel
theorem dX12_state_110 : decode cX12_state 110 = .ok (.iload_n 1, 1) := by decide +kernel
theorem dX12_state_111 : decode cX12_state 111 = .ok (.iaload, 1) := by decide +kernel
theorem dX12_state_112 : decode cX12_state 112 = .ok (.ireturn, 1) := by decide +kernel
theorem dX12_state_113 : decode cX12_state 113 = .ok (.aload_n 0, 1) := by decide +kernel
theorem dX12_state_114 : decode cX12_state 114 = .ok (.getfield 45, 3) := by decide +kernel
theorem dX12_state_117 : decode cX12_state 117 = .ok (.iload_n 1, 1) := by decide +kernel
theorem dX12_state_118 : decode cX12_state 118 = .ok (.baload, 1) := by decide +kernel
theorem dX12_state_119 : decode cX12_state 119 = .ok (.ifCond .eq 7, 3) := by decide +kernel
theorem dX12_state_122 : decode cX12_state 122 = .ok (.iconst 1, 1) := by decide +kernel
theorem dX12_state_123 : decode cX12_state 123 = .ok (.goto 4, 3) := by decide +kernel
theorem dX12_state_126 : decode cX12_state 126 = .ok (.iconst 0, 1) := by decide +kernel
theorem dX12_state_127 : decode cX12_state 127 = .ok (.ireturn, 1) := by decide +kernel
theorem dX12_state_128 : decode cX12_state 128 = .ok (.aload_n 0, 1) := by decide +kernel
theorem dX12_state_129 : decode cX12_state 129 = .ok (.getfield 48, 3) := by decide +kernel
theorem dX12_state_132 : decode cX12_state 132 = .ok (.iload_n 1, 1) := by decide +kernel
theorem dX12_state_133 : decode cX12_state 133 = .ok (.baload, 1) := by decide +kernel
theorem dX12_state_134 : decode cX12_state 134 = .ok (.ifCond .eq 7, 3) := by decide +kernel
theorem dX12_state_137 : decode cX12_state 137 = .ok (.iconst 1, 1) := by decide +kernel
theorem dX12_state_138 : decode cX12_state 138 = .ok (.goto 4, 3) := by decide +kernel
theorem dX12_state_141 : decode cX12_state 141 = .ok (.iconst 0, 1) := by decide +kernel
theorem dX12_state_142 : decode cX12_state 142 = .ok (.ireturn, 1) := by decide +kernel
theorem dX12_state_143 : decode cX12_state 143 = .ok (.aload_n 0, 1) := by decide +kernel
theorem dX12_state_144 : decode cX12_state 144 = .ok (.getfield 13, 3) := by decide +kernel
theorem dX12_state_147 : decode cX12_state 147 = .ok (.iload_n 1, 1) := by decide +kernel
theorem dX12_state_148 : decode cX12_state 148 = .ok (.baload, 1) := by decide +kernel
theorem dX12_state_149 : decode cX12_state 149 = .ok (.ifCond .eq 7, 3) := by decide +kernel
theorem dX12_state_152 : decode cX12_state 152 = .ok (.iconst 1, 1) := by decide +kernel
theorem dX12_state_153 : decode cX12_state 153 = .ok (.goto 4, 3) := by decide +kernel
theorem dX12_state_156 : decode cX12_state 156 = .ok (.iconst 0, 1) := by decide +kernel
theorem dX12_state_157 : decode cX12_state 157 = .ok (.ireturn, 1) := by decide +kernel
theorem dX12_state_158 : decode cX12_state 158 = .ok (.iconst (-1), 1) := by decide +kernel
theorem dX12_state_159 : decode cX12_state 159 = .ok (.ireturn, 1) := by decide +kernel
theorem dX12_hash_0 : decode cX12_hash 0 = .ok (.iload_n 1, 1) := by decide +kernel
theorem dX12_hash_1 : decode cX12_hash 1 = .ok (.iconst 0, 1) := by decide +kernel
theorem dX12_hash_2 : decode cX12_hash 2 = .ok (.bipush 31, 2) := by decide +kernel
theorem dX12_hash_4 : decode cX12_hash 4 = .ok (.invokestatic 260, 3) := by decide +kernel
theorem dX12_hash_7 : decode cX12_hash 7 = .ok (.ifCond .ne 5, 3) := by decide +kernel
theorem dX12_hash_10 : decode cX12_hash 10 = .ok (.iconst (-1), 1) := by decide +kernel
theorem dX12_hash_11 : decode cX12_hash 11 = .ok (.ireturn, 1) := by decide +kernel
theorem dX12_hash_12 : decode cX12_hash 12 = .ok (.aload_n 0, 1) := by decide +kernel
theorem dX12_hash_13 : decode cX12_hash 13 = .ok (.aload_n 0, 1) := by decide +kernel
theorem dX12_hash_14 : decode cX12_hash 14 = .ok (.getfield 7, 3) := by decide +kernel
theorem dX12_hash_17 : decode cX12_hash 17 = .ok (.iconst 0, 1) := by decide +kernel
theorem dX12_hash_18 : decode cX12_hash 18 = .ok (.aload_n 0, 1) := by decide +kernel
theorem dX12_hash_19 : decode cX12_hash 19 = .ok (.getfield 505, 3) := by decide +kernel
theorem dX12_hash_22 : decode cX12_hash 22 = .ok (.aload_n 0, 1) := by decide +kernel
theorem dX12_hash_23 : decode cX12_hash 23 = .ok (.getfield 185, 3) := by decide +kernel
theorem dX12_hash_26 : decode cX12_hash 26 = .ok (.iconst 0, 1) := by decide +kernel
theorem dX12_hash_27 : decode cX12_hash 27 = .ok (.invokevirtual 283, 3) := by decide +kernel
theorem dX12_hash_30 : decode cX12_hash 30 = .ok (.aload_n 0, 1) := by decide +kernel
theorem dX12_hash_31 : decode cX12_hash 31 = .ok (.getfield 185, 3) := by decide +kernel
theorem dX12_hash_34 : decode cX12_hash 34 = .ok (.iload_n 1, 1) := by decide +kernel
theorem dX12_hash_35 : decode cX12_hash 35 = .ok (.baload, 1) := by decide +kernel
theorem dX12_hash_36 : decode cX12_hash 36 = .ok (.sipush 255, 3) := by decide +kernel
theorem dX12_hash_39 : decode cX12_hash 39 = .ok (.iand, 1) := by decide +kernel
theorem dX12_hash_40 : decode cX12_hash 40 = .ok (.ireturn, 1) := by decide +kernel
theorem dX12_about_0 : decode cX12_about 0 = .ok (.iload_n 1, 1) := by decide +kernel
theorem dX12_about_1 : decode cX12_about 1 = .ok (.ifCond .ne 10, 3) := by decide +kernel
theorem dX12_about_4 : decode cX12_about 4 = .ok (.aload_n 0, 1) := by decide +kernel
theorem dX12_about_5 : decode cX12_about 5 = .ok (.getfield 505, 3) := by decide +kernel
theorem dX12_about_8 : decode cX12_about 8 = .ok (.goto 16, 3) := by decide +kernel
theorem dX12_about_11 : decode cX12_about 11 = .ok (.iload_n 1, 1) := by decide +kernel
theorem dX12_about_12 : decode cX12_about 12 = .ok (.iconst 1, 1) := by decide +kernel
theorem dX12_about_13 : decode cX12_about 13 = .ok (.if_icmp .ne 10, 3) := by decide +kernel
theorem dX12_about_16 : decode cX12_about 16 = .ok (.aload_n 0, 1) := by decide +kernel
theorem dX12_about_17 : decode cX12_about 17 = .ok (.getfield 256, 3) := by decide +kernel
theorem dX12_about_20 : decode cX12_about 20 = .ok (.goto 4, 3) := by decide +kernel
theorem dX12_about_23 : decode cX12_about 23 = .ok (.iconst (-1), 1) := by decide +kernel
theorem dX12_about_24 : decode cX12_about 24 = .ok (.ireturn, 1) := by decide +kernel
theorem dJ0_length_8abf5_0 : decode cJ0_length_8abf5 0 = .ok (.aload_n 0, 1) := by decide +kernel
theorem dJ0_length_8abf5_1 : decode cJ0_length_8abf5 1 = .ok (.getfield 9, 3) := by decide +kernel
theorem dJ0_length_8abf5_4 : decode cJ0_length_8abf5 4 = .ok (.arraylength, 1) := by decide +kernel
theorem dJ0_length_8abf5_5 : decode cJ0_length_8abf5 5 = .ok (.aload_n 0, 1) := by decide +kernel
theorem dJ0_length_8abf5_6 : decode cJ0_length_8abf5 6 = .ok (.invokevirtual 335, 3) := by decide +kernel
theorem dJ0_length_8abf5_9 : decode cJ0_length_8abf5 9 = .ok (.ishr, 1) := by decide +kernel
theorem dJ0_length_8abf5_10 : decode cJ0_length_8abf5 10 = .ok (.ireturn, 1) := by decide +kernel
theorem dJ0_charAt_5068e_0 : decode cJ0_charAt_5068e 0 = .ok (.aload_n 0, 1) := by decide +kernel
theorem dJ0_charAt_5068e_1 : decode cJ0_charAt_5068e 1 = .ok (.invokevirtual 492, 3) := by decide +kernel
theorem dJ0_charAt_5068e_4 : decode cJ0_charAt_5068e 4 = .ok (.ifCond .eq 12, 3) := by decide +kernel
theorem dJ0_charAt_5068e_7 : decode cJ0_charAt_5068e 7 = .ok (.aload_n 0, 1) := by decide +kernel
theorem dJ0_charAt_5068e_8 : decode cJ0_charAt_5068e 8 = .ok (.getfield 9, 3) := by decide +kernel
theorem dJ0_charAt_5068e_11 : decode cJ0_charAt_5068e 11 = .ok (.iload_n 1, 1) := by decide +kernel
theorem dJ0_charAt_5068e_12 : decode cJ0_charAt_5068e 12 = .ok (.invokestatic 495, 3) := by decide +kernel
theorem dJ0_charAt_5068e_15 : decode cJ0_charAt_5068e 15 = .ok (.ireturn, 1) := by decide +kernel
theorem dJ0_charAt_5068e_16 : decode cJ0_charAt_5068e 16 = .ok (.aload_n 0, 1) := by decide +kernel
theorem dJ0_charAt_5068e_17 : decode cJ0_charAt_5068e 17 = .ok (.getfield 9, 3) := by decide +kernel
theorem dJ0_charAt_5068e_20 : decode cJ0_charAt_5068e 20 = .ok (.iload_n 1, 1) := by decide +kernel
theorem dJ0_charAt_5068e_21 : decode cJ0_charAt_5068e 21 = .ok (.invokestatic 498, 3) := by decide +kernel
theorem dJ0_charAt_5068e_24 : decode cJ0_charAt_5068e 24 = .ok (.ireturn, 1) := by decide +kernel
theorem dJ0_coder_7d493_0 : decode cJ0_coder_7d493 0 = .ok (.getstatic 38, 3) := by decide +kernel
theorem dJ0_coder_7d493_3 : decode cJ0_coder_7d493 3 = .ok (.ifCond .eq 10, 3) := by decide +kernel
theorem dJ0_coder_7d493_6 : decode cJ0_coder_7d493 6 = .ok (.aload_n 0, 1) := by decide +kernel
theorem dJ0_coder_7d493_7 : decode cJ0_coder_7d493 7 = .ok (.getfield 15, 3) := by decide +kernel
theorem dJ0_coder_7d493_10 : decode cJ0_coder_7d493 10 = .ok (.goto 4, 3) := by decide +kernel
theorem dJ0_coder_7d493_13 : decode cJ0_coder_7d493 13 = .ok (.iconst 1, 1) := by decide +kernel
theorem dJ0_coder_7d493_14 : decode cJ0_coder_7d493 14 = .ok (.ireturn, 1) := by decide +kernel
theorem dJ0_isLatin1_aae02_0 : decode cJ0_isLatin1_aae02 0 = .ok (.getstatic 38, 3) := by decide +kernel
theorem dJ0_isLatin1_aae02_3 : decode cJ0_isLatin1_aae02 3 = .ok (.ifCond .eq 14, 3) := by decide +kernel
theorem dJ0_isLatin1_aae02_6 : decode cJ0_isLatin1_aae02 6 = .ok (.aload_n 0, 1) := by decide +kernel
theorem dJ0_isLatin1_aae02_7 : decode cJ0_isLatin1_aae02 7 = .ok (.getfield 15, 3) := by decide +kernel
theorem dJ0_isLatin1_aae02_10 : decode cJ0_isLatin1_aae02 10 = .ok (.ifCond .ne 7, 3) := by decide +kernel
theorem dJ0_isLatin1_aae02_13 : decode cJ0_isLatin1_aae02 13 = .ok (.iconst 1, 1) := by decide +kernel
theorem dJ0_isLatin1_aae02_14 : decode cJ0_isLatin1_aae02 14 = .ok (.goto 4, 3) := by decide +kernel
theorem dJ0_isLatin1_aae02_17 : decode cJ0_isLatin1_aae02 17 = .ok (.iconst 0, 1) := by decide +kernel
theorem dJ0_isLatin1_aae02_18 : decode cJ0_isLatin1_aae02 18 = .ok (.ireturn, 1) := by decide +kernel
theorem dJ0_checkIndex_df160_0 : decode cJ0_checkIndex_df160 0 = .ok (.iload_n 0, 1) := by decide +kernel
theorem dJ0_checkIndex_df160_1 : decode cJ0_checkIndex_df160 1 = .ok (.iload_n 1, 1) := by decide +kernel
theorem dJ0_checkIndex_df160_2 : decode cJ0_checkIndex_df160 2 = .ok (.getstatic 1053, 3) := by decide +kernel
theorem dJ0_checkIndex_df160_5 : decode cJ0_checkIndex_df160 5 = .ok (.invokestatic 1059, 3) := by decide +kernel
theorem dJ0_checkIndex_df160_8 : decode cJ0_checkIndex_df160 8 = .ok (.pop, 1) := by decide +kernel
theorem dJ0_checkIndex_df160_9 : decode cJ0_checkIndex_df160 9 = .ok (.return_, 1) := by decide +kernel
theorem dJ1_charAt_3b067_0 : decode cJ1_charAt_3b067 0 = .ok (.iload_n 1, 1) := by decide +kernel
theorem dJ1_charAt_3b067_1 : decode cJ1_charAt_3b067 1 = .ok (.aload_n 0, 1) := by decide +kernel
theorem dJ1_charAt_3b067_2 : decode cJ1_charAt_3b067 2 = .ok (.arraylength, 1) := by decide +kernel
theorem dJ1_charAt_3b067_3 : decode cJ1_charAt_3b067 3 = .ok (.invokestatic 9, 3) := by decide +kernel
theorem dJ1_charAt_3b067_6 : decode cJ1_charAt_3b067 6 = .ok (.aload_n 0, 1) := by decide +kernel
theorem dJ1_charAt_3b067_7 : decode cJ1_charAt_3b067 7 = .ok (.iload_n 1, 1) := by decide +kernel
theorem dJ1_charAt_3b067_8 : decode cJ1_charAt_3b067 8 = .ok (.baload, 1) := by decide +kernel
theorem dJ1_charAt_3b067_9 : decode cJ1_charAt_3b067 9 = .ok (.sipush 255, 3) := by decide +kernel
theorem dJ1_charAt_3b067_12 : decode cJ1_charAt_3b067 12 = .ok (.iand, 1) := by decide +kernel
theorem dJ1_charAt_3b067_13 : decode cJ1_charAt_3b067 13 = .ok (.i2c, 1) := by decide +kernel
theorem dJ1_charAt_3b067_14 : decode cJ1_charAt_3b067 14 = .ok (.ireturn, 1) := by decide +kernel
theorem dJ3_checkIndex_8e157_0 : decode cJ3_checkIndex_8e157 0 = .ok (.iload_n 0, 1) := by decide +kernel
theorem dJ3_checkIndex_8e157_1 : decode cJ3_checkIndex_8e157 1 = .ok (.ifCond .lt 8, 3) := by decide +kernel
theorem dJ3_checkIndex_8e157_4 : decode cJ3_checkIndex_8e157 4 = .ok (.iload_n 0, 1) := by decide +kernel
theorem dJ3_checkIndex_8e157_5 : decode cJ3_checkIndex_8e157 5 = .ok (.iload_n 1, 1) := by decide +kernel
theorem dJ3_checkIndex_8e157_6 : decode cJ3_checkIndex_8e157 6 = .ok (.if_icmp .lt 10, 3) := by decide +kernel
theorem dJ3_checkIndex_8e157_9 : decode cJ3_checkIndex_8e157 9 = .ok (.aload_n 2, 1) := by decide +kernel
theorem dJ3_checkIndex_8e157_10 : decode cJ3_checkIndex_8e157 10 = .ok (.iload_n 0, 1) := by decide +kernel
theorem dJ3_checkIndex_8e157_11 : decode cJ3_checkIndex_8e157 11 = .ok (.iload_n 1, 1) := by decide +kernel
theorem dJ3_checkIndex_8e157_12 : decode cJ3_checkIndex_8e157 12 = .ok (.invokestatic 95, 3) := by decide +kernel
theorem dJ3_checkIndex_8e157_15 : decode cJ3_checkIndex_8e157 15 = .ok (.athrow, 1) := by decide +kernel
theorem dJ3_checkIndex_8e157_16 : decode cJ3_checkIndex_8e157 16 = .ok (.iload_n 0, 1) := by decide +kernel
theorem dJ3_checkIndex_8e157_17 : decode cJ3_checkIndex_8e157 17 = .ok (.ireturn, 1) := by decide +kernel
theorem dL_law_0 : decode cL_law 0 = .ok (.new 7, 3) := by decide +kernel
theorem dL_law_3 : decode cL_law 3 = .ok (.dup, 1) := by decide +kernel
theorem dL_law_4 : decode cL_law 4 = .ok (.invokespecial 9, 3) := by decide +kernel
theorem dL_law_7 : decode cL_law 7 = .ok (.astore_n 1, 1) := by decide +kernel
theorem dL_law_8 : decode cL_law 8 = .ok (.new 10, 3) := by decide +kernel
theorem dL_law_11 : decode cL_law 11 = .ok (.dup, 1) := by decide +kernel
theorem dL_law_12 : decode cL_law 12 = .ok (.invokespecial 12, 3) := by decide +kernel
theorem dL_law_15 : decode cL_law 15 = .ok (.astore_n 2, 1) := by decide +kernel
theorem dL_law_16 : decode cL_law 16 = .ok (.iconst 0, 1) := by decide +kernel
theorem dL_law_17 : decode cL_law 17 = .ok (.istore_n 3, 1) := by decide +kernel
theorem dL_law_18 : decode cL_law 18 = .ok (.iload_n 3, 1) := by decide +kernel
theorem dL_law_19 : decode cL_law 19 = .ok (.aload_n 0, 1) := by decide +kernel
theorem dL_law_20 : decode cL_law 20 = .ok (.arraylength, 1) := by decide +kernel
theorem dL_law_21 : decode cL_law 21 = .ok (.bipush 6, 2) := by decide +kernel
theorem dL_law_23 : decode cL_law 23 = .ok (.isub, 1) := by decide +kernel
theorem dL_law_24 : decode cL_law 24 = .ok (.if_icmp .gt 692, 3) := by decide +kernel
theorem dL_law_27 : decode cL_law 27 = .ok (.aload_n 0, 1) := by decide +kernel
theorem dL_law_28 : decode cL_law 28 = .ok (.iload_n 3, 1) := by decide +kernel
theorem dL_law_29 : decode cL_law 29 = .ok (.iaload, 1) := by decide +kernel
theorem dL_law_30 : decode cL_law 30 = .ok (.bipush 31, 2) := by decide +kernel
theorem dL_law_32 : decode cL_law 32 = .ok (.iand, 1) := by decide +kernel
theorem dL_law_33 : decode cL_law 33 = .ok (.tableswitch 677 0 17 #[87, 150, 173, 212, 245, 268, 291, 324, 347, 380, 403, 436, 479, 522, 555, 598, 631, 654], 87) := by decide +kernel
theorem dL_law_120 : decode cL_law 120 = .ok (.aload_n 1, 1) := by decide +kernel
theorem dL_law_121 : decode cL_law 121 = .ok (.aload_n 0, 1) := by decide +kernel
theorem dL_law_122 : decode cL_law 122 = .ok (.iload_n 3, 1) := by decide +kernel
theorem dL_law_123 : decode cL_law 123 = .ok (.iconst 1, 1) := by decide +kernel
theorem dL_law_124 : decode cL_law 124 = .ok (.iadd, 1) := by decide +kernel
theorem dL_law_125 : decode cL_law 125 = .ok (.iaload, 1) := by decide +kernel
theorem dL_law_126 : decode cL_law 126 = .ok (.aload_n 0, 1) := by decide +kernel
theorem dL_law_127 : decode cL_law 127 = .ok (.iload_n 3, 1) := by decide +kernel
theorem dL_law_128 : decode cL_law 128 = .ok (.iconst 2, 1) := by decide +kernel
theorem dL_law_129 : decode cL_law 129 = .ok (.iadd, 1) := by decide +kernel
theorem dL_law_130 : decode cL_law 130 = .ok (.iaload, 1) := by decide +kernel
theorem dL_law_131 : decode cL_law 131 = .ok (.aload_n 0, 1) := by decide +kernel
theorem dL_law_132 : decode cL_law 132 = .ok (.iload_n 3, 1) := by decide +kernel
theorem dL_law_133 : decode cL_law 133 = .ok (.iconst 3, 1) := by decide +kernel
theorem dL_law_134 : decode cL_law 134 = .ok (.iadd, 1) := by decide +kernel
theorem dL_law_135 : decode cL_law 135 = .ok (.iaload, 1) := by decide +kernel
theorem dL_law_136 : decode cL_law 136 = .ok (.aload_n 0, 1) := by decide +kernel
theorem dL_law_137 : decode cL_law 137 = .ok (.iload_n 3, 1) := by decide +kernel
theorem dL_law_138 : decode cL_law 138 = .ok (.iconst 4, 1) := by decide +kernel
theorem dL_law_139 : decode cL_law 139 = .ok (.iadd, 1) := by decide +kernel
theorem dL_law_140 : decode cL_law 140 = .ok (.iaload, 1) := by decide +kernel
theorem dL_law_141 : decode cL_law 141 = .ok (.aload_n 0, 1) := by decide +kernel
theorem dL_law_142 : decode cL_law 142 = .ok (.iload_n 3, 1) := by decide +kernel
theorem dL_law_143 : decode cL_law 143 = .ok (.iconst 5, 1) := by decide +kernel
theorem dL_law_144 : decode cL_law 144 = .ok (.iadd, 1) := by decide +kernel
theorem dL_law_145 : decode cL_law 145 = .ok (.iaload, 1) := by decide +kernel
theorem dL_law_146 : decode cL_law 146 = .ok (.invokevirtual 13, 3) := by decide +kernel
theorem dL_law_149 : decode cL_law 149 = .ok (.aload_n 2, 1) := by decide +kernel
theorem dL_law_150 : decode cL_law 150 = .ok (.aload_n 0, 1) := by decide +kernel
theorem dL_law_151 : decode cL_law 151 = .ok (.iload_n 3, 1) := by decide +kernel
theorem dL_law_152 : decode cL_law 152 = .ok (.iconst 1, 1) := by decide +kernel
theorem dL_law_153 : decode cL_law 153 = .ok (.iadd, 1) := by decide +kernel
theorem dL_law_154 : decode cL_law 154 = .ok (.iaload, 1) := by decide +kernel
theorem dL_law_155 : decode cL_law 155 = .ok (.aload_n 0, 1) := by decide +kernel
theorem dL_law_156 : decode cL_law 156 = .ok (.iload_n 3, 1) := by decide +kernel
theorem dL_law_157 : decode cL_law 157 = .ok (.iconst 2, 1) := by decide +kernel
theorem dL_law_158 : decode cL_law 158 = .ok (.iadd, 1) := by decide +kernel
theorem dL_law_159 : decode cL_law 159 = .ok (.iaload, 1) := by decide +kernel
theorem dL_law_160 : decode cL_law 160 = .ok (.aload_n 0, 1) := by decide +kernel
theorem dL_law_161 : decode cL_law 161 = .ok (.iload_n 3, 1) := by decide +kernel
theorem dL_law_162 : decode cL_law 162 = .ok (.iconst 3, 1) := by decide +kernel
theorem dL_law_163 : decode cL_law 163 = .ok (.iadd, 1) := by decide +kernel
theorem dL_law_164 : decode cL_law 164 = .ok (.iaload, 1) := by decide +kernel
theorem dL_law_165 : decode cL_law 165 = .ok (.aload_n 0, 1) := by decide +kernel
theorem dL_law_166 : decode cL_law 166 = .ok (.iload_n 3, 1) := by decide +kernel
theorem dL_law_167 : decode cL_law 167 = .ok (.iconst 4, 1) := by decide +kernel
theorem dL_law_168 : decode cL_law 168 = .ok (.iadd, 1) := by decide +kernel
theorem dL_law_169 : decode cL_law 169 = .ok (.iaload, 1) := by decide +kernel
theorem dL_law_170 : decode cL_law 170 = .ok (.aload_n 0, 1) := by decide +kernel
theorem dL_law_171 : decode cL_law 171 = .ok (.iload_n 3, 1) := by decide +kernel
theorem dL_law_172 : decode cL_law 172 = .ok (.iconst 5, 1) := by decide +kernel
theorem dL_law_173 : decode cL_law 173 = .ok (.iadd, 1) := by decide +kernel
theorem dL_law_174 : decode cL_law 174 = .ok (.iaload, 1) := by decide +kernel
theorem dL_law_175 : decode cL_law 175 = .ok (.invokevirtual 17, 3) := by decide +kernel
theorem dL_law_178 : decode cL_law 178 = .ok (.if_icmp .eq 532, 3) := by decide +kernel
theorem dL_law_181 : decode cL_law 181 = .ok (.iconst 0, 1) := by decide +kernel
theorem dL_law_182 : decode cL_law 182 = .ok (.ireturn, 1) := by decide +kernel
theorem dL_law_183 : decode cL_law 183 = .ok (.aload_n 1, 1) := by decide +kernel
theorem dL_law_184 : decode cL_law 184 = .ok (.aload_n 0, 1) := by decide +kernel
theorem dL_law_185 : decode cL_law 185 = .ok (.iload_n 3, 1) := by decide +kernel
theorem dL_law_186 : decode cL_law 186 = .ok (.iconst 1, 1) := by decide +kernel
theorem dL_law_187 : decode cL_law 187 = .ok (.iadd, 1) := by decide +kernel
theorem dL_law_188 : decode cL_law 188 = .ok (.iaload, 1) := by decide +kernel
theorem dL_law_189 : decode cL_law 189 = .ok (.invokevirtual 18, 3) := by decide +kernel
theorem dL_law_192 : decode cL_law 192 = .ok (.aload_n 2, 1) := by decide +kernel
theorem dL_law_193 : decode cL_law 193 = .ok (.aload_n 0, 1) := by decide +kernel
theorem dL_law_194 : decode cL_law 194 = .ok (.iload_n 3, 1) := by decide +kernel
theorem dL_law_195 : decode cL_law 195 = .ok (.iconst 1, 1) := by decide +kernel
theorem dL_law_196 : decode cL_law 196 = .ok (.iadd, 1) := by decide +kernel
theorem dL_law_197 : decode cL_law 197 = .ok (.iaload, 1) := by decide +kernel
theorem dL_law_198 : decode cL_law 198 = .ok (.invokevirtual 22, 3) := by decide +kernel
theorem dL_law_201 : decode cL_law 201 = .ok (.if_icmp .eq 509, 3) := by decide +kernel
theorem dL_law_204 : decode cL_law 204 = .ok (.iconst 0, 1) := by decide +kernel
theorem dL_law_205 : decode cL_law 205 = .ok (.ireturn, 1) := by decide +kernel
theorem dL_law_206 : decode cL_law 206 = .ok (.aload_n 1, 1) := by decide +kernel
theorem dL_law_207 : decode cL_law 207 = .ok (.aload_n 0, 1) := by decide +kernel
theorem dL_law_208 : decode cL_law 208 = .ok (.iload_n 3, 1) := by decide +kernel
theorem dL_law_209 : decode cL_law 209 = .ok (.iconst 1, 1) := by decide +kernel
theorem dL_law_210 : decode cL_law 210 = .ok (.iadd, 1) := by decide +kernel
theorem dL_law_211 : decode cL_law 211 = .ok (.iaload, 1) := by decide +kernel
theorem dL_law_212 : decode cL_law 212 = .ok (.ifCond .eq 7, 3) := by decide +kernel
theorem dL_law_215 : decode cL_law 215 = .ok (.iconst 1, 1) := by decide +kernel
theorem dL_law_216 : decode cL_law 216 = .ok (.goto 4, 3) := by decide +kernel
theorem dL_law_219 : decode cL_law 219 = .ok (.iconst 0, 1) := by decide +kernel
theorem dL_law_220 : decode cL_law 220 = .ok (.invokevirtual 23, 3) := by decide +kernel
theorem dL_law_223 : decode cL_law 223 = .ok (.aload_n 2, 1) := by decide +kernel
theorem dL_law_224 : decode cL_law 224 = .ok (.aload_n 0, 1) := by decide +kernel
theorem dL_law_225 : decode cL_law 225 = .ok (.iload_n 3, 1) := by decide +kernel
theorem dL_law_226 : decode cL_law 226 = .ok (.iconst 1, 1) := by decide +kernel
theorem dL_law_227 : decode cL_law 227 = .ok (.iadd, 1) := by decide +kernel
theorem dL_law_228 : decode cL_law 228 = .ok (.iaload, 1) := by decide +kernel
theorem dL_law_229 : decode cL_law 229 = .ok (.ifCond .eq 7, 3) := by decide +kernel
theorem dL_law_232 : decode cL_law 232 = .ok (.iconst 1, 1) := by decide +kernel
theorem dL_law_233 : decode cL_law 233 = .ok (.goto 4, 3) := by decide +kernel
theorem dL_law_236 : decode cL_law 236 = .ok (.iconst 0, 1) := by decide +kernel
theorem dL_law_237 : decode cL_law 237 = .ok (.invokevirtual 27, 3) := by decide +kernel
theorem dL_law_240 : decode cL_law 240 = .ok (.if_icmp .eq 470, 3) := by decide +kernel
theorem dL_law_243 : decode cL_law 243 = .ok (.iconst 0, 1) := by decide +kernel
theorem dL_law_244 : decode cL_law 244 = .ok (.ireturn, 1) := by decide +kernel
theorem dL_law_245 : decode cL_law 245 = .ok (.aload_n 1, 1) := by decide +kernel
theorem dL_law_246 : decode cL_law 246 = .ok (.aload_n 0, 1) := by decide +kernel
theorem dL_law_247 : decode cL_law 247 = .ok (.iload_n 3, 1) := by decide +kernel
theorem dL_law_248 : decode cL_law 248 = .ok (.iconst 1, 1) := by decide +kernel
theorem dL_law_249 : decode cL_law 249 = .ok (.iadd, 1) := by decide +kernel
theorem dL_law_250 : decode cL_law 250 = .ok (.iaload, 1) := by decide +kernel
theorem dL_law_251 : decode cL_law 251 = .ok (.aload_n 0, 1) := by decide +kernel
theorem dL_law_252 : decode cL_law 252 = .ok (.iload_n 3, 1) := by decide +kernel
theorem dL_law_253 : decode cL_law 253 = .ok (.iconst 2, 1) := by decide +kernel
theorem dL_law_254 : decode cL_law 254 = .ok (.iadd, 1) := by decide +kernel
theorem dL_law_255 : decode cL_law 255 = .ok (.iaload, 1) := by decide +kernel
theorem dL_law_256 : decode cL_law 256 = .ok (.invokevirtual 28, 3) := by decide +kernel
theorem dL_law_259 : decode cL_law 259 = .ok (.aload_n 2, 1) := by decide +kernel
theorem dL_law_260 : decode cL_law 260 = .ok (.aload_n 0, 1) := by decide +kernel
theorem dL_law_261 : decode cL_law 261 = .ok (.iload_n 3, 1) := by decide +kernel
theorem dL_law_262 : decode cL_law 262 = .ok (.iconst 1, 1) := by decide +kernel
theorem dL_law_263 : decode cL_law 263 = .ok (.iadd, 1) := by decide +kernel
theorem dL_law_264 : decode cL_law 264 = .ok (.iaload, 1) := by decide +kernel
theorem dL_law_265 : decode cL_law 265 = .ok (.aload_n 0, 1) := by decide +kernel
theorem dL_law_266 : decode cL_law 266 = .ok (.iload_n 3, 1) := by decide +kernel
theorem dL_law_267 : decode cL_law 267 = .ok (.iconst 2, 1) := by decide +kernel
theorem dL_law_268 : decode cL_law 268 = .ok (.iadd, 1) := by decide +kernel
theorem dL_law_269 : decode cL_law 269 = .ok (.iaload, 1) := by decide +kernel
theorem dL_law_270 : decode cL_law 270 = .ok (.invokevirtual 32, 3) := by decide +kernel
theorem dL_law_273 : decode cL_law 273 = .ok (.if_icmp .eq 437, 3) := by decide +kernel
theorem dL_law_276 : decode cL_law 276 = .ok (.iconst 0, 1) := by decide +kernel
theorem dL_law_277 : decode cL_law 277 = .ok (.ireturn, 1) := by decide +kernel
theorem dL_law_278 : decode cL_law 278 = .ok (.aload_n 1, 1) := by decide +kernel
theorem dL_law_279 : decode cL_law 279 = .ok (.aload_n 0, 1) := by decide +kernel
theorem dL_law_280 : decode cL_law 280 = .ok (.iload_n 3, 1) := by decide +kernel
theorem dL_law_281 : decode cL_law 281 = .ok (.iconst 1, 1) := by decide +kernel
theorem dL_law_282 : decode cL_law 282 = .ok (.iadd, 1) := by decide +kernel
theorem dL_law_283 : decode cL_law 283 = .ok (.iaload, 1) := by decide +kernel
theorem dL_law_284 : decode cL_law 284 = .ok (.invokevirtual 33, 3) := by decide +kernel
theorem dL_law_287 : decode cL_law 287 = .ok (.aload_n 2, 1) := by decide +kernel
theorem dL_law_288 : decode cL_law 288 = .ok (.aload_n 0, 1) := by decide +kernel
theorem dL_law_289 : decode cL_law 289 = .ok (.iload_n 3, 1) := by decide +kernel
theorem dL_law_290 : decode cL_law 290 = .ok (.iconst 1, 1) := by decide +kernel
theorem dL_law_291 : decode cL_law 291 = .ok (.iadd, 1) := by decide +kernel
theorem dL_law_292 : decode cL_law 292 = .ok (.iaload, 1) := by decide +kernel
theorem dL_law_293 : decode cL_law 293 = .ok (.invokevirtual 37, 3) := by decide +kernel
theorem dL_law_296 : decode cL_law 296 = .ok (.if_icmp .eq 414, 3) := by decide +kernel
theorem dL_law_299 : decode cL_law 299 = .ok (.iconst 0, 1) := by decide +kernel
theorem dL_law_300 : decode cL_law 300 = .ok (.ireturn, 1) := by decide +kernel
theorem dL_law_301 : decode cL_law 301 = .ok (.aload_n 1, 1) := by decide +kernel
theorem dL_law_302 : decode cL_law 302 = .ok (.aload_n 0, 1) := by decide +kernel
theorem dL_law_303 : decode cL_law 303 = .ok (.iload_n 3, 1) := by decide +kernel
theorem dL_law_304 : decode cL_law 304 = .ok (.iconst 1, 1) := by decide +kernel
theorem dL_law_305 : decode cL_law 305 = .ok (.iadd, 1) := by decide +kernel
theorem dL_law_306 : decode cL_law 306 = .ok (.iaload, 1) := by decide +kernel
theorem dL_law_307 : decode cL_law 307 = .ok (.invokevirtual 38, 3) := by decide +kernel
theorem dL_law_310 : decode cL_law 310 = .ok (.aload_n 2, 1) := by decide +kernel
theorem dL_law_311 : decode cL_law 311 = .ok (.aload_n 0, 1) := by decide +kernel
theorem dL_law_312 : decode cL_law 312 = .ok (.iload_n 3, 1) := by decide +kernel
theorem dL_law_313 : decode cL_law 313 = .ok (.iconst 1, 1) := by decide +kernel
theorem dL_law_314 : decode cL_law 314 = .ok (.iadd, 1) := by decide +kernel
theorem dL_law_315 : decode cL_law 315 = .ok (.iaload, 1) := by decide +kernel
theorem dL_law_316 : decode cL_law 316 = .ok (.invokevirtual 41, 3) := by decide +kernel
theorem dL_law_319 : decode cL_law 319 = .ok (.if_icmp .eq 391, 3) := by decide +kernel
theorem dL_law_322 : decode cL_law 322 = .ok (.iconst 0, 1) := by decide +kernel
theorem dL_law_323 : decode cL_law 323 = .ok (.ireturn, 1) := by decide +kernel
theorem dL_law_324 : decode cL_law 324 = .ok (.aload_n 1, 1) := by decide +kernel
theorem dL_law_325 : decode cL_law 325 = .ok (.aload_n 0, 1) := by decide +kernel
theorem dL_law_326 : decode cL_law 326 = .ok (.iload_n 3, 1) := by decide +kernel
theorem dL_law_327 : decode cL_law 327 = .ok (.iconst 1, 1) := by decide +kernel
theorem dL_law_328 : decode cL_law 328 = .ok (.iadd, 1) := by decide +kernel
theorem dL_law_329 : decode cL_law 329 = .ok (.iaload, 1) := by decide +kernel
theorem dL_law_330 : decode cL_law 330 = .ok (.aload_n 0, 1) := by decide +kernel
theorem dL_law_331 : decode cL_law 331 = .ok (.iload_n 3, 1) := by decide +kernel
theorem dL_law_332 : decode cL_law 332 = .ok (.iconst 2, 1) := by decide +kernel
theorem dL_law_333 : decode cL_law 333 = .ok (.iadd, 1) := by decide +kernel
theorem dL_law_334 : decode cL_law 334 = .ok (.iaload, 1) := by decide +kernel
theorem dL_law_335 : decode cL_law 335 = .ok (.invokevirtual 42, 3) := by decide +kernel
theorem dL_law_338 : decode cL_law 338 = .ok (.aload_n 2, 1) := by decide +kernel
theorem dL_law_339 : decode cL_law 339 = .ok (.aload_n 0, 1) := by decide +kernel
theorem dL_law_340 : decode cL_law 340 = .ok (.iload_n 3, 1) := by decide +kernel
theorem dL_law_341 : decode cL_law 341 = .ok (.iconst 1, 1) := by decide +kernel
theorem dL_law_342 : decode cL_law 342 = .ok (.iadd, 1) := by decide +kernel
theorem dL_law_343 : decode cL_law 343 = .ok (.iaload, 1) := by decide +kernel
theorem dL_law_344 : decode cL_law 344 = .ok (.aload_n 0, 1) := by decide +kernel
theorem dL_law_345 : decode cL_law 345 = .ok (.iload_n 3, 1) := by decide +kernel
theorem dL_law_346 : decode cL_law 346 = .ok (.iconst 2, 1) := by decide +kernel
theorem dL_law_347 : decode cL_law 347 = .ok (.iadd, 1) := by decide +kernel
theorem dL_law_348 : decode cL_law 348 = .ok (.iaload, 1) := by decide +kernel
theorem dL_law_349 : decode cL_law 349 = .ok (.invokevirtual 46, 3) := by decide +kernel
theorem dL_law_352 : decode cL_law 352 = .ok (.if_icmp .eq 358, 3) := by decide +kernel
theorem dL_law_355 : decode cL_law 355 = .ok (.iconst 0, 1) := by decide +kernel
theorem dL_law_356 : decode cL_law 356 = .ok (.ireturn, 1) := by decide +kernel
theorem dL_law_357 : decode cL_law 357 = .ok (.aload_n 1, 1) := by decide +kernel
theorem dL_law_358 : decode cL_law 358 = .ok (.aload_n 0, 1) := by decide +kernel
theorem dL_law_359 : decode cL_law 359 = .ok (.iload_n 3, 1) := by decide +kernel
theorem dL_law_360 : decode cL_law 360 = .ok (.iconst 1, 1) := by decide +kernel
theorem dL_law_361 : decode cL_law 361 = .ok (.iadd, 1) := by decide +kernel
theorem dL_law_362 : decode cL_law 362 = .ok (.iaload, 1) := by decide +kernel
theorem dL_law_363 : decode cL_law 363 = .ok (.invokevirtual 47, 3) := by decide +kernel
theorem dL_law_366 : decode cL_law 366 = .ok (.aload_n 2, 1) := by decide +kernel
theorem dL_law_367 : decode cL_law 367 = .ok (.aload_n 0, 1) := by decide +kernel
theorem dL_law_368 : decode cL_law 368 = .ok (.iload_n 3, 1) := by decide +kernel
theorem dL_law_369 : decode cL_law 369 = .ok (.iconst 1, 1) := by decide +kernel
theorem dL_law_370 : decode cL_law 370 = .ok (.iadd, 1) := by decide +kernel
theorem dL_law_371 : decode cL_law 371 = .ok (.iaload, 1) := by decide +kernel
theorem dL_law_372 : decode cL_law 372 = .ok (.invokevirtual 50, 3) := by decide +kernel
theorem dL_law_375 : decode cL_law 375 = .ok (.if_icmp .eq 335, 3) := by decide +kernel
theorem dL_law_378 : decode cL_law 378 = .ok (.iconst 0, 1) := by decide +kernel
theorem dL_law_379 : decode cL_law 379 = .ok (.ireturn, 1) := by decide +kernel
theorem dL_law_380 : decode cL_law 380 = .ok (.aload_n 1, 1) := by decide +kernel
theorem dL_law_381 : decode cL_law 381 = .ok (.aload_n 0, 1) := by decide +kernel
theorem dL_law_382 : decode cL_law 382 = .ok (.iload_n 3, 1) := by decide +kernel
theorem dL_law_383 : decode cL_law 383 = .ok (.iconst 1, 1) := by decide +kernel
theorem dL_law_384 : decode cL_law 384 = .ok (.iadd, 1) := by decide +kernel
theorem dL_law_385 : decode cL_law 385 = .ok (.iaload, 1) := by decide +kernel
theorem dL_law_386 : decode cL_law 386 = .ok (.aload_n 0, 1) := by decide +kernel
theorem dL_law_387 : decode cL_law 387 = .ok (.iload_n 3, 1) := by decide +kernel
theorem dL_law_388 : decode cL_law 388 = .ok (.iconst 2, 1) := by decide +kernel
theorem dL_law_389 : decode cL_law 389 = .ok (.iadd, 1) := by decide +kernel
theorem dL_law_390 : decode cL_law 390 = .ok (.iaload, 1) := by decide +kernel
theorem dL_law_391 : decode cL_law 391 = .ok (.invokevirtual 51, 3) := by decide +kernel
theorem dL_law_394 : decode cL_law 394 = .ok (.aload_n 2, 1) := by decide +kernel
theorem dL_law_395 : decode cL_law 395 = .ok (.aload_n 0, 1) := by decide +kernel
theorem dL_law_396 : decode cL_law 396 = .ok (.iload_n 3, 1) := by decide +kernel
theorem dL_law_397 : decode cL_law 397 = .ok (.iconst 1, 1) := by decide +kernel
theorem dL_law_398 : decode cL_law 398 = .ok (.iadd, 1) := by decide +kernel
theorem dL_law_399 : decode cL_law 399 = .ok (.iaload, 1) := by decide +kernel
theorem dL_law_400 : decode cL_law 400 = .ok (.aload_n 0, 1) := by decide +kernel
theorem dL_law_401 : decode cL_law 401 = .ok (.iload_n 3, 1) := by decide +kernel
theorem dL_law_402 : decode cL_law 402 = .ok (.iconst 2, 1) := by decide +kernel
theorem dL_law_403 : decode cL_law 403 = .ok (.iadd, 1) := by decide +kernel
theorem dL_law_404 : decode cL_law 404 = .ok (.iaload, 1) := by decide +kernel
theorem dL_law_405 : decode cL_law 405 = .ok (.invokevirtual 54, 3) := by decide +kernel
theorem dL_law_408 : decode cL_law 408 = .ok (.if_icmp .eq 302, 3) := by decide +kernel
theorem dL_law_411 : decode cL_law 411 = .ok (.iconst 0, 1) := by decide +kernel
theorem dL_law_412 : decode cL_law 412 = .ok (.ireturn, 1) := by decide +kernel
theorem dL_law_413 : decode cL_law 413 = .ok (.aload_n 1, 1) := by decide +kernel
theorem dL_law_414 : decode cL_law 414 = .ok (.aload_n 0, 1) := by decide +kernel
theorem dL_law_415 : decode cL_law 415 = .ok (.iload_n 3, 1) := by decide +kernel
theorem dL_law_416 : decode cL_law 416 = .ok (.iconst 1, 1) := by decide +kernel
theorem dL_law_417 : decode cL_law 417 = .ok (.iadd, 1) := by decide +kernel
theorem dL_law_418 : decode cL_law 418 = .ok (.iaload, 1) := by decide +kernel
theorem dL_law_419 : decode cL_law 419 = .ok (.invokevirtual 55, 3) := by decide +kernel
theorem dL_law_422 : decode cL_law 422 = .ok (.aload_n 2, 1) := by decide +kernel
theorem dL_law_423 : decode cL_law 423 = .ok (.aload_n 0, 1) := by decide +kernel
theorem dL_law_424 : decode cL_law 424 = .ok (.iload_n 3, 1) := by decide +kernel
theorem dL_law_425 : decode cL_law 425 = .ok (.iconst 1, 1) := by decide +kernel
theorem dL_law_426 : decode cL_law 426 = .ok (.iadd, 1) := by decide +kernel
theorem dL_law_427 : decode cL_law 427 = .ok (.iaload, 1) := by decide +kernel
theorem dL_law_428 : decode cL_law 428 = .ok (.invokevirtual 58, 3) := by decide +kernel
theorem dL_law_431 : decode cL_law 431 = .ok (.if_icmp .eq 279, 3) := by decide +kernel
theorem dL_law_434 : decode cL_law 434 = .ok (.iconst 0, 1) := by decide +kernel
theorem dL_law_435 : decode cL_law 435 = .ok (.ireturn, 1) := by decide +kernel
theorem dL_law_436 : decode cL_law 436 = .ok (.aload_n 1, 1) := by decide +kernel
theorem dL_law_437 : decode cL_law 437 = .ok (.aload_n 0, 1) := by decide +kernel
theorem dL_law_438 : decode cL_law 438 = .ok (.iload_n 3, 1) := by decide +kernel
theorem dL_law_439 : decode cL_law 439 = .ok (.iconst 1, 1) := by decide +kernel
theorem dL_law_440 : decode cL_law 440 = .ok (.iadd, 1) := by decide +kernel
theorem dL_law_441 : decode cL_law 441 = .ok (.iaload, 1) := by decide +kernel
theorem dL_law_442 : decode cL_law 442 = .ok (.aload_n 0, 1) := by decide +kernel
theorem dL_law_443 : decode cL_law 443 = .ok (.iload_n 3, 1) := by decide +kernel
theorem dL_law_444 : decode cL_law 444 = .ok (.iconst 2, 1) := by decide +kernel
theorem dL_law_445 : decode cL_law 445 = .ok (.iadd, 1) := by decide +kernel
theorem dL_law_446 : decode cL_law 446 = .ok (.iaload, 1) := by decide +kernel
theorem dL_law_447 : decode cL_law 447 = .ok (.invokevirtual 59, 3) := by decide +kernel
theorem dL_law_450 : decode cL_law 450 = .ok (.aload_n 2, 1) := by decide +kernel
theorem dL_law_451 : decode cL_law 451 = .ok (.aload_n 0, 1) := by decide +kernel
theorem dL_law_452 : decode cL_law 452 = .ok (.iload_n 3, 1) := by decide +kernel
theorem dL_law_453 : decode cL_law 453 = .ok (.iconst 1, 1) := by decide +kernel
theorem dL_law_454 : decode cL_law 454 = .ok (.iadd, 1) := by decide +kernel
theorem dL_law_455 : decode cL_law 455 = .ok (.iaload, 1) := by decide +kernel
theorem dL_law_456 : decode cL_law 456 = .ok (.aload_n 0, 1) := by decide +kernel
theorem dL_law_457 : decode cL_law 457 = .ok (.iload_n 3, 1) := by decide +kernel
theorem dL_law_458 : decode cL_law 458 = .ok (.iconst 2, 1) := by decide +kernel
theorem dL_law_459 : decode cL_law 459 = .ok (.iadd, 1) := by decide +kernel
theorem dL_law_460 : decode cL_law 460 = .ok (.iaload, 1) := by decide +kernel
theorem dL_law_461 : decode cL_law 461 = .ok (.invokevirtual 62, 3) := by decide +kernel
theorem dL_law_464 : decode cL_law 464 = .ok (.if_icmp .eq 246, 3) := by decide +kernel
theorem dL_law_467 : decode cL_law 467 = .ok (.iconst 0, 1) := by decide +kernel
theorem dL_law_468 : decode cL_law 468 = .ok (.ireturn, 1) := by decide +kernel
theorem dL_law_469 : decode cL_law 469 = .ok (.aload_n 1, 1) := by decide +kernel
theorem dL_law_470 : decode cL_law 470 = .ok (.aload_n 0, 1) := by decide +kernel
theorem dL_law_471 : decode cL_law 471 = .ok (.iload_n 3, 1) := by decide +kernel
theorem dL_law_472 : decode cL_law 472 = .ok (.iconst 1, 1) := by decide +kernel
theorem dL_law_473 : decode cL_law 473 = .ok (.iadd, 1) := by decide +kernel
theorem dL_law_474 : decode cL_law 474 = .ok (.iaload, 1) := by decide +kernel
theorem dL_law_475 : decode cL_law 475 = .ok (.aload_n 0, 1) := by decide +kernel
theorem dL_law_476 : decode cL_law 476 = .ok (.iload_n 3, 1) := by decide +kernel
theorem dL_law_477 : decode cL_law 477 = .ok (.iconst 2, 1) := by decide +kernel
theorem dL_law_478 : decode cL_law 478 = .ok (.iadd, 1) := by decide +kernel
theorem dL_law_479 : decode cL_law 479 = .ok (.iaload, 1) := by decide +kernel
theorem dL_law_480 : decode cL_law 480 = .ok (.aload_n 0, 1) := by decide +kernel
theorem dL_law_481 : decode cL_law 481 = .ok (.iload_n 3, 1) := by decide +kernel
theorem dL_law_482 : decode cL_law 482 = .ok (.iconst 3, 1) := by decide +kernel
theorem dL_law_483 : decode cL_law 483 = .ok (.iadd, 1) := by decide +kernel
theorem dL_law_484 : decode cL_law 484 = .ok (.iaload, 1) := by decide +kernel
theorem dL_law_485 : decode cL_law 485 = .ok (.invokevirtual 63, 3) := by decide +kernel
theorem dL_law_488 : decode cL_law 488 = .ok (.aload_n 2, 1) := by decide +kernel
theorem dL_law_489 : decode cL_law 489 = .ok (.aload_n 0, 1) := by decide +kernel
theorem dL_law_490 : decode cL_law 490 = .ok (.iload_n 3, 1) := by decide +kernel
theorem dL_law_491 : decode cL_law 491 = .ok (.iconst 1, 1) := by decide +kernel
theorem dL_law_492 : decode cL_law 492 = .ok (.iadd, 1) := by decide +kernel
theorem dL_law_493 : decode cL_law 493 = .ok (.iaload, 1) := by decide +kernel
theorem dL_law_494 : decode cL_law 494 = .ok (.aload_n 0, 1) := by decide +kernel
theorem dL_law_495 : decode cL_law 495 = .ok (.iload_n 3, 1) := by decide +kernel
theorem dL_law_496 : decode cL_law 496 = .ok (.iconst 2, 1) := by decide +kernel
theorem dL_law_497 : decode cL_law 497 = .ok (.iadd, 1) := by decide +kernel
theorem dL_law_498 : decode cL_law 498 = .ok (.iaload, 1) := by decide +kernel
theorem dL_law_499 : decode cL_law 499 = .ok (.aload_n 0, 1) := by decide +kernel
theorem dL_law_500 : decode cL_law 500 = .ok (.iload_n 3, 1) := by decide +kernel
theorem dL_law_501 : decode cL_law 501 = .ok (.iconst 3, 1) := by decide +kernel
theorem dL_law_502 : decode cL_law 502 = .ok (.iadd, 1) := by decide +kernel
theorem dL_law_503 : decode cL_law 503 = .ok (.iaload, 1) := by decide +kernel
theorem dL_law_504 : decode cL_law 504 = .ok (.invokevirtual 67, 3) := by decide +kernel
theorem dL_law_507 : decode cL_law 507 = .ok (.if_icmp .eq 203, 3) := by decide +kernel
theorem dL_law_510 : decode cL_law 510 = .ok (.iconst 0, 1) := by decide +kernel
theorem dL_law_511 : decode cL_law 511 = .ok (.ireturn, 1) := by decide +kernel
theorem dL_law_512 : decode cL_law 512 = .ok (.aload_n 1, 1) := by decide +kernel
theorem dL_law_513 : decode cL_law 513 = .ok (.aload_n 0, 1) := by decide +kernel
theorem dL_law_514 : decode cL_law 514 = .ok (.iload_n 3, 1) := by decide +kernel
theorem dL_law_515 : decode cL_law 515 = .ok (.iconst 1, 1) := by decide +kernel
theorem dL_law_516 : decode cL_law 516 = .ok (.iadd, 1) := by decide +kernel
theorem dL_law_517 : decode cL_law 517 = .ok (.iaload, 1) := by decide +kernel
theorem dL_law_518 : decode cL_law 518 = .ok (.aload_n 0, 1) := by decide +kernel
theorem dL_law_519 : decode cL_law 519 = .ok (.iload_n 3, 1) := by decide +kernel
theorem dL_law_520 : decode cL_law 520 = .ok (.iconst 2, 1) := by decide +kernel
theorem dL_law_521 : decode cL_law 521 = .ok (.iadd, 1) := by decide +kernel
theorem dL_law_522 : decode cL_law 522 = .ok (.iaload, 1) := by decide +kernel
theorem dL_law_523 : decode cL_law 523 = .ok (.aload_n 0, 1) := by decide +kernel
theorem dL_law_524 : decode cL_law 524 = .ok (.iload_n 3, 1) := by decide +kernel
theorem dL_law_525 : decode cL_law 525 = .ok (.iconst 3, 1) := by decide +kernel
theorem dL_law_526 : decode cL_law 526 = .ok (.iadd, 1) := by decide +kernel
theorem dL_law_527 : decode cL_law 527 = .ok (.iaload, 1) := by decide +kernel
theorem dL_law_528 : decode cL_law 528 = .ok (.invokevirtual 68, 3) := by decide +kernel
theorem dL_law_531 : decode cL_law 531 = .ok (.aload_n 2, 1) := by decide +kernel
theorem dL_law_532 : decode cL_law 532 = .ok (.aload_n 0, 1) := by decide +kernel
theorem dL_law_533 : decode cL_law 533 = .ok (.iload_n 3, 1) := by decide +kernel
theorem dL_law_534 : decode cL_law 534 = .ok (.iconst 1, 1) := by decide +kernel
theorem dL_law_535 : decode cL_law 535 = .ok (.iadd, 1) := by decide +kernel
theorem dL_law_536 : decode cL_law 536 = .ok (.iaload, 1) := by decide +kernel
theorem dL_law_537 : decode cL_law 537 = .ok (.aload_n 0, 1) := by decide +kernel
theorem dL_law_538 : decode cL_law 538 = .ok (.iload_n 3, 1) := by decide +kernel
theorem dL_law_539 : decode cL_law 539 = .ok (.iconst 2, 1) := by decide +kernel
theorem dL_law_540 : decode cL_law 540 = .ok (.iadd, 1) := by decide +kernel
theorem dL_law_541 : decode cL_law 541 = .ok (.iaload, 1) := by decide +kernel
theorem dL_law_542 : decode cL_law 542 = .ok (.aload_n 0, 1) := by decide +kernel
theorem dL_law_543 : decode cL_law 543 = .ok (.iload_n 3, 1) := by decide +kernel
theorem dL_law_544 : decode cL_law 544 = .ok (.iconst 3, 1) := by decide +kernel
theorem dL_law_545 : decode cL_law 545 = .ok (.iadd, 1) := by decide +kernel
theorem dL_law_546 : decode cL_law 546 = .ok (.iaload, 1) := by decide +kernel
theorem dL_law_547 : decode cL_law 547 = .ok (.invokevirtual 72, 3) := by decide +kernel
theorem dL_law_550 : decode cL_law 550 = .ok (.if_icmp .eq 160, 3) := by decide +kernel
theorem dL_law_553 : decode cL_law 553 = .ok (.iconst 0, 1) := by decide +kernel
theorem dL_law_554 : decode cL_law 554 = .ok (.ireturn, 1) := by decide +kernel
theorem dL_law_555 : decode cL_law 555 = .ok (.aload_n 1, 1) := by decide +kernel
theorem dL_law_556 : decode cL_law 556 = .ok (.aload_n 0, 1) := by decide +kernel
theorem dL_law_557 : decode cL_law 557 = .ok (.iload_n 3, 1) := by decide +kernel
theorem dL_law_558 : decode cL_law 558 = .ok (.iconst 1, 1) := by decide +kernel
theorem dL_law_559 : decode cL_law 559 = .ok (.iadd, 1) := by decide +kernel
theorem dL_law_560 : decode cL_law 560 = .ok (.iaload, 1) := by decide +kernel
theorem dL_law_561 : decode cL_law 561 = .ok (.aload_n 0, 1) := by decide +kernel
theorem dL_law_562 : decode cL_law 562 = .ok (.iload_n 3, 1) := by decide +kernel
theorem dL_law_563 : decode cL_law 563 = .ok (.iconst 2, 1) := by decide +kernel
theorem dL_law_564 : decode cL_law 564 = .ok (.iadd, 1) := by decide +kernel
theorem dL_law_565 : decode cL_law 565 = .ok (.iaload, 1) := by decide +kernel
theorem dL_law_566 : decode cL_law 566 = .ok (.invokevirtual 73, 3) := by decide +kernel
theorem dL_law_569 : decode cL_law 569 = .ok (.aload_n 2, 1) := by decide +kernel
theorem dL_law_570 : decode cL_law 570 = .ok (.aload_n 0, 1) := by decide +kernel
theorem dL_law_571 : decode cL_law 571 = .ok (.iload_n 3, 1) := by decide +kernel
theorem dL_law_572 : decode cL_law 572 = .ok (.iconst 1, 1) := by decide +kernel
theorem dL_law_573 : decode cL_law 573 = .ok (.iadd, 1) := by decide +kernel
theorem dL_law_574 : decode cL_law 574 = .ok (.iaload, 1) := by decide +kernel
theorem dL_law_575 : decode cL_law 575 = .ok (.aload_n 0, 1) := by decide +kernel
theorem dL_law_576 : decode cL_law 576 = .ok (.iload_n 3, 1) := by decide +kernel
theorem dL_law_577 : decode cL_law 577 = .ok (.iconst 2, 1) := by decide +kernel
theorem dL_law_578 : decode cL_law 578 = .ok (.iadd, 1) := by decide +kernel
theorem dL_law_579 : decode cL_law 579 = .ok (.iaload, 1) := by decide +kernel
theorem dL_law_580 : decode cL_law 580 = .ok (.invokevirtual 76, 3) := by decide +kernel
theorem dL_law_583 : decode cL_law 583 = .ok (.if_icmp .eq 127, 3) := by decide +kernel
theorem dL_law_586 : decode cL_law 586 = .ok (.iconst 0, 1) := by decide +kernel
theorem dL_law_587 : decode cL_law 587 = .ok (.ireturn, 1) := by decide +kernel
theorem dL_law_588 : decode cL_law 588 = .ok (.aload_n 1, 1) := by decide +kernel
theorem dL_law_589 : decode cL_law 589 = .ok (.aload_n 0, 1) := by decide +kernel
theorem dL_law_590 : decode cL_law 590 = .ok (.iload_n 3, 1) := by decide +kernel
theorem dL_law_591 : decode cL_law 591 = .ok (.iconst 1, 1) := by decide +kernel
theorem dL_law_592 : decode cL_law 592 = .ok (.iadd, 1) := by decide +kernel
theorem dL_law_593 : decode cL_law 593 = .ok (.iaload, 1) := by decide +kernel
theorem dL_law_594 : decode cL_law 594 = .ok (.aload_n 0, 1) := by decide +kernel
theorem dL_law_595 : decode cL_law 595 = .ok (.iload_n 3, 1) := by decide +kernel
theorem dL_law_596 : decode cL_law 596 = .ok (.iconst 2, 1) := by decide +kernel
theorem dL_law_597 : decode cL_law 597 = .ok (.iadd, 1) := by decide +kernel
theorem dL_law_598 : decode cL_law 598 = .ok (.iaload, 1) := by decide +kernel
theorem dL_law_599 : decode cL_law 599 = .ok (.aload_n 0, 1) := by decide +kernel
theorem dL_law_600 : decode cL_law 600 = .ok (.iload_n 3, 1) := by decide +kernel
theorem dL_law_601 : decode cL_law 601 = .ok (.iconst 3, 1) := by decide +kernel
theorem dL_law_602 : decode cL_law 602 = .ok (.iadd, 1) := by decide +kernel
theorem dL_law_603 : decode cL_law 603 = .ok (.iaload, 1) := by decide +kernel
theorem dL_law_604 : decode cL_law 604 = .ok (.invokevirtual 77, 3) := by decide +kernel
theorem dL_law_607 : decode cL_law 607 = .ok (.aload_n 2, 1) := by decide +kernel
theorem dL_law_608 : decode cL_law 608 = .ok (.aload_n 0, 1) := by decide +kernel
theorem dL_law_609 : decode cL_law 609 = .ok (.iload_n 3, 1) := by decide +kernel
theorem dL_law_610 : decode cL_law 610 = .ok (.iconst 1, 1) := by decide +kernel
theorem dL_law_611 : decode cL_law 611 = .ok (.iadd, 1) := by decide +kernel
theorem dL_law_612 : decode cL_law 612 = .ok (.iaload, 1) := by decide +kernel
theorem dL_law_613 : decode cL_law 613 = .ok (.aload_n 0, 1) := by decide +kernel
theorem dL_law_614 : decode cL_law 614 = .ok (.iload_n 3, 1) := by decide +kernel
theorem dL_law_615 : decode cL_law 615 = .ok (.iconst 2, 1) := by decide +kernel
theorem dL_law_616 : decode cL_law 616 = .ok (.iadd, 1) := by decide +kernel
theorem dL_law_617 : decode cL_law 617 = .ok (.iaload, 1) := by decide +kernel
theorem dL_law_618 : decode cL_law 618 = .ok (.aload_n 0, 1) := by decide +kernel
theorem dL_law_619 : decode cL_law 619 = .ok (.iload_n 3, 1) := by decide +kernel
theorem dL_law_620 : decode cL_law 620 = .ok (.iconst 3, 1) := by decide +kernel
theorem dL_law_621 : decode cL_law 621 = .ok (.iadd, 1) := by decide +kernel
theorem dL_law_622 : decode cL_law 622 = .ok (.iaload, 1) := by decide +kernel
theorem dL_law_623 : decode cL_law 623 = .ok (.invokevirtual 80, 3) := by decide +kernel
theorem dL_law_626 : decode cL_law 626 = .ok (.if_icmp .eq 84, 3) := by decide +kernel
theorem dL_law_629 : decode cL_law 629 = .ok (.iconst 0, 1) := by decide +kernel
theorem dL_law_630 : decode cL_law 630 = .ok (.ireturn, 1) := by decide +kernel
theorem dL_law_631 : decode cL_law 631 = .ok (.aload_n 1, 1) := by decide +kernel
theorem dL_law_632 : decode cL_law 632 = .ok (.aload_n 0, 1) := by decide +kernel
theorem dL_law_633 : decode cL_law 633 = .ok (.iload_n 3, 1) := by decide +kernel
theorem dL_law_634 : decode cL_law 634 = .ok (.iconst 1, 1) := by decide +kernel
theorem dL_law_635 : decode cL_law 635 = .ok (.iadd, 1) := by decide +kernel
theorem dL_law_636 : decode cL_law 636 = .ok (.iaload, 1) := by decide +kernel
theorem dL_law_637 : decode cL_law 637 = .ok (.aload_n 0, 1) := by decide +kernel
theorem dL_law_638 : decode cL_law 638 = .ok (.iload_n 3, 1) := by decide +kernel
theorem dL_law_639 : decode cL_law 639 = .ok (.iconst 2, 1) := by decide +kernel
theorem dL_law_640 : decode cL_law 640 = .ok (.iadd, 1) := by decide +kernel
theorem dL_law_641 : decode cL_law 641 = .ok (.iaload, 1) := by decide +kernel
theorem dL_law_642 : decode cL_law 642 = .ok (.invokevirtual 81, 3) := by decide +kernel
theorem dL_law_645 : decode cL_law 645 = .ok (.aload_n 2, 1) := by decide +kernel
theorem dL_law_646 : decode cL_law 646 = .ok (.aload_n 0, 1) := by decide +kernel
theorem dL_law_647 : decode cL_law 647 = .ok (.iload_n 3, 1) := by decide +kernel
theorem dL_law_648 : decode cL_law 648 = .ok (.iconst 1, 1) := by decide +kernel
theorem dL_law_649 : decode cL_law 649 = .ok (.iadd, 1) := by decide +kernel
theorem dL_law_650 : decode cL_law 650 = .ok (.iaload, 1) := by decide +kernel
theorem dL_law_651 : decode cL_law 651 = .ok (.aload_n 0, 1) := by decide +kernel
theorem dL_law_652 : decode cL_law 652 = .ok (.iload_n 3, 1) := by decide +kernel
theorem dL_law_653 : decode cL_law 653 = .ok (.iconst 2, 1) := by decide +kernel
theorem dL_law_654 : decode cL_law 654 = .ok (.iadd, 1) := by decide +kernel
theorem dL_law_655 : decode cL_law 655 = .ok (.iaload, 1) := by decide +kernel
theorem dL_law_656 : decode cL_law 656 = .ok (.invokevirtual 84, 3) := by decide +kernel
theorem dL_law_659 : decode cL_law 659 = .ok (.if_icmp .eq 51, 3) := by decide +kernel
theorem dL_law_662 : decode cL_law 662 = .ok (.iconst 0, 1) := by decide +kernel
theorem dL_law_663 : decode cL_law 663 = .ok (.ireturn, 1) := by decide +kernel
theorem dL_law_664 : decode cL_law 664 = .ok (.aload_n 1, 1) := by decide +kernel
theorem dL_law_665 : decode cL_law 665 = .ok (.aload_n 0, 1) := by decide +kernel
theorem dL_law_666 : decode cL_law 666 = .ok (.iload_n 3, 1) := by decide +kernel
theorem dL_law_667 : decode cL_law 667 = .ok (.iconst 1, 1) := by decide +kernel
theorem dL_law_668 : decode cL_law 668 = .ok (.iadd, 1) := by decide +kernel
theorem dL_law_669 : decode cL_law 669 = .ok (.iaload, 1) := by decide +kernel
theorem dL_law_670 : decode cL_law 670 = .ok (.invokevirtual 85, 3) := by decide +kernel
theorem dL_law_673 : decode cL_law 673 = .ok (.aload_n 2, 1) := by decide +kernel
theorem dL_law_674 : decode cL_law 674 = .ok (.aload_n 0, 1) := by decide +kernel
theorem dL_law_675 : decode cL_law 675 = .ok (.iload_n 3, 1) := by decide +kernel
theorem dL_law_676 : decode cL_law 676 = .ok (.iconst 1, 1) := by decide +kernel
theorem dL_law_677 : decode cL_law 677 = .ok (.iadd, 1) := by decide +kernel
theorem dL_law_678 : decode cL_law 678 = .ok (.iaload, 1) := by decide +kernel
theorem dL_law_679 : decode cL_law 679 = .ok (.invokevirtual 88, 3) := by decide +kernel
theorem dL_law_682 : decode cL_law 682 = .ok (.if_icmp .eq 28, 3) := by decide +kernel
theorem dL_law_685 : decode cL_law 685 = .ok (.iconst 0, 1) := by decide +kernel
theorem dL_law_686 : decode cL_law 686 = .ok (.ireturn, 1) := by decide +kernel
theorem dL_law_687 : decode cL_law 687 = .ok (.aload_n 1, 1) := by decide +kernel
theorem dL_law_688 : decode cL_law 688 = .ok (.aload_n 0, 1) := by decide +kernel
theorem dL_law_689 : decode cL_law 689 = .ok (.iload_n 3, 1) := by decide +kernel
theorem dL_law_690 : decode cL_law 690 = .ok (.iconst 1, 1) := by decide +kernel
theorem dL_law_691 : decode cL_law 691 = .ok (.iadd, 1) := by decide +kernel
theorem dL_law_692 : decode cL_law 692 = .ok (.iaload, 1) := by decide +kernel
theorem dL_law_693 : decode cL_law 693 = .ok (.invokevirtual 89, 3) := by decide +kernel
theorem dL_law_696 : decode cL_law 696 = .ok (.aload_n 2, 1) := by decide +kernel
theorem dL_law_697 : decode cL_law 697 = .ok (.aload_n 0, 1) := by decide +kernel
theorem dL_law_698 : decode cL_law 698 = .ok (.iload_n 3, 1) := by decide +kernel
theorem dL_law_699 : decode cL_law 699 = .ok (.iconst 1, 1) := by decide +kernel
theorem dL_law_700 : decode cL_law 700 = .ok (.iadd, 1) := by decide +kernel
theorem dL_law_701 : decode cL_law 701 = .ok (.iaload, 1) := by decide +kernel
theorem dL_law_702 : decode cL_law 702 = .ok (.invokevirtual 92, 3) := by decide +kernel
theorem dL_law_705 : decode cL_law 705 = .ok (.if_icmp .eq 5, 3) := by decide +kernel
theorem dL_law_708 : decode cL_law 708 = .ok (.iconst 0, 1) := by decide +kernel
theorem dL_law_709 : decode cL_law 709 = .ok (.ireturn, 1) := by decide +kernel
theorem dL_law_710 : decode cL_law 710 = .ok (.iinc 3 6, 3) := by decide +kernel
theorem dL_law_713 : decode cL_law 713 = .ok (.goto (-695), 3) := by decide +kernel
theorem dL_law_716 : decode cL_law 716 = .ok (.iconst 1, 1) := by decide +kernel
theorem dL_law_717 : decode cL_law 717 = .ok (.ireturn, 1) := by decide +kernel
