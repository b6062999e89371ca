theorem dX0_init_0 : decode cX0_init 0 = .ok (.aload_n 0, 1) := by decide +kernel
theorem dX0_init_1 : decode cX0_init 1 = .ok (.invokespecial 5, 3) := by decide +kernel
theorem dX0_init_4 : decode cX0_init 4 = .ok (.aload_n 0, 1) := by decide +kernel
theorem dX0_init_5 : decode cX0_init 5 = .ok (.aload_n 1, 1) := by decide +kernel
theorem dX0_init_6 : decode cX0_init 6 = .ok (.putfield 11, 3) := by decide +kernel
theorem dX0_init_9 : decode cX0_init 9 = .ok (.aload_n 0, 1) := by decide +kernel
theorem dX0_init_10 : decode cX0_init 10 = .ok (.new 17, 3) := by decide +kernel
theorem dX0_init_13 : decode cX0_init 13 = .ok (.dup, 1) := by decide +kernel
theorem dX0_init_14 : decode cX0_init 14 = .ok (.invokespecial 19, 3) := by decide +kernel
theorem dX0_init_17 : decode cX0_init 17 = .ok (.putfield 20, 3) := by decide +kernel
theorem dX0_init_20 : decode cX0_init 20 = .ok (.aload_n 0, 1) := by decide +kernel
theorem dX0_init_21 : decode cX0_init 21 = .ok (.new 24, 3) := by decide +kernel
theorem dX0_init_24 : decode cX0_init 24 = .ok (.dup, 1) := by decide +kernel
theorem dX0_init_25 : decode cX0_init 25 = .ok (.sipush 2000, 3) := by decide +kernel
theorem dX0_init_28 : decode cX0_init 28 = .ok (.invokespecial 26, 3) := by decide +kernel
theorem dX0_init_31 : decode cX0_init 31 = .ok (.putfield 29, 3) := by decide +kernel
theorem dX0_init_34 : decode cX0_init 34 = .ok (.aload_n 0, 1) := by decide +kernel
theorem dX0_init_35 : decode cX0_init 35 = .ok (.new 33, 3) := by decide +kernel
theorem dX0_init_38 : decode cX0_init 38 = .ok (.dup, 1) := by decide +kernel
theorem dX0_init_39 : decode cX0_init 39 = .ok (.invokespecial 35, 3) := by decide +kernel
theorem dX0_init_42 : decode cX0_init 42 = .ok (.putfield 36, 3) := by decide +kernel
theorem dX0_init_45 : decode cX0_init 45 = .ok (.aload_n 0, 1) := by decide +kernel
theorem dX0_init_46 : decode cX0_init 46 = .ok (.new 33, 3) := by decide +kernel
theorem dX0_init_49 : decode cX0_init 49 = .ok (.dup, 1) := by decide +kernel
theorem dX0_init_50 : decode cX0_init 50 = .ok (.invokespecial 35, 3) := by decide +kernel
theorem dX0_init_53 : decode cX0_init 53 = .ok (.putfield 40, 3) := by decide +kernel
theorem dX0_init_56 : decode cX0_init 56 = .ok (.aload_n 0, 1) := by decide +kernel
theorem dX0_init_57 : decode cX0_init 57 = .ok (.new 43, 3) := by decide +kernel
theorem dX0_init_60 : decode cX0_init 60 = .ok (.dup, 1) := by decide +kernel
theorem dX0_init_61 : decode cX0_init 61 = .ok (.aload_n 1, 1) := by decide +kernel
theorem dX0_init_62 : decode cX0_init 62 = .ok (.getfield 45, 3) := by decide +kernel
theorem dX0_init_65 : decode cX0_init 65 = .ok (.invokespecial 51, 3) := by decide +kernel
theorem dX0_init_68 : decode cX0_init 68 = .ok (.putfield 54, 3) := by decide +kernel
theorem dX0_init_71 : decode cX0_init 71 = .ok (.aload_n 0, 1) := by decide +kernel
theorem dX0_init_72 : decode cX0_init 72 = .ok (.new 24, 3) := by decide +kernel
theorem dX0_init_75 : decode cX0_init 75 = .ok (.dup, 1) := by decide +kernel
theorem dX0_init_76 : decode cX0_init 76 = .ok (.bipush 64, 2) := by decide +kernel
theorem dX0_init_78 : decode cX0_init 78 = .ok (.invokespecial 26, 3) := by decide +kernel
theorem dX0_init_81 : decode cX0_init 81 = .ok (.putfield 58, 3) := by decide +kernel
theorem dX0_init_84 : decode cX0_init 84 = .ok (.aload_n 0, 1) := by decide +kernel
theorem dX0_init_85 : decode cX0_init 85 = .ok (.new 24, 3) := by decide +kernel
theorem dX0_init_88 : decode cX0_init 88 = .ok (.dup, 1) := by decide +kernel
theorem dX0_init_89 : decode cX0_init 89 = .ok (.bipush 16, 2) := by decide +kernel
theorem dX0_init_91 : decode cX0_init 91 = .ok (.invokespecial 26, 3) := by decide +kernel
theorem dX0_init_94 : decode cX0_init 94 = .ok (.putfield 61, 3) := by decide +kernel
theorem dX0_init_97 : decode cX0_init 97 = .ok (.aload_n 0, 1) := by decide +kernel
theorem dX0_init_98 : decode cX0_init 98 = .ok (.new 24, 3) := by decide +kernel
theorem dX0_init_101 : decode cX0_init 101 = .ok (.dup, 1) := by decide +kernel
theorem dX0_init_102 : decode cX0_init 102 = .ok (.bipush 32, 2) := by decide +kernel
theorem dX0_init_104 : decode cX0_init 104 = .ok (.invokespecial 26, 3) := by decide +kernel
theorem dX0_init_107 : decode cX0_init 107 = .ok (.putfield 64, 3) := by decide +kernel
theorem dX0_init_110 : decode cX0_init 110 = .ok (.aload_n 0, 1) := by decide +kernel
theorem dX0_init_111 : decode cX0_init 111 = .ok (.new 24, 3) := by decide +kernel
theorem dX0_init_114 : decode cX0_init 114 = .ok (.dup, 1) := by decide +kernel
theorem dX0_init_115 : decode cX0_init 115 = .ok (.sipush 278, 3) := by decide +kernel
theorem dX0_init_118 : decode cX0_init 118 = .ok (.invokespecial 26, 3) := by decide +kernel
theorem dX0_init_121 : decode cX0_init 121 = .ok (.putfield 67, 3) := by decide +kernel
theorem dX0_init_124 : decode cX0_init 124 = .ok (.aload_n 0, 1) := by decide +kernel
theorem dX0_init_125 : decode cX0_init 125 = .ok (.iconst 0, 1) := by decide +kernel
theorem dX0_init_126 : decode cX0_init 126 = .ok (.putfield 70, 3) := by decide +kernel
theorem dX0_init_129 : decode cX0_init 129 = .ok (.aload_n 0, 1) := by decide +kernel
theorem dX0_init_130 : decode cX0_init 130 = .ok (.iconst 0, 1) := by decide +kernel
theorem dX0_init_131 : decode cX0_init 131 = .ok (.putfield 74, 3) := by decide +kernel
theorem dX0_init_134 : decode cX0_init 134 = .ok (.aload_n 0, 1) := by decide +kernel
theorem dX0_init_135 : decode cX0_init 135 = .ok (.sipush 256, 3) := by decide +kernel
theorem dX0_init_138 : decode cX0_init 138 = .ok (.putfield 78, 3) := by decide +kernel
theorem dX0_init_141 : decode cX0_init 141 = .ok (.aload_n 0, 1) := by decide +kernel
theorem dX0_init_142 : decode cX0_init 142 = .ok (.iconst 0, 1) := by decide +kernel
theorem dX0_init_143 : decode cX0_init 143 = .ok (.putfield 81, 3) := by decide +kernel
theorem dX0_init_146 : decode cX0_init 146 = .ok (.aload_n 0, 1) := by decide +kernel
theorem dX0_init_147 : decode cX0_init 147 = .ok (.iconst (-1), 1) := by decide +kernel
theorem dX0_init_148 : decode cX0_init 148 = .ok (.putfield 84, 3) := by decide +kernel
theorem dX0_init_151 : decode cX0_init 151 = .ok (.aload_n 0, 1) := by decide +kernel
theorem dX0_init_152 : decode cX0_init 152 = .ok (.iconst (-1), 1) := by decide +kernel
theorem dX0_init_153 : decode cX0_init 153 = .ok (.putfield 87, 3) := by decide +kernel
theorem dX0_init_156 : decode cX0_init 156 = .ok (.aload_n 0, 1) := by decide +kernel
theorem dX0_init_157 : decode cX0_init 157 = .ok (.iconst 0, 1) := by decide +kernel
theorem dX0_init_158 : decode cX0_init 158 = .ok (.putfield 90, 3) := by decide +kernel
theorem dX0_init_161 : decode cX0_init 161 = .ok (.aload_n 0, 1) := by decide +kernel
theorem dX0_init_162 : decode cX0_init 162 = .ok (.iconst 0, 1) := by decide +kernel
theorem dX0_init_163 : decode cX0_init 163 = .ok (.putfield 93, 3) := by decide +kernel
theorem dX0_init_166 : decode cX0_init 166 = .ok (.return_, 1) := by decide +kernel
theorem dX0_learn_0 : decode cX0_learn 0 = .ok (.aload_n 0, 1) := by decide +kernel
theorem dX0_learn_1 : decode cX0_learn 1 = .ok (.getfield 74, 3) := by decide +kernel
theorem dX0_learn_4 : decode cX0_learn 4 = .ok (.ifCond .eq 5, 3) := by decide +kernel
theorem dX0_learn_7 : decode cX0_learn 7 = .ok (.iconst 0, 1) := by decide +kernel
theorem dX0_learn_8 : decode cX0_learn 8 = .ok (.ireturn, 1) := by decide +kernel
theorem dX0_learn_9 : decode cX0_learn 9 = .ok (.iload_n 1, 1) := by decide +kernel
theorem dX0_learn_10 : decode cX0_learn 10 = .ok (.tableswitch 57 0 2 #[26, 36, 46], 26) := by decide +kernel
theorem dX0_learn_36 : decode cX0_learn 36 = .ok (.aload_n 0, 1) := by decide +kernel
theorem dX0_learn_37 : decode cX0_learn 37 = .ok (.getfield 58, 3) := by decide +kernel
theorem dX0_learn_40 : decode cX0_learn 40 = .ok (.aload_n 2, 1) := by decide +kernel
theorem dX0_learn_41 : decode cX0_learn 41 = .ok (.iconst 1, 1) := by decide +kernel
theorem dX0_learn_42 : decode cX0_learn 42 = .ok (.invokestatic 96, 3) := by decide +kernel
theorem dX0_learn_45 : decode cX0_learn 45 = .ok (.ireturn, 1) := by decide +kernel
theorem dX0_learn_46 : decode cX0_learn 46 = .ok (.aload_n 0, 1) := by decide +kernel
theorem dX0_learn_47 : decode cX0_learn 47 = .ok (.getfield 61, 3) := by decide +kernel
theorem dX0_learn_50 : decode cX0_learn 50 = .ok (.aload_n 2, 1) := by decide +kernel
theorem dX0_learn_51 : decode cX0_learn 51 = .ok (.iconst 1, 1) := by decide +kernel
theorem dX0_learn_52 : decode cX0_learn 52 = .ok (.invokestatic 96, 3) := by decide +kernel
theorem dX0_learn_55 : decode cX0_learn 55 = .ok (.ireturn, 1) := by decide +kernel
theorem dX0_learn_56 : decode cX0_learn 56 = .ok (.aload_n 0, 1) := by decide +kernel
theorem dX0_learn_57 : decode cX0_learn 57 = .ok (.getfield 64, 3) := by decide +kernel
theorem dX0_learn_60 : decode cX0_learn 60 = .ok (.aload_n 2, 1) := by decide +kernel
theorem dX0_learn_61 : decode cX0_learn 61 = .ok (.bipush 32, 2) := by decide +kernel
theorem dX0_learn_63 : decode cX0_learn 63 = .ok (.invokestatic 96, 3) := by decide +kernel
theorem dX0_learn_66 : decode cX0_learn 66 = .ok (.ireturn, 1) := by decide +kernel
theorem dX0_learn_67 : decode cX0_learn 67 = .ok (.iconst 0, 1) := by decide +kernel
theorem dX0_learn_68 : decode cX0_learn 68 = .ok (.ireturn, 1) := by decide +kernel
theorem dX0_keep_0 : decode cX0_keep 0 = .ok (.aload_n 1, 1) := by decide +kernel
theorem dX0_keep_1 : decode cX0_keep 1 = .ok (.getfield 100, 3) := by decide +kernel
theorem dX0_keep_4 : decode cX0_keep 4 = .ok (.iload_n 2, 1) := by decide +kernel
theorem dX0_keep_5 : decode cX0_keep 5 = .ok (.if_icmp .lt 15, 3) := by decide +kernel
theorem dX0_keep_8 : decode cX0_keep 8 = .ok (.aload_n 1, 1) := by decide +kernel
theorem dX0_keep_9 : decode cX0_keep 9 = .ok (.getfield 100, 3) := by decide +kernel
theorem dX0_keep_12 : decode cX0_keep 12 = .ok (.aload_n 0, 1) := by decide +kernel
theorem dX0_keep_13 : decode cX0_keep 13 = .ok (.getfield 103, 3) := by decide +kernel
theorem dX0_keep_16 : decode cX0_keep 16 = .ok (.arraylength, 1) := by decide +kernel
theorem dX0_keep_17 : decode cX0_keep 17 = .ok (.if_icmp .le 5, 3) := by decide +kernel
theorem dX0_keep_20 : decode cX0_keep 20 = .ok (.iconst 0, 1) := by decide +kernel
theorem dX0_keep_21 : decode cX0_keep 21 = .ok (.ireturn, 1) := by decide +kernel
theorem dX0_keep_22 : decode cX0_keep 22 = .ok (.aload_n 0, 1) := by decide +kernel
theorem dX0_keep_23 : decode cX0_keep 23 = .ok (.aload_n 1, 1) := by decide +kernel
theorem dX0_keep_24 : decode cX0_keep 24 = .ok (.invokevirtual 107, 3) := by decide +kernel
theorem dX0_keep_27 : decode cX0_keep 27 = .ok (.iconst 1, 1) := by decide +kernel
theorem dX0_keep_28 : decode cX0_keep 28 = .ok (.ireturn, 1) := by decide +kernel
theorem dX0_begin_0 : decode cX0_begin 0 = .ok (.aload_n 0, 1) := by decide +kernel
theorem dX0_begin_1 : decode cX0_begin 1 = .ok (.getfield 74, 3) := by decide +kernel
theorem dX0_begin_4 : decode cX0_begin 4 = .ok (.ifCond .ne 33, 3) := by decide +kernel
theorem dX0_begin_7 : decode cX0_begin 7 = .ok (.aload_n 0, 1) := by decide +kernel
theorem dX0_begin_8 : decode cX0_begin 8 = .ok (.getfield 58, 3) := by decide +kernel
theorem dX0_begin_11 : decode cX0_begin 11 = .ok (.getfield 100, 3) := by decide +kernel
theorem dX0_begin_14 : decode cX0_begin 14 = .ok (.ifCond .eq 23, 3) := by decide +kernel
theorem dX0_begin_17 : decode cX0_begin 17 = .ok (.aload_n 0, 1) := by decide +kernel
theorem dX0_begin_18 : decode cX0_begin 18 = .ok (.getfield 61, 3) := by decide +kernel
theorem dX0_begin_21 : decode cX0_begin 21 = .ok (.getfield 100, 3) := by decide +kernel
theorem dX0_begin_24 : decode cX0_begin 24 = .ok (.ifCond .eq 13, 3) := by decide +kernel
theorem dX0_begin_27 : decode cX0_begin 27 = .ok (.aload_n 0, 1) := by decide +kernel
theorem dX0_begin_28 : decode cX0_begin 28 = .ok (.getfield 64, 3) := by decide +kernel
theorem dX0_begin_31 : decode cX0_begin 31 = .ok (.getfield 100, 3) := by decide +kernel
theorem dX0_begin_34 : decode cX0_begin 34 = .ok (.ifCond .ne 5, 3) := by decide +kernel
theorem dX0_begin_37 : decode cX0_begin 37 = .ok (.iconst 0, 1) := by decide +kernel
theorem dX0_begin_38 : decode cX0_begin 38 = .ok (.ireturn, 1) := by decide +kernel
theorem dX0_begin_39 : decode cX0_begin 39 = .ok (.aload_n 0, 1) := by decide +kernel
theorem dX0_begin_40 : decode cX0_begin 40 = .ok (.getfield 54, 3) := by decide +kernel
theorem dX0_begin_43 : decode cX0_begin 43 = .ok (.aload_n 0, 1) := by decide +kernel
theorem dX0_begin_44 : decode cX0_begin 44 = .ok (.getfield 58, 3) := by decide +kernel
theorem dX0_begin_47 : decode cX0_begin 47 = .ok (.invokevirtual 111, 3) := by decide +kernel
theorem dX0_begin_50 : decode cX0_begin 50 = .ok (.aload_n 0, 1) := by decide +kernel
theorem dX0_begin_51 : decode cX0_begin 51 = .ok (.getfield 70, 3) := by decide +kernel
theorem dX0_begin_54 : decode cX0_begin 54 = .ok (.ifCond .eq 10, 3) := by decide +kernel
theorem dX0_begin_57 : decode cX0_begin 57 = .ok (.aload_n 0, 1) := by decide +kernel
theorem dX0_begin_58 : decode cX0_begin 58 = .ok (.iconst 4, 1) := by decide +kernel
theorem dX0_begin_59 : decode cX0_begin 59 = .ok (.putfield 74, 3) := by decide +kernel
theorem dX0_begin_62 : decode cX0_begin 62 = .ok (.iconst 1, 1) := by decide +kernel
theorem dX0_begin_63 : decode cX0_begin 63 = .ok (.ireturn, 1) := by decide +kernel
theorem dX0_begin_64 : decode cX0_begin 64 = .ok (.aload_n 0, 1) := by decide +kernel
theorem dX0_begin_65 : decode cX0_begin 65 = .ok (.getfield 11, 3) := by decide +kernel
theorem dX0_begin_68 : decode cX0_begin 68 = .ok (.getfield 114, 3) := by decide +kernel
theorem dX0_begin_71 : decode cX0_begin 71 = .ok (.astore_n 1, 1) := by decide +kernel
theorem dX0_begin_72 : decode cX0_begin 72 = .ok (.aload_n 1, 1) := by decide +kernel
theorem dX0_begin_73 : decode cX0_begin 73 = .ok (.aload_n 0, 1) := by decide +kernel
theorem dX0_begin_74 : decode cX0_begin 74 = .ok (.getfield 64, 3) := by decide +kernel
theorem dX0_begin_77 : decode cX0_begin 77 = .ok (.aload_n 0, 1) := by decide +kernel
theorem dX0_begin_78 : decode cX0_begin 78 = .ok (.getfield 61, 3) := by decide +kernel
theorem dX0_begin_81 : decode cX0_begin 81 = .ok (.invokestatic 117, 3) := by decide +kernel
theorem dX0_begin_84 : decode cX0_begin 84 = .ok (.aload_n 0, 1) := by decide +kernel
theorem dX0_begin_85 : decode cX0_begin 85 = .ok (.getfield 54, 3) := by decide +kernel
theorem dX0_begin_88 : decode cX0_begin 88 = .ok (.aload_n 0, 1) := by decide +kernel
theorem dX0_begin_89 : decode cX0_begin 89 = .ok (.getfield 54, 3) := by decide +kernel
theorem dX0_begin_92 : decode cX0_begin 92 = .ok (.getfield 121, 3) := by decide +kernel
theorem dX0_begin_95 : decode cX0_begin 95 = .ok (.aload_n 1, 1) := by decide +kernel
theorem dX0_begin_96 : decode cX0_begin 96 = .ok (.aload_n 0, 1) := by decide +kernel
theorem dX0_begin_97 : decode cX0_begin 97 = .ok (.getfield 11, 3) := by decide +kernel
theorem dX0_begin_100 : decode cX0_begin 100 = .ok (.getfield 124, 3) := by decide +kernel
theorem dX0_begin_103 : decode cX0_begin 103 = .ok (.invokevirtual 127, 3) := by decide +kernel
theorem dX0_begin_106 : decode cX0_begin 106 = .ok (.aload_n 1, 1) := by decide +kernel
theorem dX0_begin_107 : decode cX0_begin 107 = .ok (.getstatic 130, 3) := by decide +kernel
theorem dX0_begin_110 : decode cX0_begin 110 = .ok (.invokevirtual 133, 3) := by decide +kernel
theorem dX0_begin_113 : decode cX0_begin 113 = .ok (.aload_n 1, 1) := by decide +kernel
theorem dX0_begin_114 : decode cX0_begin 114 = .ok (.aload_n 0, 1) := by decide +kernel
theorem dX0_begin_115 : decode cX0_begin 115 = .ok (.getfield 11, 3) := by decide +kernel
theorem dX0_begin_118 : decode cX0_begin 118 = .ok (.getfield 124, 3) := by decide +kernel
theorem dX0_begin_121 : decode cX0_begin 121 = .ok (.invokevirtual 137, 3) := by decide +kernel
theorem dX0_begin_124 : decode cX0_begin 124 = .ok (.aload_n 0, 1) := by decide +kernel
theorem dX0_begin_125 : decode cX0_begin 125 = .ok (.getfield 67, 3) := by decide +kernel
theorem dX0_begin_128 : decode cX0_begin 128 = .ok (.aload_n 1, 1) := by decide +kernel
theorem dX0_begin_129 : decode cX0_begin 129 = .ok (.invokevirtual 107, 3) := by decide +kernel
theorem dX0_begin_132 : decode cX0_begin 132 = .ok (.aload_n 0, 1) := by decide +kernel
theorem dX0_begin_133 : decode cX0_begin 133 = .ok (.bipush 22, 2) := by decide +kernel
theorem dX0_begin_135 : decode cX0_begin 135 = .ok (.aload_n 1, 1) := by decide +kernel
theorem dX0_begin_136 : decode cX0_begin 136 = .ok (.invokevirtual 140, 3) := by decide +kernel
theorem dX0_begin_139 : decode cX0_begin 139 = .ok (.pop, 1) := by decide +kernel
theorem dX0_begin_140 : decode cX0_begin 140 = .ok (.aload_n 0, 1) := by decide +kernel
theorem dX0_begin_141 : decode cX0_begin 141 = .ok (.iconst 1, 1) := by decide +kernel
theorem dX0_begin_142 : decode cX0_begin 142 = .ok (.putfield 74, 3) := by decide +kernel
theorem dX0_begin_145 : decode cX0_begin 145 = .ok (.iconst 1, 1) := by decide +kernel
theorem dX0_begin_146 : decode cX0_begin 146 = .ok (.ireturn, 1) := by decide +kernel
theorem dX0_speak_0 : decode cX0_speak 0 = .ok (.aload_n 0, 1) := by decide +kernel
theorem dX0_speak_1 : decode cX0_speak 1 = .ok (.getfield 74, 3) := by decide +kernel
theorem dX0_speak_4 : decode cX0_speak 4 = .ok (.bipush 6, 2) := by decide +kernel
theorem dX0_speak_6 : decode cX0_speak 6 = .ok (.if_icmp .ne 17, 3) := by decide +kernel
theorem dX0_speak_9 : decode cX0_speak 9 = .ok (.aload_n 0, 1) := by decide +kernel
theorem dX0_speak_10 : decode cX0_speak 10 = .ok (.bipush 23, 2) := by decide +kernel
theorem dX0_speak_12 : decode cX0_speak 12 = .ok (.aload_n 1, 1) := by decide +kernel
theorem dX0_speak_13 : decode cX0_speak 13 = .ok (.invokevirtual 140, 3) := by decide +kernel
theorem dX0_speak_16 : decode cX0_speak 16 = .ok (.ifCond .eq 7, 3) := by decide +kernel
theorem dX0_speak_19 : decode cX0_speak 19 = .ok (.iconst 1, 1) := by decide +kernel
theorem dX0_speak_20 : decode cX0_speak 20 = .ok (.goto 4, 3) := by decide +kernel
theorem dX0_speak_23 : decode cX0_speak 23 = .ok (.iconst 0, 1) := by decide +kernel
theorem dX0_speak_24 : decode cX0_speak 24 = .ok (.ireturn, 1) := by decide +kernel
theorem dX0_renew_0 : decode cX0_renew 0 = .ok (.aload_n 0, 1) := by decide +kernel
theorem dX0_renew_1 : decode cX0_renew 1 = .ok (.getfield 74, 3) := by decide +kernel
theorem dX0_renew_4 : decode cX0_renew 4 = .ok (.bipush 6, 2) := by decide +kernel
theorem dX0_renew_6 : decode cX0_renew 6 = .ok (.if_icmp .eq 5, 3) := by decide +kernel
theorem dX0_renew_9 : decode cX0_renew 9 = .ok (.iconst 0, 1) := by decide +kernel
theorem dX0_renew_10 : decode cX0_renew 10 = .ok (.ireturn, 1) := by decide +kernel
theorem dX0_renew_11 : decode cX0_renew 11 = .ok (.aload_n 0, 1) := by decide +kernel
theorem dX0_renew_12 : decode cX0_renew 12 = .ok (.getfield 11, 3) := by decide +kernel
theorem dX0_renew_15 : decode cX0_renew 15 = .ok (.getfield 114, 3) := by decide +kernel
theorem dX0_renew_18 : decode cX0_renew 18 = .ok (.iload_n 1, 1) := by decide +kernel
theorem dX0_renew_19 : decode cX0_renew 19 = .ok (.invokestatic 144, 3) := by decide +kernel
theorem dX0_renew_22 : decode cX0_renew 22 = .ok (.aload_n 0, 1) := by decide +kernel
theorem dX0_renew_23 : decode cX0_renew 23 = .ok (.bipush 22, 2) := by decide +kernel
theorem dX0_renew_25 : decode cX0_renew 25 = .ok (.aload_n 0, 1) := by decide +kernel
theorem dX0_renew_26 : decode cX0_renew 26 = .ok (.getfield 11, 3) := by decide +kernel
theorem dX0_renew_29 : decode cX0_renew 29 = .ok (.getfield 114, 3) := by decide +kernel
theorem dX0_renew_32 : decode cX0_renew 32 = .ok (.invokevirtual 140, 3) := by decide +kernel
theorem dX0_renew_35 : decode cX0_renew 35 = .ok (.ifCond .ne 5, 3) := by decide +kernel
theorem dX0_renew_38 : decode cX0_renew 38 = .ok (.iconst 0, 1) := by decide +kernel
theorem dX0_renew_39 : decode cX0_renew 39 = .ok (.ireturn, 1) := by decide +kernel
theorem dX0_renew_40 : decode cX0_renew 40 = .ok (.aload_n 0, 1) := by decide +kernel
theorem dX0_renew_41 : decode cX0_renew 41 = .ok (.getfield 36, 3) := by decide +kernel
theorem dX0_renew_44 : decode cX0_renew 44 = .ok (.aload_n 0, 1) := by decide +kernel
theorem dX0_renew_45 : decode cX0_renew 45 = .ok (.getfield 11, 3) := by decide +kernel
theorem dX0_renew_48 : decode cX0_renew 48 = .ok (.getfield 45, 3) := by decide +kernel
theorem dX0_renew_51 : decode cX0_renew 51 = .ok (.aload_n 0, 1) := by decide +kernel
theorem dX0_renew_52 : decode cX0_renew 52 = .ok (.getfield 36, 3) := by decide +kernel
theorem dX0_renew_55 : decode cX0_renew 55 = .ok (.getfield 148, 3) := by decide +kernel
theorem dX0_renew_58 : decode cX0_renew 58 = .ok (.ldc 151, 2) := by decide +kernel
theorem dX0_renew_60 : decode cX0_renew 60 = .ok (.aload_n 0, 1) := by decide +kernel
theorem dX0_renew_61 : decode cX0_renew 61 = .ok (.getfield 11, 3) := by decide +kernel
theorem dX0_renew_64 : decode cX0_renew 64 = .ok (.getfield 45, 3) := by decide +kernel
theorem dX0_renew_67 : decode cX0_renew 67 = .ok (.getfield 153, 3) := by decide +kernel
theorem dX0_renew_70 : decode cX0_renew 70 = .ok (.invokevirtual 158, 3) := by decide +kernel
theorem dX0_renew_73 : decode cX0_renew 73 = .ok (.iconst 1, 1) := by decide +kernel
theorem dX0_renew_74 : decode cX0_renew 74 = .ok (.ireturn, 1) := by decide +kernel
theorem dX0_shut_0 : decode cX0_shut 0 = .ok (.aload_n 0, 1) := by decide +kernel
theorem dX0_shut_1 : decode cX0_shut 1 = .ok (.getfield 74, 3) := by decide +kernel
theorem dX0_shut_4 : decode cX0_shut 4 = .ok (.bipush 6, 2) := by decide +kernel
theorem dX0_shut_6 : decode cX0_shut 6 = .ok (.if_icmp .eq 5, 3) := by decide +kernel
theorem dX0_shut_9 : decode cX0_shut 9 = .ok (.iconst 0, 1) := by decide +kernel
theorem dX0_shut_10 : decode cX0_shut 10 = .ok (.ireturn, 1) := by decide +kernel
theorem dX0_shut_11 : decode cX0_shut 11 = .ok (.aload_n 0, 1) := by decide +kernel
theorem dX0_shut_12 : decode cX0_shut 12 = .ok (.getfield 11, 3) := by decide +kernel
theorem dX0_shut_15 : decode cX0_shut 15 = .ok (.getfield 114, 3) := by decide +kernel
theorem dX0_shut_18 : decode cX0_shut 18 = .ok (.iconst 1, 1) := by decide +kernel
theorem dX0_shut_19 : decode cX0_shut 19 = .ok (.iconst 0, 1) := by decide +kernel
theorem dX0_shut_20 : decode cX0_shut 20 = .ok (.invokestatic 162, 3) := by decide +kernel
theorem dX0_shut_23 : decode cX0_shut 23 = .ok (.aload_n 0, 1) := by decide +kernel
theorem dX0_shut_24 : decode cX0_shut 24 = .ok (.bipush 21, 2) := by decide +kernel
theorem dX0_shut_26 : decode cX0_shut 26 = .ok (.aload_n 0, 1) := by decide +kernel
theorem dX0_shut_27 : decode cX0_shut 27 = .ok (.getfield 11, 3) := by decide +kernel
theorem dX0_shut_30 : decode cX0_shut 30 = .ok (.getfield 114, 3) := by decide +kernel
theorem dX0_shut_33 : decode cX0_shut 33 = .ok (.invokevirtual 140, 3) := by decide +kernel
theorem dX0_shut_36 : decode cX0_shut 36 = .ok (.ifCond .ne 5, 3) := by decide +kernel
theorem dX0_shut_39 : decode cX0_shut 39 = .ok (.iconst 0, 1) := by decide +kernel
theorem dX0_shut_40 : decode cX0_shut 40 = .ok (.ireturn, 1) := by decide +kernel
theorem dX0_shut_41 : decode cX0_shut 41 = .ok (.aload_n 0, 1) := by decide +kernel
theorem dX0_shut_42 : decode cX0_shut 42 = .ok (.iconst 1, 1) := by decide +kernel
theorem dX0_shut_43 : decode cX0_shut 43 = .ok (.putfield 90, 3) := by decide +kernel
theorem dX0_shut_46 : decode cX0_shut 46 = .ok (.iconst 1, 1) := by decide +kernel
theorem dX0_shut_47 : decode cX0_shut 47 = .ok (.ireturn, 1) := by decide +kernel
theorem dX0_report_0 : decode cX0_report 0 = .ok (.iload_n 1, 1) := by decide +kernel
theorem dX0_report_1 : decode cX0_report 1 = .ok (.tableswitch 141 0 9 #[55, 60, 65, 70, 78, 86, 94, 102, 115, 128], 55) := by decide +kernel
theorem dX0_report_56 : decode cX0_report 56 = .ok (.aload_n 0, 1) := by decide +kernel
theorem dX0_report_57 : decode cX0_report 57 = .ok (.getfield 74, 3) := by decide +kernel
theorem dX0_report_60 : decode cX0_report 60 = .ok (.ireturn, 1) := by decide +kernel
theorem dX0_report_61 : decode cX0_report 61 = .ok (.aload_n 0, 1) := by decide +kernel
theorem dX0_report_62 : decode cX0_report 62 = .ok (.getfield 84, 3) := by decide +kernel
theorem dX0_report_65 : decode cX0_report 65 = .ok (.ireturn, 1) := by decide +kernel
theorem dX0_report_66 : decode cX0_report 66 = .ok (.aload_n 0, 1) := by decide +kernel
theorem dX0_report_67 : decode cX0_report 67 = .ok (.getfield 87, 3) := by decide +kernel
theorem dX0_report_70 : decode cX0_report 70 = .ok (.ireturn, 1) := by decide +kernel
theorem dX0_report_71 : decode cX0_report 71 = .ok (.aload_n 0, 1) := by decide +kernel
theorem dX0_report_72 : decode cX0_report 72 = .ok (.getfield 20, 3) := by decide +kernel
theorem dX0_report_75 : decode cX0_report 75 = .ok (.getfield 166, 3) := by decide +kernel
theorem dX0_report_78 : decode cX0_report 78 = .ok (.ireturn, 1) := by decide +kernel
theorem dX0_report_79 : decode cX0_report 79 = .ok (.aload_n 0, 1) := by decide +kernel
theorem dX0_report_80 : decode cX0_report 80 = .ok (.getfield 29, 3) := by decide +kernel
theorem dX0_report_83 : decode cX0_report 83 = .ok (.getfield 100, 3) := by decide +kernel
theorem dX0_report_86 : decode cX0_report 86 = .ok (.ireturn, 1) := by decide +kernel
theorem dX0_report_87 : decode cX0_report 87 = .ok (.aload_n 0, 1) := by decide +kernel
theorem dX0_report_88 : decode cX0_report 88 = .ok (.getfield 36, 3) := by decide +kernel
theorem dX0_report_91 : decode cX0_report 91 = .ok (.getfield 167, 3) := by decide +kernel
theorem dX0_report_94 : decode cX0_report 94 = .ok (.ireturn, 1) := by decide +kernel
theorem dX0_report_95 : decode cX0_report 95 = .ok (.aload_n 0, 1) := by decide +kernel
theorem dX0_report_96 : decode cX0_report 96 = .ok (.getfield 40, 3) := by decide +kernel
theorem dX0_report_99 : decode cX0_report 99 = .ok (.getfield 167, 3) := by decide +kernel
theorem dX0_report_102 : decode cX0_report 102 = .ok (.ireturn, 1) := by decide +kernel
theorem dX0_report_103 : decode cX0_report 103 = .ok (.aload_n 0, 1) := by decide +kernel
theorem dX0_report_104 : decode cX0_report 104 = .ok (.getfield 90, 3) := by decide +kernel
theorem dX0_report_107 : decode cX0_report 107 = .ok (.ifCond .eq 7, 3) := by decide +kernel
theorem dX0_report_110 : decode cX0_report 110 = .ok (.iconst 1, 1) := by decide +kernel
theorem dX0_report_111 : decode cX0_report 111 = .ok (.goto 4, 3) := by decide +kernel
theorem dX0_report_114 : decode cX0_report 114 = .ok (.iconst 0, 1) := by decide +kernel
theorem dX0_report_115 : decode cX0_report 115 = .ok (.ireturn, 1) := by decide +kernel
theorem dX0_report_116 : decode cX0_report 116 = .ok (.aload_n 0, 1) := by decide +kernel
theorem dX0_report_117 : decode cX0_report 117 = .ok (.getfield 93, 3) := by decide +kernel
theorem dX0_report_120 : decode cX0_report 120 = .ok (.ifCond .eq 7, 3) := by decide +kernel
theorem dX0_report_123 : decode cX0_report 123 = .ok (.iconst 1, 1) := by decide +kernel
theorem dX0_report_124 : decode cX0_report 124 = .ok (.goto 4, 3) := by decide +kernel
theorem dX0_report_127 : decode cX0_report 127 = .ok (.iconst 0, 1) := by decide +kernel
theorem dX0_report_128 : decode cX0_report 128 = .ok (.ireturn, 1) := by decide +kernel
theorem dX0_report_129 : decode cX0_report 129 = .ok (.aload_n 0, 1) := by decide +kernel
theorem dX0_report_130 : decode cX0_report 130 = .ok (.getfield 70, 3) := by decide +kernel
theorem dX0_report_133 : decode cX0_report 133 = .ok (.ifCond .eq 7, 3) := by decide +kernel
theorem dX0_report_136 : decode cX0_report 136 = .ok (.iconst 1, 1) := by decide +kernel
theorem dX0_report_137 : decode cX0_report 137 = .ok (.goto 4, 3) := by decide +kernel
theorem dX0_report_140 : decode cX0_report 140 = .ok (.iconst 0, 1) := by decide +kernel
theorem dX0_report_141 : decode cX0_report 141 = .ok (.ireturn, 1) := by decide +kernel
theorem dX0_report_142 : decode cX0_report 142 = .ok (.iconst (-1), 1) := by decide +kernel
theorem dX0_report_143 : decode cX0_report 143 = .ok (.ireturn, 1) := by decide +kernel
theorem dX0_read_0 : decode cX0_read 0 = .ok (.aload_n 0, 1) := by decide +kernel
theorem dX0_read_1 : decode cX0_read 1 = .ok (.getfield 74, 3) := by decide +kernel
theorem dX0_read_4 : decode cX0_read 4 = .ok (.ifCond .eq 19, 3) := by decide +kernel
theorem dX0_read_7 : decode cX0_read 7 = .ok (.aload_n 0, 1) := by decide +kernel
theorem dX0_read_8 : decode cX0_read 8 = .ok (.getfield 74, 3) := by decide +kernel
theorem dX0_read_11 : decode cX0_read 11 = .ok (.bipush 7, 2) := by decide +kernel
theorem dX0_read_13 : decode cX0_read 13 = .ok (.if_icmp .eq 10, 3) := by decide +kernel
theorem dX0_read_16 : decode cX0_read 16 = .ok (.aload_n 0, 1) := by decide +kernel
theorem dX0_read_17 : decode cX0_read 17 = .ok (.getfield 93, 3) := by decide +kernel
theorem dX0_read_20 : decode cX0_read 20 = .ok (.ifCond .eq 4, 3) := by decide +kernel
theorem dX0_read_23 : decode cX0_read 23 = .ok (.return_, 1) := by decide +kernel
theorem dX0_read_24 : decode cX0_read 24 = .ok (.aload_n 1, 1) := by decide +kernel
theorem dX0_read_25 : decode cX0_read 25 = .ok (.invokestatic 170, 3) := by decide +kernel
theorem dX0_read_28 : decode cX0_read 28 = .ok (.istore_n 2, 1) := by decide +kernel
theorem dX0_read_29 : decode cX0_read 29 = .ok (.iload_n 2, 1) := by decide +kernel
theorem dX0_read_30 : decode cX0_read 30 = .ok (.ifCond .ne 9, 3) := by decide +kernel
theorem dX0_read_33 : decode cX0_read 33 = .ok (.aload_n 0, 1) := by decide +kernel
theorem dX0_read_34 : decode cX0_read 34 = .ok (.aload_n 1, 1) := by decide +kernel
theorem dX0_read_35 : decode cX0_read 35 = .ok (.invokevirtual 174, 3) := by decide +kernel
theorem dX0_read_38 : decode cX0_read 38 = .ok (.istore_n 2, 1) := by decide +kernel
theorem dX0_read_39 : decode cX0_read 39 = .ok (.iload_n 2, 1) := by decide +kernel
theorem dX0_read_40 : decode cX0_read 40 = .ok (.ifCond .ne 8, 3) := by decide +kernel
theorem dX0_read_43 : decode cX0_read 43 = .ok (.aload_n 0, 1) := by decide +kernel
theorem dX0_read_44 : decode cX0_read 44 = .ok (.invokevirtual 177, 3) := by decide +kernel
theorem dX0_read_47 : decode cX0_read 47 = .ok (.istore_n 2, 1) := by decide +kernel
theorem dX0_read_48 : decode cX0_read 48 = .ok (.iload_n 2, 1) := by decide +kernel
theorem dX0_read_49 : decode cX0_read 49 = .ok (.ifCond .ne 13, 3) := by decide +kernel
theorem dX0_read_52 : decode cX0_read 52 = .ok (.aload_n 0, 1) := by decide +kernel
theorem dX0_read_53 : decode cX0_read 53 = .ok (.invokevirtual 181, 3) := by decide +kernel
theorem dX0_read_56 : decode cX0_read 56 = .ok (.ifCond .ne 6, 3) := by decide +kernel
theorem dX0_read_59 : decode cX0_read 59 = .ok (.bipush 51, 2) := by decide +kernel
theorem dX0_read_61 : decode cX0_read 61 = .ok (.istore_n 2, 1) := by decide +kernel
theorem dX0_read_62 : decode cX0_read 62 = .ok (.iload_n 2, 1) := by decide +kernel
theorem dX0_read_63 : decode cX0_read 63 = .ok (.ifCond .eq 9, 3) := by decide +kernel
theorem dX0_read_66 : decode cX0_read 66 = .ok (.aload_n 0, 1) := by decide +kernel
theorem dX0_read_67 : decode cX0_read 67 = .ok (.iload_n 2, 1) := by decide +kernel
theorem dX0_read_68 : decode cX0_read 68 = .ok (.invokevirtual 185, 3) := by decide +kernel
theorem dX0_read_71 : decode cX0_read 71 = .ok (.return_, 1) := by decide +kernel
theorem dX0_read_72 : decode cX0_read 72 = .ok (.aload_n 0, 1) := by decide +kernel
theorem dX0_read_73 : decode cX0_read 73 = .ok (.getfield 81, 3) := by decide +kernel
theorem dX0_read_76 : decode cX0_read 76 = .ok (.lookupswitch 192 #[(1, 92), (2, 99), (8, 106), (20, 128), (24, 135), (256, 68), (257, 75)], 68) := by decide +kernel
theorem dX0_read_144 : decode cX0_read 144 = .ok (.aload_n 0, 1) := by decide +kernel
theorem dX0_read_145 : decode cX0_read 145 = .ok (.invokevirtual 188, 3) := by decide +kernel
theorem dX0_read_148 : decode cX0_read 148 = .ok (.goto 120, 3) := by decide +kernel
theorem dX0_read_151 : decode cX0_read 151 = .ok (.aload_n 0, 1) := by decide +kernel
theorem dX0_read_152 : decode cX0_read 152 = .ok (.getfield 29, 3) := by decide +kernel
theorem dX0_read_155 : decode cX0_read 155 = .ok (.aload_n 0, 1) := by decide +kernel
theorem dX0_read_156 : decode cX0_read 156 = .ok (.getfield 11, 3) := by decide +kernel
theorem dX0_read_159 : decode cX0_read 159 = .ok (.getfield 191, 3) := by decide +kernel
theorem dX0_read_162 : decode cX0_read 162 = .ok (.invokevirtual 137, 3) := by decide +kernel
theorem dX0_read_165 : decode cX0_read 165 = .ok (.goto 103, 3) := by decide +kernel
theorem dX0_read_168 : decode cX0_read 168 = .ok (.aload_n 0, 1) := by decide +kernel
theorem dX0_read_169 : decode cX0_read 169 = .ok (.invokevirtual 194, 3) := by decide +kernel
theorem dX0_read_172 : decode cX0_read 172 = .ok (.goto 96, 3) := by decide +kernel
theorem dX0_read_175 : decode cX0_read 175 = .ok (.aload_n 0, 1) := by decide +kernel
theorem dX0_read_176 : decode cX0_read 176 = .ok (.invokevirtual 197, 3) := by decide +kernel
theorem dX0_read_179 : decode cX0_read 179 = .ok (.goto 89, 3) := by decide +kernel
theorem dX0_read_182 : decode cX0_read 182 = .ok (.aload_n 0, 1) := by decide +kernel
theorem dX0_read_183 : decode cX0_read 183 = .ok (.getfield 67, 3) := by decide +kernel
theorem dX0_read_186 : decode cX0_read 186 = .ok (.aload_n 0, 1) := by decide +kernel
theorem dX0_read_187 : decode cX0_read 187 = .ok (.getfield 11, 3) := by decide +kernel
theorem dX0_read_190 : decode cX0_read 190 = .ok (.getfield 191, 3) := by decide +kernel
theorem dX0_read_193 : decode cX0_read 193 = .ok (.invokevirtual 137, 3) := by decide +kernel
theorem dX0_read_196 : decode cX0_read 196 = .ok (.aload_n 0, 1) := by decide +kernel
theorem dX0_read_197 : decode cX0_read 197 = .ok (.iconst 3, 1) := by decide +kernel
theorem dX0_read_198 : decode cX0_read 198 = .ok (.putfield 74, 3) := by decide +kernel
theorem dX0_read_201 : decode cX0_read 201 = .ok (.goto 67, 3) := by decide +kernel
theorem dX0_read_204 : decode cX0_read 204 = .ok (.aload_n 0, 1) := by decide +kernel
theorem dX0_read_205 : decode cX0_read 205 = .ok (.invokevirtual 200, 3) := by decide +kernel
theorem dX0_read_208 : decode cX0_read 208 = .ok (.goto 60, 3) := by decide +kernel
theorem dX0_read_211 : decode cX0_read 211 = .ok (.aload_n 0, 1) := by decide +kernel
theorem dX0_read_212 : decode cX0_read 212 = .ok (.getfield 40, 3) := by decide +kernel
theorem dX0_read_215 : decode cX0_read 215 = .ok (.aload_n 0, 1) := by decide +kernel
theorem dX0_read_216 : decode cX0_read 216 = .ok (.getfield 11, 3) := by decide +kernel
theorem dX0_read_219 : decode cX0_read 219 = .ok (.getfield 45, 3) := by decide +kernel
theorem dX0_read_222 : decode cX0_read 222 = .ok (.aload_n 0, 1) := by decide +kernel
theorem dX0_read_223 : decode cX0_read 223 = .ok (.getfield 40, 3) := by decide +kernel
theorem dX0_read_226 : decode cX0_read 226 = .ok (.getfield 148, 3) := by decide +kernel
theorem dX0_read_229 : decode cX0_read 229 = .ok (.ldc 151, 2) := by decide +kernel
theorem dX0_read_231 : decode cX0_read 231 = .ok (.aload_n 0, 1) := by decide +kernel
theorem dX0_read_232 : decode cX0_read 232 = .ok (.getfield 11, 3) := by decide +kernel
theorem dX0_read_235 : decode cX0_read 235 = .ok (.getfield 45, 3) := by decide +kernel
theorem dX0_read_238 : decode cX0_read 238 = .ok (.getfield 153, 3) := by decide +kernel
theorem dX0_read_241 : decode cX0_read 241 = .ok (.invokevirtual 158, 3) := by decide +kernel
theorem dX0_read_244 : decode cX0_read 244 = .ok (.aload_n 0, 1) := by decide +kernel
theorem dX0_read_245 : decode cX0_read 245 = .ok (.invokevirtual 203, 3) := by decide +kernel
theorem dX0_read_248 : decode cX0_read 248 = .ok (.ifCond .eq 20, 3) := by decide +kernel
theorem dX0_read_251 : decode cX0_read 251 = .ok (.aload_n 0, 1) := by decide +kernel
theorem dX0_read_252 : decode cX0_read 252 = .ok (.iconst 0, 1) := by decide +kernel
theorem dX0_read_253 : decode cX0_read 253 = .ok (.invokevirtual 206, 3) := by decide +kernel
theorem dX0_read_256 : decode cX0_read 256 = .ok (.ifCond .ne 12, 3) := by decide +kernel
theorem dX0_read_259 : decode cX0_read 259 = .ok (.aload_n 0, 1) := by decide +kernel
theorem dX0_read_260 : decode cX0_read 260 = .ok (.bipush 7, 2) := by decide +kernel
theorem dX0_read_262 : decode cX0_read 262 = .ok (.putfield 74, 3) := by decide +kernel
theorem dX0_read_265 : decode cX0_read 265 = .ok (.goto 3, 3) := by decide +kernel
theorem dX0_read_268 : decode cX0_read 268 = .ok (.return_, 1) := by decide +kernel
theorem dX0_lookAtFrame_0 : decode cX0_lookAtFrame 0 = .ok (.aload_n 0, 1) := by decide +kernel
theorem dX0_lookAtFrame_1 : decode cX0_lookAtFrame 1 = .ok (.getfield 100, 3) := by decide +kernel
theorem dX0_lookAtFrame_4 : decode cX0_lookAtFrame 4 = .ok (.iconst 5, 1) := by decide +kernel
theorem dX0_lookAtFrame_5 : decode cX0_lookAtFrame 5 = .ok (.if_icmp .ge 6, 3) := by decide +kernel
theorem dX0_lookAtFrame_8 : decode cX0_lookAtFrame 8 = .ok (.bipush 50, 2) := by decide +kernel
theorem dX0_lookAtFrame_10 : decode cX0_lookAtFrame 10 = .ok (.ireturn, 1) := by decide +kernel
theorem dX0_lookAtFrame_11 : decode cX0_lookAtFrame 11 = .ok (.aload_n 0, 1) := by decide +kernel
theorem dX0_lookAtFrame_12 : decode cX0_lookAtFrame 12 = .ok (.iconst 3, 1) := by decide +kernel
theorem dX0_lookAtFrame_13 : decode cX0_lookAtFrame 13 = .ok (.invokevirtual 210, 3) := by decide +kernel
theorem dX0_lookAtFrame_16 : decode cX0_lookAtFrame 16 = .ok (.istore_n 1, 1) := by decide +kernel
theorem dX0_lookAtFrame_17 : decode cX0_lookAtFrame 17 = .ok (.iload_n 1, 1) := by decide +kernel
theorem dX0_lookAtFrame_18 : decode cX0_lookAtFrame 18 = .ok (.aload_n 0, 1) := by decide +kernel
theorem dX0_lookAtFrame_19 : decode cX0_lookAtFrame 19 = .ok (.iconst 0, 1) := by decide +kernel
theorem dX0_lookAtFrame_20 : decode cX0_lookAtFrame 20 = .ok (.invokevirtual 214, 3) := by decide +kernel
theorem dX0_lookAtFrame_23 : decode cX0_lookAtFrame 23 = .ok (.bipush 23, 2) := by decide +kernel
theorem dX0_lookAtFrame_25 : decode cX0_lookAtFrame 25 = .ok (.if_icmp .ne 9, 3) := by decide +kernel
theorem dX0_lookAtFrame_28 : decode cX0_lookAtFrame 28 = .ok (.sipush 16640, 3) := by decide +kernel
theorem dX0_lookAtFrame_31 : decode cX0_lookAtFrame 31 = .ok (.goto 6, 3) := by decide +kernel
theorem dX0_lookAtFrame_34 : decode cX0_lookAtFrame 34 = .ok (.sipush 16384, 3) := by decide +kernel
theorem dX0_lookAtFrame_37 : decode cX0_lookAtFrame 37 = .ok (.if_icmp .le 6, 3) := by decide +kernel
theorem dX0_lookAtFrame_40 : decode cX0_lookAtFrame 40 = .ok (.bipush 22, 2) := by decide +kernel
theorem dX0_lookAtFrame_42 : decode cX0_lookAtFrame 42 = .ok (.ireturn, 1) := by decide +kernel
theorem dX0_lookAtFrame_43 : decode cX0_lookAtFrame 43 = .ok (.aload_n 0, 1) := by decide +kernel
theorem dX0_lookAtFrame_44 : decode cX0_lookAtFrame 44 = .ok (.getfield 100, 3) := by decide +kernel
theorem dX0_lookAtFrame_47 : decode cX0_lookAtFrame 47 = .ok (.iconst 5, 1) := by decide +kernel
theorem dX0_lookAtFrame_48 : decode cX0_lookAtFrame 48 = .ok (.iload_n 1, 1) := by decide +kernel
theorem dX0_lookAtFrame_49 : decode cX0_lookAtFrame 49 = .ok (.iadd, 1) := by decide +kernel
theorem dX0_lookAtFrame_50 : decode cX0_lookAtFrame 50 = .ok (.if_icmp .eq 6, 3) := by decide +kernel
theorem dX0_lookAtFrame_53 : decode cX0_lookAtFrame 53 = .ok (.bipush 50, 2) := by decide +kernel
theorem dX0_lookAtFrame_55 : decode cX0_lookAtFrame 55 = .ok (.ireturn, 1) := by decide +kernel
theorem dX0_lookAtFrame_56 : decode cX0_lookAtFrame 56 = .ok (.aload_n 0, 1) := by decide +kernel
theorem dX0_lookAtFrame_57 : decode cX0_lookAtFrame 57 = .ok (.iconst 1, 1) := by decide +kernel
theorem dX0_lookAtFrame_58 : decode cX0_lookAtFrame 58 = .ok (.invokevirtual 214, 3) := by decide +kernel
theorem dX0_lookAtFrame_61 : decode cX0_lookAtFrame 61 = .ok (.iconst 3, 1) := by decide +kernel
theorem dX0_lookAtFrame_62 : decode cX0_lookAtFrame 62 = .ok (.if_icmp .ne 16, 3) := by decide +kernel
theorem dX0_lookAtFrame_65 : decode cX0_lookAtFrame 65 = .ok (.aload_n 0, 1) := by decide +kernel
theorem dX0_lookAtFrame_66 : decode cX0_lookAtFrame 66 = .ok (.iconst 2, 1) := by decide +kernel
theorem dX0_lookAtFrame_67 : decode cX0_lookAtFrame 67 = .ok (.invokevirtual 214, 3) := by decide +kernel
theorem dX0_lookAtFrame_70 : decode cX0_lookAtFrame 70 = .ok (.iconst 3, 1) := by decide +kernel
theorem dX0_lookAtFrame_71 : decode cX0_lookAtFrame 71 = .ok (.if_icmp .ne 7, 3) := by decide +kernel
theorem dX0_lookAtFrame_74 : decode cX0_lookAtFrame 74 = .ok (.iconst 0, 1) := by decide +kernel
theorem dX0_lookAtFrame_75 : decode cX0_lookAtFrame 75 = .ok (.goto 5, 3) := by decide +kernel
theorem dX0_lookAtFrame_78 : decode cX0_lookAtFrame 78 = .ok (.bipush 70, 2) := by decide +kernel
theorem dX0_lookAtFrame_80 : decode cX0_lookAtFrame 80 = .ok (.ireturn, 1) := by decide +kernel
theorem dX0_unwrap_0 : decode cX0_unwrap 0 = .ok (.aload_n 0, 1) := by decide +kernel
theorem dX0_unwrap_1 : decode cX0_unwrap 1 = .ok (.aload_n 1, 1) := by decide +kernel
theorem dX0_unwrap_2 : decode cX0_unwrap 2 = .ok (.iconst 0, 1) := by decide +kernel
theorem dX0_unwrap_3 : decode cX0_unwrap 3 = .ok (.invokevirtual 214, 3) := by decide +kernel
theorem dX0_unwrap_6 : decode cX0_unwrap 6 = .ok (.putfield 78, 3) := by decide +kernel
theorem dX0_unwrap_9 : decode cX0_unwrap 9 = .ok (.aload_n 0, 1) := by decide +kernel
theorem dX0_unwrap_10 : decode cX0_unwrap 10 = .ok (.getfield 78, 3) := by decide +kernel
theorem dX0_unwrap_13 : decode cX0_unwrap 13 = .ok (.bipush 20, 2) := by decide +kernel
theorem dX0_unwrap_15 : decode cX0_unwrap 15 = .ok (.if_icmp .ne 25, 3) := by decide +kernel
theorem dX0_unwrap_18 : decode cX0_unwrap 18 = .ok (.aload_n 0, 1) := by decide +kernel
theorem dX0_unwrap_19 : decode cX0_unwrap 19 = .ok (.sipush 256, 3) := by decide +kernel
theorem dX0_unwrap_22 : decode cX0_unwrap 22 = .ok (.putfield 78, 3) := by decide +kernel
theorem dX0_unwrap_25 : decode cX0_unwrap 25 = .ok (.aload_n 0, 1) := by decide +kernel
theorem dX0_unwrap_26 : decode cX0_unwrap 26 = .ok (.aload_n 1, 1) := by decide +kernel
theorem dX0_unwrap_27 : decode cX0_unwrap 27 = .ok (.invokevirtual 217, 3) := by decide +kernel
theorem dX0_unwrap_30 : decode cX0_unwrap 30 = .ok (.ifCond .eq 7, 3) := by decide +kernel
theorem dX0_unwrap_33 : decode cX0_unwrap 33 = .ok (.iconst 0, 1) := by decide +kernel
theorem dX0_unwrap_34 : decode cX0_unwrap 34 = .ok (.goto 5, 3) := by decide +kernel
theorem dX0_unwrap_37 : decode cX0_unwrap 37 = .ok (.bipush 10, 2) := by decide +kernel
theorem dX0_unwrap_39 : decode cX0_unwrap 39 = .ok (.ireturn, 1) := by decide +kernel
theorem dX0_unwrap_40 : decode cX0_unwrap 40 = .ok (.aload_n 0, 1) := by decide +kernel
theorem dX0_unwrap_41 : decode cX0_unwrap 41 = .ok (.getfield 40, 3) := by decide +kernel
theorem dX0_unwrap_44 : decode cX0_unwrap 44 = .ok (.getfield 221, 3) := by decide +kernel
theorem dX0_unwrap_47 : decode cX0_unwrap 47 = .ok (.aload_n 0, 1) := by decide +kernel
theorem dX0_unwrap_48 : decode cX0_unwrap 48 = .ok (.getfield 78, 3) := by decide +kernel
theorem dX0_unwrap_51 : decode cX0_unwrap 51 = .ok (.bipush 23, 2) := by decide +kernel
theorem dX0_unwrap_53 : decode cX0_unwrap 53 = .ok (.if_icmp .ne 7, 3) := by decide +kernel
theorem dX0_unwrap_56 : decode cX0_unwrap 56 = .ok (.iconst 1, 1) := by decide +kernel
theorem dX0_unwrap_57 : decode cX0_unwrap 57 = .ok (.goto 4, 3) := by decide +kernel
theorem dX0_unwrap_60 : decode cX0_unwrap 60 = .ok (.iconst 0, 1) := by decide +kernel
theorem dX0_unwrap_61 : decode cX0_unwrap 61 = .ok (.if_icmp .eq 6, 3) := by decide +kernel
theorem dX0_unwrap_64 : decode cX0_unwrap 64 = .ok (.bipush 10, 2) := by decide +kernel
theorem dX0_unwrap_66 : decode cX0_unwrap 66 = .ok (.ireturn, 1) := by decide +kernel
theorem dX0_unwrap_67 : decode cX0_unwrap 67 = .ok (.aload_n 0, 1) := by decide +kernel
theorem dX0_unwrap_68 : decode cX0_unwrap 68 = .ok (.getfield 40, 3) := by decide +kernel
theorem dX0_unwrap_71 : decode cX0_unwrap 71 = .ok (.getfield 221, 3) := by decide +kernel
theorem dX0_unwrap_74 : decode cX0_unwrap 74 = .ok (.ifCond .ne 21, 3) := by decide +kernel
theorem dX0_unwrap_77 : decode cX0_unwrap 77 = .ok (.aload_n 0, 1) := by decide +kernel
theorem dX0_unwrap_78 : decode cX0_unwrap 78 = .ok (.getfield 11, 3) := by decide +kernel
theorem dX0_unwrap_81 : decode cX0_unwrap 81 = .ok (.getfield 191, 3) := by decide +kernel
theorem dX0_unwrap_84 : decode cX0_unwrap 84 = .ok (.aload_n 1, 1) := by decide +kernel
theorem dX0_unwrap_85 : decode cX0_unwrap 85 = .ok (.iconst 5, 1) := by decide +kernel
theorem dX0_unwrap_86 : decode cX0_unwrap 86 = .ok (.aload_n 1, 1) := by decide +kernel
theorem dX0_unwrap_87 : decode cX0_unwrap 87 = .ok (.getfield 100, 3) := by decide +kernel
theorem dX0_unwrap_90 : decode cX0_unwrap 90 = .ok (.invokevirtual 224, 3) := by decide +kernel
theorem dX0_unwrap_93 : decode cX0_unwrap 93 = .ok (.iconst 0, 1) := by decide +kernel
theorem dX0_unwrap_94 : decode cX0_unwrap 94 = .ok (.ireturn, 1) := by decide +kernel
theorem dX0_unwrap_95 : decode cX0_unwrap 95 = .ok (.aload_n 0, 1) := by decide +kernel
theorem dX0_unwrap_96 : decode cX0_unwrap 96 = .ok (.getfield 11, 3) := by decide +kernel
theorem dX0_unwrap_99 : decode cX0_unwrap 99 = .ok (.getfield 227, 3) := by decide +kernel
theorem dX0_unwrap_102 : decode cX0_unwrap 102 = .ok (.aload_n 0, 1) := by decide +kernel
theorem dX0_unwrap_103 : decode cX0_unwrap 103 = .ok (.getfield 40, 3) := by decide +kernel
theorem dX0_unwrap_106 : decode cX0_unwrap 106 = .ok (.aload_n 1, 1) := by decide +kernel
theorem dX0_unwrap_107 : decode cX0_unwrap 107 = .ok (.aload_n 0, 1) := by decide +kernel
theorem dX0_unwrap_108 : decode cX0_unwrap 108 = .ok (.getfield 11, 3) := by decide +kernel
theorem dX0_unwrap_111 : decode cX0_unwrap 111 = .ok (.getfield 191, 3) := by decide +kernel
theorem dX0_unwrap_114 : decode cX0_unwrap 114 = .ok (.invokevirtual 231, 3) := by decide +kernel
theorem dX0_unwrap_117 : decode cX0_unwrap 117 = .ok (.ifCond .ne 6, 3) := by decide +kernel
theorem dX0_unwrap_120 : decode cX0_unwrap 120 = .ok (.bipush 20, 2) := by decide +kernel
theorem dX0_unwrap_122 : decode cX0_unwrap 122 = .ok (.ireturn, 1) := by decide +kernel
theorem dX0_unwrap_123 : decode cX0_unwrap 123 = .ok (.aload_n 0, 1) := by decide +kernel
theorem dX0_unwrap_124 : decode cX0_unwrap 124 = .ok (.aload_n 0, 1) := by decide +kernel
theorem dX0_unwrap_125 : decode cX0_unwrap 125 = .ok (.getfield 11, 3) := by decide +kernel
theorem dX0_unwrap_128 : decode cX0_unwrap 128 = .ok (.getfield 191, 3) := by decide +kernel
theorem dX0_unwrap_131 : decode cX0_unwrap 131 = .ok (.invokestatic 237, 3) := by decide +kernel
theorem dX0_unwrap_134 : decode cX0_unwrap 134 = .ok (.putfield 78, 3) := by decide +kernel
theorem dX0_unwrap_137 : decode cX0_unwrap 137 = .ok (.aload_n 0, 1) := by decide +kernel
theorem dX0_unwrap_138 : decode cX0_unwrap 138 = .ok (.getfield 78, 3) := by decide +kernel
theorem dX0_unwrap_141 : decode cX0_unwrap 141 = .ok (.iconst (-1), 1) := by decide +kernel
theorem dX0_unwrap_142 : decode cX0_unwrap 142 = .ok (.if_icmp .ne 8, 3) := by decide +kernel
theorem dX0_unwrap_145 : decode cX0_unwrap 145 = .ok (.bipush 10, 2) := by decide +kernel
theorem dX0_unwrap_147 : decode cX0_unwrap 147 = .ok (.goto 4, 3) := by decide +kernel
theorem dX0_unwrap_150 : decode cX0_unwrap 150 = .ok (.iconst 0, 1) := by decide +kernel
theorem dX0_unwrap_151 : decode cX0_unwrap 151 = .ok (.ireturn, 1) := by decide +kernel
theorem dX0_isHarmlessChange_0 : decode cX0_isHarmlessChange 0 = .ok (.aload_n 1, 1) := by decide +kernel
theorem dX0_isHarmlessChange_1 : decode cX0_isHarmlessChange 1 = .ok (.getfield 100, 3) := by decide +kernel
theorem dX0_isHarmlessChange_4 : decode cX0_isHarmlessChange 4 = .ok (.bipush 6, 2) := by decide +kernel
theorem dX0_isHarmlessChange_6 : decode cX0_isHarmlessChange 6 = .ok (.if_icmp .ne 16, 3) := by decide +kernel
theorem dX0_isHarmlessChange_9 : decode cX0_isHarmlessChange 9 = .ok (.aload_n 1, 1) := by decide +kernel
theorem dX0_isHarmlessChange_10 : decode cX0_isHarmlessChange 10 = .ok (.iconst 5, 1) := by decide +kernel
theorem dX0_isHarmlessChange_11 : decode cX0_isHarmlessChange 11 = .ok (.invokevirtual 214, 3) := by decide +kernel
theorem dX0_isHarmlessChange_14 : decode cX0_isHarmlessChange 14 = .ok (.iconst 1, 1) := by decide +kernel
theorem dX0_isHarmlessChange_15 : decode cX0_isHarmlessChange 15 = .ok (.if_icmp .ne 7, 3) := by decide +kernel
theorem dX0_isHarmlessChange_18 : decode cX0_isHarmlessChange 18 = .ok (.iconst 1, 1) := by decide +kernel
theorem dX0_isHarmlessChange_19 : decode cX0_isHarmlessChange 19 = .ok (.goto 4, 3) := by decide +kernel
theorem dX0_isHarmlessChange_22 : decode cX0_isHarmlessChange 22 = .ok (.iconst 0, 1) := by decide +kernel
theorem dX0_isHarmlessChange_23 : decode cX0_isHarmlessChange 23 = .ok (.istore_n 2, 1) := by decide +kernel
theorem dX0_isHarmlessChange_24 : decode cX0_isHarmlessChange 24 = .ok (.iload_n 2, 1) := by decide +kernel
theorem dX0_isHarmlessChange_25 : decode cX0_isHarmlessChange 25 = .ok (.ifCond .eq 24, 3) := by decide +kernel
theorem dX0_isHarmlessChange_28 : decode cX0_isHarmlessChange 28 = .ok (.aload_n 0, 1) := by decide +kernel
theorem dX0_isHarmlessChange_29 : decode cX0_isHarmlessChange 29 = .ok (.getfield 74, 3) := by decide +kernel
theorem dX0_isHarmlessChange_32 : decode cX0_isHarmlessChange 32 = .ok (.iconst 4, 1) := by decide +kernel
theorem dX0_isHarmlessChange_33 : decode cX0_isHarmlessChange 33 = .ok (.if_icmp .eq 16, 3) := by decide +kernel
theorem dX0_isHarmlessChange_36 : decode cX0_isHarmlessChange 36 = .ok (.aload_n 0, 1) := by decide +kernel
theorem dX0_isHarmlessChange_37 : decode cX0_isHarmlessChange 37 = .ok (.getfield 74, 3) := by decide +kernel
theorem dX0_isHarmlessChange_40 : decode cX0_isHarmlessChange 40 = .ok (.bipush 6, 2) := by decide +kernel
theorem dX0_isHarmlessChange_42 : decode cX0_isHarmlessChange 42 = .ok (.if_icmp .eq 7, 3) := by decide +kernel
theorem dX0_isHarmlessChange_45 : decode cX0_isHarmlessChange 45 = .ok (.iconst 1, 1) := by decide +kernel
theorem dX0_isHarmlessChange_46 : decode cX0_isHarmlessChange 46 = .ok (.goto 4, 3) := by decide +kernel
theorem dX0_isHarmlessChange_49 : decode cX0_isHarmlessChange 49 = .ok (.iconst 0, 1) := by decide +kernel
theorem dX0_isHarmlessChange_50 : decode cX0_isHarmlessChange 50 = .ok (.ireturn, 1) := by decide +kernel
theorem dX0_takeInnerType_0 : decode cX0_takeInnerType 0 = .ok (.aload_n 0, 1) := by decide +kernel
theorem dX0_takeInnerType_1 : decode cX0_takeInnerType 1 = .ok (.getfield 100, 3) := by decide +kernel
theorem dX0_takeInnerType_4 : decode cX0_takeInnerType 4 = .ok (.iconst 1, 1) := by decide +kernel
theorem dX0_takeInnerType_5 : decode cX0_takeInnerType 5 = .ok (.isub, 1) := by decide +kernel
theorem dX0_takeInnerType_6 : decode cX0_takeInnerType 6 = .ok (.istore_n 1, 1) := by decide +kernel
theorem dX0_takeInnerType_7 : decode cX0_takeInnerType 7 = .ok (.iload_n 1, 1) := by decide +kernel
theorem dX0_takeInnerType_8 : decode cX0_takeInnerType 8 = .ok (.ifCond .lt 17, 3) := by decide +kernel
theorem dX0_takeInnerType_11 : decode cX0_takeInnerType 11 = .ok (.aload_n 0, 1) := by decide +kernel
theorem dX0_takeInnerType_12 : decode cX0_takeInnerType 12 = .ok (.iload_n 1, 1) := by decide +kernel
theorem dX0_takeInnerType_13 : decode cX0_takeInnerType 13 = .ok (.invokevirtual 214, 3) := by decide +kernel
theorem dX0_takeInnerType_16 : decode cX0_takeInnerType 16 = .ok (.ifCond .ne 9, 3) := by decide +kernel
theorem dX0_takeInnerType_19 : decode cX0_takeInnerType 19 = .ok (.iinc 1 (-1), 3) := by decide +kernel
theorem dX0_takeInnerType_22 : decode cX0_takeInnerType 22 = .ok (.goto (-15), 3) := by decide +kernel
theorem dX0_takeInnerType_25 : decode cX0_takeInnerType 25 = .ok (.aload_n 0, 1) := by decide +kernel
theorem dX0_takeInnerType_26 : decode cX0_takeInnerType 26 = .ok (.iload_n 1, 1) := by decide +kernel
theorem dX0_takeInnerType_27 : decode cX0_takeInnerType 27 = .ok (.invokevirtual 214, 3) := by decide +kernel
theorem dX0_takeInnerType_30 : decode cX0_takeInnerType 30 = .ok (.istore_n 2, 1) := by decide +kernel
theorem dX0_takeInnerType_31 : decode cX0_takeInnerType 31 = .ok (.aload_n 0, 1) := by decide +kernel
theorem dX0_takeInnerType_32 : decode cX0_takeInnerType 32 = .ok (.iload_n 1, 1) := by decide +kernel
theorem dX0_takeInnerType_33 : decode cX0_takeInnerType 33 = .ok (.iconst 0, 1) := by decide +kernel
theorem dX0_takeInnerType_34 : decode cX0_takeInnerType 34 = .ok (.invokestatic 240, 3) := by decide +kernel
theorem dX0_takeInnerType_37 : decode cX0_takeInnerType 37 = .ok (.invokevirtual 246, 3) := by decide +kernel
theorem dX0_takeInnerType_40 : decode cX0_takeInnerType 40 = .ok (.iload_n 2, 1) := by decide +kernel
theorem dX0_takeInnerType_41 : decode cX0_takeInnerType 41 = .ok (.ireturn, 1) := by decide +kernel
theorem dX0_lookAtContent_0 : decode cX0_lookAtContent 0 = .ok (.aload_n 0, 1) := by decide +kernel
theorem dX0_lookAtContent_1 : decode cX0_lookAtContent 1 = .ok (.iconst 0, 1) := by decide +kernel
theorem dX0_lookAtContent_2 : decode cX0_lookAtContent 2 = .ok (.putfield 81, 3) := by decide +kernel
theorem dX0_lookAtContent_5 : decode cX0_lookAtContent 5 = .ok (.aload_n 0, 1) := by decide +kernel
theorem dX0_lookAtContent_6 : decode cX0_lookAtContent 6 = .ok (.getfield 78, 3) := by decide +kernel
theorem dX0_lookAtContent_9 : decode cX0_lookAtContent 9 = .ok (.lookupswitch 108 #[(21, 45), (22, 96), (23, 73), (256, 43)], 43) := by decide +kernel
theorem dX0_lookAtContent_52 : decode cX0_lookAtContent 52 = .ok (.iconst 0, 1) := by decide +kernel
theorem dX0_lookAtContent_53 : decode cX0_lookAtContent 53 = .ok (.ireturn, 1) := by decide +kernel
theorem dX0_lookAtContent_54 : decode cX0_lookAtContent 54 = .ok (.aload_n 0, 1) := by decide +kernel
theorem dX0_lookAtContent_55 : decode cX0_lookAtContent 55 = .ok (.sipush 256, 3) := by decide +kernel
theorem dX0_lookAtContent_58 : decode cX0_lookAtContent 58 = .ok (.putfield 81, 3) := by decide +kernel
theorem dX0_lookAtContent_61 : decode cX0_lookAtContent 61 = .ok (.aload_n 0, 1) := by decide +kernel
theorem dX0_lookAtContent_62 : decode cX0_lookAtContent 62 = .ok (.getfield 11, 3) := by decide +kernel
theorem dX0_lookAtContent_65 : decode cX0_lookAtContent 65 = .ok (.getfield 191, 3) := by decide +kernel
theorem dX0_lookAtContent_68 : decode cX0_lookAtContent 68 = .ok (.getfield 100, 3) := by decide +kernel
theorem dX0_lookAtContent_71 : decode cX0_lookAtContent 71 = .ok (.iconst 2, 1) := by decide +kernel
theorem dX0_lookAtContent_72 : decode cX0_lookAtContent 72 = .ok (.if_icmp .ne 7, 3) := by decide +kernel
theorem dX0_lookAtContent_75 : decode cX0_lookAtContent 75 = .ok (.iconst 0, 1) := by decide +kernel
theorem dX0_lookAtContent_76 : decode cX0_lookAtContent 76 = .ok (.goto 5, 3) := by decide +kernel
theorem dX0_lookAtContent_79 : decode cX0_lookAtContent 79 = .ok (.bipush 50, 2) := by decide +kernel
theorem dX0_lookAtContent_81 : decode cX0_lookAtContent 81 = .ok (.ireturn, 1) := by decide +kernel
theorem dX0_lookAtContent_82 : decode cX0_lookAtContent 82 = .ok (.aload_n 0, 1) := by decide +kernel
theorem dX0_lookAtContent_83 : decode cX0_lookAtContent 83 = .ok (.sipush 257, 3) := by decide +kernel
theorem dX0_lookAtContent_86 : decode cX0_lookAtContent 86 = .ok (.putfield 81, 3) := by decide +kernel
theorem dX0_lookAtContent_89 : decode cX0_lookAtContent 89 = .ok (.aload_n 0, 1) := by decide +kernel
theorem dX0_lookAtContent_90 : decode cX0_lookAtContent 90 = .ok (.getfield 74, 3) := by decide +kernel
theorem dX0_lookAtContent_93 : decode cX0_lookAtContent 93 = .ok (.bipush 6, 2) := by decide +kernel
theorem dX0_lookAtContent_95 : decode cX0_lookAtContent 95 = .ok (.if_icmp .ne 7, 3) := by decide +kernel
theorem dX0_lookAtContent_98 : decode cX0_lookAtContent 98 = .ok (.iconst 0, 1) := by decide +kernel
theorem dX0_lookAtContent_99 : decode cX0_lookAtContent 99 = .ok (.goto 5, 3) := by decide +kernel
theorem dX0_lookAtContent_102 : decode cX0_lookAtContent 102 = .ok (.bipush 10, 2) := by decide +kernel
theorem dX0_lookAtContent_104 : decode cX0_lookAtContent 104 = .ok (.ireturn, 1) := by decide +kernel
theorem dX0_lookAtContent_105 : decode cX0_lookAtContent 105 = .ok (.aload_n 0, 1) := by decide +kernel
theorem dX0_lookAtContent_106 : decode cX0_lookAtContent 106 = .ok (.aload_n 0, 1) := by decide +kernel
theorem dX0_lookAtContent_107 : decode cX0_lookAtContent 107 = .ok (.getfield 11, 3) := by decide +kernel
theorem dX0_lookAtContent_110 : decode cX0_lookAtContent 110 = .ok (.getfield 191, 3) := by decide +kernel
theorem dX0_lookAtContent_113 : decode cX0_lookAtContent 113 = .ok (.invokevirtual 249, 3) := by decide +kernel
theorem dX0_lookAtContent_116 : decode cX0_lookAtContent 116 = .ok (.ireturn, 1) := by decide +kernel
theorem dX0_lookAtContent_117 : decode cX0_lookAtContent 117 = .ok (.bipush 10, 2) := by decide +kernel
theorem dX0_lookAtContent_119 : decode cX0_lookAtContent 119 = .ok (.ireturn, 1) := by decide +kernel
theorem dX0_lookAtMessage_0 : decode cX0_lookAtMessage 0 = .ok (.aload_n 1, 1) := by decide +kernel
theorem dX0_lookAtMessage_1 : decode cX0_lookAtMessage 1 = .ok (.invokestatic 252, 3) := by decide +kernel
theorem dX0_lookAtMessage_4 : decode cX0_lookAtMessage 4 = .ok (.ifCond .ne 6, 3) := by decide +kernel
theorem dX0_lookAtMessage_7 : decode cX0_lookAtMessage 7 = .ok (.bipush 50, 2) := by decide +kernel
theorem dX0_lookAtMessage_9 : decode cX0_lookAtMessage 9 = .ok (.ireturn, 1) := by decide +kernel
theorem dX0_lookAtMessage_10 : decode cX0_lookAtMessage 10 = .ok (.aload_n 0, 1) := by decide +kernel
theorem dX0_lookAtMessage_11 : decode cX0_lookAtMessage 11 = .ok (.aload_n 1, 1) := by decide +kernel
theorem dX0_lookAtMessage_12 : decode cX0_lookAtMessage 12 = .ok (.iconst 0, 1) := by decide +kernel
theorem dX0_lookAtMessage_13 : decode cX0_lookAtMessage 13 = .ok (.invokevirtual 214, 3) := by decide +kernel
theorem dX0_lookAtMessage_16 : decode cX0_lookAtMessage 16 = .ok (.putfield 81, 3) := by decide +kernel
theorem dX0_lookAtMessage_19 : decode cX0_lookAtMessage 19 = .ok (.aload_n 0, 1) := by decide +kernel
theorem dX0_lookAtMessage_20 : decode cX0_lookAtMessage 20 = .ok (.getfield 81, 3) := by decide +kernel
theorem dX0_lookAtMessage_23 : decode cX0_lookAtMessage 23 = .ok (.aload_n 0, 1) := by decide +kernel
theorem dX0_lookAtMessage_24 : decode cX0_lookAtMessage 24 = .ok (.invokevirtual 255, 3) := by decide +kernel
theorem dX0_lookAtMessage_27 : decode cX0_lookAtMessage 27 = .ok (.if_icmp .eq 6, 3) := by decide +kernel
theorem dX0_lookAtMessage_30 : decode cX0_lookAtMessage 30 = .ok (.bipush 10, 2) := by decide +kernel
theorem dX0_lookAtMessage_32 : decode cX0_lookAtMessage 32 = .ok (.ireturn, 1) := by decide +kernel
theorem dX0_lookAtMessage_33 : decode cX0_lookAtMessage 33 = .ok (.aload_n 0, 1) := by decide +kernel
theorem dX0_lookAtMessage_34 : decode cX0_lookAtMessage 34 = .ok (.getfield 81, 3) := by decide +kernel
theorem dX0_lookAtMessage_37 : decode cX0_lookAtMessage 37 = .ok (.lookupswitch 145 #[(1, 43), (2, 49), (8, 98), (20, 129)], 43) := by decide +kernel
theorem dX0_lookAtMessage_80 : decode cX0_lookAtMessage 80 = .ok (.aload_n 0, 1) := by decide +kernel
theorem dX0_lookAtMessage_81 : decode cX0_lookAtMessage 81 = .ok (.aload_n 1, 1) := by decide +kernel
theorem dX0_lookAtMessage_82 : decode cX0_lookAtMessage 82 = .ok (.invokevirtual 258, 3) := by decide +kernel
theorem dX0_lookAtMessage_85 : decode cX0_lookAtMessage 85 = .ok (.ireturn, 1) := by decide +kernel
theorem dX0_lookAtMessage_86 : decode cX0_lookAtMessage 86 = .ok (.aload_n 1, 1) := by decide +kernel
theorem dX0_lookAtMessage_87 : decode cX0_lookAtMessage 87 = .ok (.aload_n 0, 1) := by decide +kernel
theorem dX0_lookAtMessage_88 : decode cX0_lookAtMessage 88 = .ok (.getfield 11, 3) := by decide +kernel
theorem dX0_lookAtMessage_91 : decode cX0_lookAtMessage 91 = .ok (.getfield 261, 3) := by decide +kernel
theorem dX0_lookAtMessage_94 : decode cX0_lookAtMessage 94 = .ok (.invokestatic 264, 3) := by decide +kernel
theorem dX0_lookAtMessage_97 : decode cX0_lookAtMessage 97 = .ok (.aload_n 0, 1) := by decide +kernel
theorem dX0_lookAtMessage_98 : decode cX0_lookAtMessage 98 = .ok (.getfield 11, 3) := by decide +kernel
theorem dX0_lookAtMessage_101 : decode cX0_lookAtMessage 101 = .ok (.getfield 268, 3) := by decide +kernel
theorem dX0_lookAtMessage_104 : decode cX0_lookAtMessage 104 = .ok (.aload_n 0, 1) := by decide +kernel
theorem dX0_lookAtMessage_105 : decode cX0_lookAtMessage 105 = .ok (.getfield 11, 3) := by decide +kernel
theorem dX0_lookAtMessage_108 : decode cX0_lookAtMessage 108 = .ok (.getfield 261, 3) := by decide +kernel
theorem dX0_lookAtMessage_111 : decode cX0_lookAtMessage 111 = .ok (.invokestatic 271, 3) := by decide +kernel
theorem dX0_lookAtMessage_114 : decode cX0_lookAtMessage 114 = .ok (.aload_n 1, 1) := by decide +kernel
theorem dX0_lookAtMessage_115 : decode cX0_lookAtMessage 115 = .ok (.aload_n 0, 1) := by decide +kernel
theorem dX0_lookAtMessage_116 : decode cX0_lookAtMessage 116 = .ok (.getfield 11, 3) := by decide +kernel
theorem dX0_lookAtMessage_119 : decode cX0_lookAtMessage 119 = .ok (.getfield 268, 3) := by decide +kernel
theorem dX0_lookAtMessage_122 : decode cX0_lookAtMessage 122 = .ok (.invokevirtual 274, 3) := by decide +kernel
theorem dX0_lookAtMessage_125 : decode cX0_lookAtMessage 125 = .ok (.ifCond .eq 7, 3) := by decide +kernel
theorem dX0_lookAtMessage_128 : decode cX0_lookAtMessage 128 = .ok (.iconst 0, 1) := by decide +kernel
theorem dX0_lookAtMessage_129 : decode cX0_lookAtMessage 129 = .ok (.goto 5, 3) := by decide +kernel
theorem dX0_lookAtMessage_132 : decode cX0_lookAtMessage 132 = .ok (.bipush 47, 2) := by decide +kernel
theorem dX0_lookAtMessage_134 : decode cX0_lookAtMessage 134 = .ok (.ireturn, 1) := by decide +kernel
theorem dX0_lookAtMessage_135 : decode cX0_lookAtMessage 135 = .ok (.aload_n 0, 1) := by decide +kernel
theorem dX0_lookAtMessage_136 : decode cX0_lookAtMessage 136 = .ok (.getfield 11, 3) := by decide +kernel
theorem dX0_lookAtMessage_139 : decode cX0_lookAtMessage 139 = .ok (.getfield 268, 3) := by decide +kernel
theorem dX0_lookAtMessage_142 : decode cX0_lookAtMessage 142 = .ok (.invokestatic 277, 3) := by decide +kernel
theorem dX0_lookAtMessage_145 : decode cX0_lookAtMessage 145 = .ok (.aload_n 1, 1) := by decide +kernel
theorem dX0_lookAtMessage_146 : decode cX0_lookAtMessage 146 = .ok (.aload_n 0, 1) := by decide +kernel
theorem dX0_lookAtMessage_147 : decode cX0_lookAtMessage 147 = .ok (.getfield 11, 3) := by decide +kernel
theorem dX0_lookAtMessage_150 : decode cX0_lookAtMessage 150 = .ok (.getfield 268, 3) := by decide +kernel
theorem dX0_lookAtMessage_153 : decode cX0_lookAtMessage 153 = .ok (.invokevirtual 274, 3) := by decide +kernel
theorem dX0_lookAtMessage_156 : decode cX0_lookAtMessage 156 = .ok (.ifCond .eq 7, 3) := by decide +kernel
theorem dX0_lookAtMessage_159 : decode cX0_lookAtMessage 159 = .ok (.iconst 0, 1) := by decide +kernel
theorem dX0_lookAtMessage_160 : decode cX0_lookAtMessage 160 = .ok (.goto 5, 3) := by decide +kernel
theorem dX0_lookAtMessage_163 : decode cX0_lookAtMessage 163 = .ok (.bipush 47, 2) := by decide +kernel
theorem dX0_lookAtMessage_165 : decode cX0_lookAtMessage 165 = .ok (.ireturn, 1) := by decide +kernel
theorem dX0_lookAtMessage_166 : decode cX0_lookAtMessage 166 = .ok (.aload_n 1, 1) := by decide +kernel
theorem dX0_lookAtMessage_167 : decode cX0_lookAtMessage 167 = .ok (.getfield 100, 3) := by decide +kernel
theorem dX0_lookAtMessage_170 : decode cX0_lookAtMessage 170 = .ok (.bipush 36, 2) := by decide +kernel
theorem dX0_lookAtMessage_172 : decode cX0_lookAtMessage 172 = .ok (.if_icmp .ne 7, 3) := by decide +kernel
theorem dX0_lookAtMessage_175 : decode cX0_lookAtMessage 175 = .ok (.iconst 0, 1) := by decide +kernel
theorem dX0_lookAtMessage_176 : decode cX0_lookAtMessage 176 = .ok (.goto 5, 3) := by decide +kernel
theorem dX0_lookAtMessage_179 : decode cX0_lookAtMessage 179 = .ok (.bipush 50, 2) := by decide +kernel
theorem dX0_lookAtMessage_181 : decode cX0_lookAtMessage 181 = .ok (.ireturn, 1) := by decide +kernel
theorem dX0_lookAtMessage_182 : decode cX0_lookAtMessage 182 = .ok (.aload_n 1, 1) := by decide +kernel
theorem dX0_lookAtMessage_183 : decode cX0_lookAtMessage 183 = .ok (.invokestatic 280, 3) := by decide +kernel
theorem dX0_lookAtMessage_186 : decode cX0_lookAtMessage 186 = .ok (.ireturn, 1) := by decide +kernel
theorem dX0_waitedFor_0 : decode cX0_waitedFor 0 = .ok (.aload_n 0, 1) := by decide +kernel
theorem dX0_waitedFor_1 : decode cX0_waitedFor 1 = .ok (.getfield 74, 3) := by decide +kernel
theorem dX0_waitedFor_4 : decode cX0_waitedFor 4 = .ok (.tableswitch 50 1 6 #[40, 42, 50, 45, 50, 47], 40) := by decide +kernel
theorem dX0_waitedFor_44 : decode cX0_waitedFor 44 = .ok (.iconst 2, 1) := by decide +kernel
theorem dX0_waitedFor_45 : decode cX0_waitedFor 45 = .ok (.ireturn, 1) := by decide +kernel
theorem dX0_waitedFor_46 : decode cX0_waitedFor 46 = .ok (.bipush 8, 2) := by decide +kernel
theorem dX0_waitedFor_48 : decode cX0_waitedFor 48 = .ok (.ireturn, 1) := by decide +kernel
theorem dX0_waitedFor_49 : decode cX0_waitedFor 49 = .ok (.iconst 1, 1) := by decide +kernel
theorem dX0_waitedFor_50 : decode cX0_waitedFor 50 = .ok (.ireturn, 1) := by decide +kernel
theorem dX0_waitedFor_51 : decode cX0_waitedFor 51 = .ok (.bipush 24, 2) := by decide +kernel
theorem dX0_waitedFor_53 : decode cX0_waitedFor 53 = .ok (.ireturn, 1) := by decide +kernel
theorem dX0_waitedFor_54 : decode cX0_waitedFor 54 = .ok (.bipush 20, 2) := by decide +kernel
theorem dX0_waitedFor_56 : decode cX0_waitedFor 56 = .ok (.ireturn, 1) := by decide +kernel
theorem dX0_lookAtClientHello_0 : decode cX0_lookAtClientHello 0 = .ok (.aload_n 1, 1) := by decide +kernel
theorem dX0_lookAtClientHello_1 : decode cX0_lookAtClientHello 1 = .ok (.aload_n 0, 1) := by decide +kernel
theorem dX0_lookAtClientHello_2 : decode cX0_lookAtClientHello 2 = .ok (.getfield 11, 3) := by decide +kernel
theorem dX0_lookAtClientHello_5 : decode cX0_lookAtClientHello 5 = .ok (.getfield 283, 3) := by decide +kernel
theorem dX0_lookAtClientHello_8 : decode cX0_lookAtClientHello 8 = .ok (.invokestatic 286, 3) := by decide +kernel
theorem dX0_lookAtClientHello_11 : decode cX0_lookAtClientHello 11 = .ok (.ifCond .ne 6, 3) := by decide +kernel
theorem dX0_lookAtClientHello_14 : decode cX0_lookAtClientHello 14 = .ok (.bipush 47, 2) := by decide +kernel
theorem dX0_lookAtClientHello_16 : decode cX0_lookAtClientHello 16 = .ok (.ireturn, 1) := by decide +kernel
theorem dX0_lookAtClientHello_17 : decode cX0_lookAtClientHello 17 = .ok (.aload_n 1, 1) := by decide +kernel
theorem dX0_lookAtClientHello_18 : decode cX0_lookAtClientHello 18 = .ok (.aload_n 0, 1) := by decide +kernel
theorem dX0_lookAtClientHello_19 : decode cX0_lookAtClientHello 19 = .ok (.getfield 11, 3) := by decide +kernel
theorem dX0_lookAtClientHello_22 : decode cX0_lookAtClientHello 22 = .ok (.getfield 261, 3) := by decide +kernel
theorem dX0_lookAtClientHello_25 : decode cX0_lookAtClientHello 25 = .ok (.invokestatic 264, 3) := by decide +kernel
theorem dX0_lookAtClientHello_28 : decode cX0_lookAtClientHello 28 = .ok (.aload_n 0, 1) := by decide +kernel
theorem dX0_lookAtClientHello_29 : decode cX0_lookAtClientHello 29 = .ok (.getfield 11, 3) := by decide +kernel
theorem dX0_lookAtClientHello_32 : decode cX0_lookAtClientHello 32 = .ok (.getfield 268, 3) := by decide +kernel
theorem dX0_lookAtClientHello_35 : decode cX0_lookAtClientHello 35 = .ok (.aload_n 0, 1) := by decide +kernel
theorem dX0_lookAtClientHello_36 : decode cX0_lookAtClientHello 36 = .ok (.getfield 11, 3) := by decide +kernel
theorem dX0_lookAtClientHello_39 : decode cX0_lookAtClientHello 39 = .ok (.getfield 261, 3) := by decide +kernel
theorem dX0_lookAtClientHello_42 : decode cX0_lookAtClientHello 42 = .ok (.aload_n 0, 1) := by decide +kernel
theorem dX0_lookAtClientHello_43 : decode cX0_lookAtClientHello 43 = .ok (.getfield 11, 3) := by decide +kernel
theorem dX0_lookAtClientHello_46 : decode cX0_lookAtClientHello 46 = .ok (.getfield 283, 3) := by decide +kernel
theorem dX0_lookAtClientHello_49 : decode cX0_lookAtClientHello 49 = .ok (.invokestatic 117, 3) := by decide +kernel
theorem dX0_lookAtClientHello_52 : decode cX0_lookAtClientHello 52 = .ok (.aload_n 0, 1) := by decide +kernel
theorem dX0_lookAtClientHello_53 : decode cX0_lookAtClientHello 53 = .ok (.getfield 11, 3) := by decide +kernel
theorem dX0_lookAtClientHello_56 : decode cX0_lookAtClientHello 56 = .ok (.getfield 268, 3) := by decide +kernel
theorem dX0_lookAtClientHello_59 : decode cX0_lookAtClientHello 59 = .ok (.getstatic 130, 3) := by decide +kernel
theorem dX0_lookAtClientHello_62 : decode cX0_lookAtClientHello 62 = .ok (.invokevirtual 133, 3) := by decide +kernel
theorem dX0_lookAtClientHello_65 : decode cX0_lookAtClientHello 65 = .ok (.aload_n 1, 1) := by decide +kernel
theorem dX0_lookAtClientHello_66 : decode cX0_lookAtClientHello 66 = .ok (.iconst 0, 1) := by decide +kernel
theorem dX0_lookAtClientHello_67 : decode cX0_lookAtClientHello 67 = .ok (.aload_n 0, 1) := by decide +kernel
theorem dX0_lookAtClientHello_68 : decode cX0_lookAtClientHello 68 = .ok (.getfield 11, 3) := by decide +kernel
theorem dX0_lookAtClientHello_71 : decode cX0_lookAtClientHello 71 = .ok (.getfield 268, 3) := by decide +kernel
theorem dX0_lookAtClientHello_74 : decode cX0_lookAtClientHello 74 = .ok (.invokevirtual 290, 3) := by decide +kernel
theorem dX0_lookAtClientHello_77 : decode cX0_lookAtClientHello 77 = .ok (.ifCond .ne 6, 3) := by decide +kernel
theorem dX0_lookAtClientHello_80 : decode cX0_lookAtClientHello 80 = .ok (.bipush 47, 2) := by decide +kernel
theorem dX0_lookAtClientHello_82 : decode cX0_lookAtClientHello 82 = .ok (.ireturn, 1) := by decide +kernel
theorem dX0_lookAtClientHello_83 : decode cX0_lookAtClientHello 83 = .ok (.aload_n 0, 1) := by decide +kernel
theorem dX0_lookAtClientHello_84 : decode cX0_lookAtClientHello 84 = .ok (.getfield 61, 3) := by decide +kernel
theorem dX0_lookAtClientHello_87 : decode cX0_lookAtClientHello 87 = .ok (.aload_n 0, 1) := by decide +kernel
theorem dX0_lookAtClientHello_88 : decode cX0_lookAtClientHello 88 = .ok (.getfield 11, 3) := by decide +kernel
theorem dX0_lookAtClientHello_91 : decode cX0_lookAtClientHello 91 = .ok (.getfield 283, 3) := by decide +kernel
theorem dX0_lookAtClientHello_94 : decode cX0_lookAtClientHello 94 = .ok (.invokevirtual 274, 3) := by decide +kernel
theorem dX0_lookAtClientHello_97 : decode cX0_lookAtClientHello 97 = .ok (.ifCond .eq 7, 3) := by decide +kernel
theorem dX0_lookAtClientHello_100 : decode cX0_lookAtClientHello 100 = .ok (.iconst 0, 1) := by decide +kernel
theorem dX0_lookAtClientHello_101 : decode cX0_lookAtClientHello 101 = .ok (.goto 5, 3) := by decide +kernel
theorem dX0_lookAtClientHello_104 : decode cX0_lookAtClientHello 104 = .ok (.bipush 115, 2) := by decide +kernel
theorem dX0_lookAtClientHello_106 : decode cX0_lookAtClientHello 106 = .ok (.ireturn, 1) := by decide +kernel
theorem dX0_lookAtUpdate_0 : decode cX0_lookAtUpdate 0 = .ok (.aload_n 0, 1) := by decide +kernel
theorem dX0_lookAtUpdate_1 : decode cX0_lookAtUpdate 1 = .ok (.getfield 100, 3) := by decide +kernel
theorem dX0_lookAtUpdate_4 : decode cX0_lookAtUpdate 4 = .ok (.iconst 5, 1) := by decide +kernel
theorem dX0_lookAtUpdate_5 : decode cX0_lookAtUpdate 5 = .ok (.if_icmp .eq 6, 3) := by decide +kernel
theorem dX0_lookAtUpdate_8 : decode cX0_lookAtUpdate 8 = .ok (.bipush 50, 2) := by decide +kernel
theorem dX0_lookAtUpdate_10 : decode cX0_lookAtUpdate 10 = .ok (.ireturn, 1) := by decide +kernel
theorem dX0_lookAtUpdate_11 : decode cX0_lookAtUpdate 11 = .ok (.aload_n 0, 1) := by decide +kernel
theorem dX0_lookAtUpdate_12 : decode cX0_lookAtUpdate 12 = .ok (.iconst 4, 1) := by decide +kernel
theorem dX0_lookAtUpdate_13 : decode cX0_lookAtUpdate 13 = .ok (.invokevirtual 214, 3) := by decide +kernel
theorem dX0_lookAtUpdate_16 : decode cX0_lookAtUpdate 16 = .ok (.iconst 1, 1) := by decide +kernel
theorem dX0_lookAtUpdate_17 : decode cX0_lookAtUpdate 17 = .ok (.if_icmp .le 8, 3) := by decide +kernel
theorem dX0_lookAtUpdate_20 : decode cX0_lookAtUpdate 20 = .ok (.bipush 47, 2) := by decide +kernel
theorem dX0_lookAtUpdate_22 : decode cX0_lookAtUpdate 22 = .ok (.goto 4, 3) := by decide +kernel
theorem dX0_lookAtUpdate_25 : decode cX0_lookAtUpdate 25 = .ok (.iconst 0, 1) := by decide +kernel
theorem dX0_lookAtUpdate_26 : decode cX0_lookAtUpdate 26 = .ok (.ireturn, 1) := by decide +kernel
theorem dX0_isProven_0 : decode cX0_isProven 0 = .ok (.aload_n 0, 1) := by decide +kernel
theorem dX0_isProven_1 : decode cX0_isProven 1 = .ok (.getfield 11, 3) := by decide +kernel
theorem dX0_isProven_4 : decode cX0_isProven 4 = .ok (.getfield 191, 3) := by decide +kernel
theorem dX0_isProven_7 : decode cX0_isProven 7 = .ok (.astore_n 1, 1) := by decide +kernel
theorem dX0_isProven_8 : decode cX0_isProven 8 = .ok (.aload_n 0, 1) := by decide +kernel
theorem dX0_isProven_9 : decode cX0_isProven 9 = .ok (.getfield 81, 3) := by decide +kernel
theorem dX0_isProven_12 : decode cX0_isProven 12 = .ok (.iconst 1, 1) := by decide +kernel
theorem dX0_isProven_13 : decode cX0_isProven 13 = .ok (.if_icmp .ne 53, 3) := by decide +kernel
theorem dX0_isProven_16 : decode cX0_isProven 16 = .ok (.aload_n 0, 1) := by decide +kernel
theorem dX0_isProven_17 : decode cX0_isProven 17 = .ok (.getfield 11, 3) := by decide +kernel
theorem dX0_isProven_20 : decode cX0_isProven 20 = .ok (.getfield 268, 3) := by decide +kernel
theorem dX0_isProven_23 : decode cX0_isProven 23 = .ok (.aload_n 1, 1) := by decide +kernel
theorem dX0_isProven_24 : decode cX0_isProven 24 = .ok (.iconst 0, 1) := by decide +kernel
theorem dX0_isProven_25 : decode cX0_isProven 25 = .ok (.aload_n 1, 1) := by decide +kernel
theorem dX0_isProven_26 : decode cX0_isProven 26 = .ok (.getfield 100, 3) := by decide +kernel
theorem dX0_isProven_29 : decode cX0_isProven 29 = .ok (.bipush 35, 2) := by decide +kernel
theorem dX0_isProven_31 : decode cX0_isProven 31 = .ok (.isub, 1) := by decide +kernel
theorem dX0_isProven_32 : decode cX0_isProven 32 = .ok (.invokevirtual 224, 3) := by decide +kernel
theorem dX0_isProven_35 : decode cX0_isProven 35 = .ok (.aload_n 0, 1) := by decide +kernel
theorem dX0_isProven_36 : decode cX0_isProven 36 = .ok (.getfield 54, 3) := by decide +kernel
theorem dX0_isProven_39 : decode cX0_isProven 39 = .ok (.aload_n 0, 1) := by decide +kernel
theorem dX0_isProven_40 : decode cX0_isProven 40 = .ok (.getfield 54, 3) := by decide +kernel
theorem dX0_isProven_43 : decode cX0_isProven 43 = .ok (.getfield 121, 3) := by decide +kernel
theorem dX0_isProven_46 : decode cX0_isProven 46 = .ok (.aload_n 0, 1) := by decide +kernel
theorem dX0_isProven_47 : decode cX0_isProven 47 = .ok (.getfield 11, 3) := by decide +kernel
theorem dX0_isProven_50 : decode cX0_isProven 50 = .ok (.getfield 268, 3) := by decide +kernel
theorem dX0_isProven_53 : decode cX0_isProven 53 = .ok (.aload_n 0, 1) := by decide +kernel
theorem dX0_isProven_54 : decode cX0_isProven 54 = .ok (.getfield 11, 3) := by decide +kernel
theorem dX0_isProven_57 : decode cX0_isProven 57 = .ok (.getfield 124, 3) := by decide +kernel
theorem dX0_isProven_60 : decode cX0_isProven 60 = .ok (.invokevirtual 127, 3) := by decide +kernel
theorem dX0_isProven_63 : decode cX0_isProven 63 = .ok (.goto 42, 3) := by decide +kernel
theorem dX0_isProven_66 : decode cX0_isProven 66 = .ok (.aload_n 0, 1) := by decide +kernel
theorem dX0_isProven_67 : decode cX0_isProven 67 = .ok (.getfield 81, 3) := by decide +kernel
theorem dX0_isProven_70 : decode cX0_isProven 70 = .ok (.bipush 20, 2) := by decide +kernel
theorem dX0_isProven_72 : decode cX0_isProven 72 = .ok (.if_icmp .ne 31, 3) := by decide +kernel
theorem dX0_isProven_75 : decode cX0_isProven 75 = .ok (.aload_n 0, 1) := by decide +kernel
theorem dX0_isProven_76 : decode cX0_isProven 76 = .ok (.getfield 54, 3) := by decide +kernel
theorem dX0_isProven_79 : decode cX0_isProven 79 = .ok (.aload_n 0, 1) := by decide +kernel
theorem dX0_isProven_80 : decode cX0_isProven 80 = .ok (.getfield 40, 3) := by decide +kernel
theorem dX0_isProven_83 : decode cX0_isProven 83 = .ok (.getfield 148, 3) := by decide +kernel
theorem dX0_isProven_86 : decode cX0_isProven 86 = .ok (.aload_n 0, 1) := by decide +kernel
theorem dX0_isProven_87 : decode cX0_isProven 87 = .ok (.getfield 67, 3) := by decide +kernel
theorem dX0_isProven_90 : decode cX0_isProven 90 = .ok (.aload_n 0, 1) := by decide +kernel
theorem dX0_isProven_91 : decode cX0_isProven 91 = .ok (.getfield 11, 3) := by decide +kernel
theorem dX0_isProven_94 : decode cX0_isProven 94 = .ok (.getfield 124, 3) := by decide +kernel
theorem dX0_isProven_97 : decode cX0_isProven 97 = .ok (.invokevirtual 127, 3) := by decide +kernel
theorem dX0_isProven_100 : decode cX0_isProven 100 = .ok (.goto 5, 3) := by decide +kernel
theorem dX0_isProven_103 : decode cX0_isProven 103 = .ok (.iconst 1, 1) := by decide +kernel
theorem dX0_isProven_104 : decode cX0_isProven 104 = .ok (.ireturn, 1) := by decide +kernel
theorem dX0_isProven_105 : decode cX0_isProven 105 = .ok (.aload_n 1, 1) := by decide +kernel
theorem dX0_isProven_106 : decode cX0_isProven 106 = .ok (.aload_n 1, 1) := by decide +kernel
theorem dX0_isProven_107 : decode cX0_isProven 107 = .ok (.getfield 100, 3) := by decide +kernel
theorem dX0_isProven_110 : decode cX0_isProven 110 = .ok (.bipush 32, 2) := by decide +kernel
theorem dX0_isProven_112 : decode cX0_isProven 112 = .ok (.isub, 1) := by decide +kernel
theorem dX0_isProven_113 : decode cX0_isProven 113 = .ok (.aload_n 0, 1) := by decide +kernel
theorem dX0_isProven_114 : decode cX0_isProven 114 = .ok (.getfield 11, 3) := by decide +kernel
theorem dX0_isProven_117 : decode cX0_isProven 117 = .ok (.getfield 124, 3) := by decide +kernel
theorem dX0_isProven_120 : decode cX0_isProven 120 = .ok (.invokevirtual 290, 3) := by decide +kernel
theorem dX0_isProven_123 : decode cX0_isProven 123 = .ok (.ireturn, 1) := by decide +kernel
theorem dX0_fail_0 : decode cX0_fail 0 = .ok (.aload_n 0, 1) := by decide +kernel
theorem dX0_fail_1 : decode cX0_fail 1 = .ok (.iload_n 1, 1) := by decide +kernel
theorem dX0_fail_2 : decode cX0_fail 2 = .ok (.putfield 84, 3) := by decide +kernel
theorem dX0_fail_5 : decode cX0_fail 5 = .ok (.aload_n 0, 1) := by decide +kernel
theorem dX0_fail_6 : decode cX0_fail 6 = .ok (.getfield 11, 3) := by decide +kernel
theorem dX0_fail_9 : decode cX0_fail 9 = .ok (.getfield 114, 3) := by decide +kernel
theorem dX0_fail_12 : decode cX0_fail 12 = .ok (.iconst 2, 1) := by decide +kernel
theorem dX0_fail_13 : decode cX0_fail 13 = .ok (.iload_n 1, 1) := by decide +kernel
theorem dX0_fail_14 : decode cX0_fail 14 = .ok (.invokestatic 162, 3) := by decide +kernel
theorem dX0_fail_17 : decode cX0_fail 17 = .ok (.aload_n 0, 1) := by decide +kernel
theorem dX0_fail_18 : decode cX0_fail 18 = .ok (.bipush 21, 2) := by decide +kernel
theorem dX0_fail_20 : decode cX0_fail 20 = .ok (.aload_n 0, 1) := by decide +kernel
theorem dX0_fail_21 : decode cX0_fail 21 = .ok (.getfield 11, 3) := by decide +kernel
theorem dX0_fail_24 : decode cX0_fail 24 = .ok (.getfield 114, 3) := by decide +kernel
theorem dX0_fail_27 : decode cX0_fail 27 = .ok (.invokevirtual 140, 3) := by decide +kernel
theorem dX0_fail_30 : decode cX0_fail 30 = .ok (.pop, 1) := by decide +kernel
theorem dX0_fail_31 : decode cX0_fail 31 = .ok (.aload_n 0, 1) := by decide +kernel
theorem dX0_fail_32 : decode cX0_fail 32 = .ok (.bipush 7, 2) := by decide +kernel
theorem dX0_fail_34 : decode cX0_fail 34 = .ok (.putfield 74, 3) := by decide +kernel
theorem dX0_fail_37 : decode cX0_fail 37 = .ok (.return_, 1) := by decide +kernel
theorem dX0_heed_0 : decode cX0_heed 0 = .ok (.aload_n 0, 1) := by decide +kernel
theorem dX0_heed_1 : decode cX0_heed 1 = .ok (.getfield 11, 3) := by decide +kernel
theorem dX0_heed_4 : decode cX0_heed 4 = .ok (.getfield 191, 3) := by decide +kernel
theorem dX0_heed_7 : decode cX0_heed 7 = .ok (.iconst 1, 1) := by decide +kernel
theorem dX0_heed_8 : decode cX0_heed 8 = .ok (.invokevirtual 214, 3) := by decide +kernel
theorem dX0_heed_11 : decode cX0_heed 11 = .ok (.istore_n 1, 1) := by decide +kernel
theorem dX0_heed_12 : decode cX0_heed 12 = .ok (.aload_n 0, 1) := by decide +kernel
theorem dX0_heed_13 : decode cX0_heed 13 = .ok (.getfield 11, 3) := by decide +kernel
theorem dX0_heed_16 : decode cX0_heed 16 = .ok (.getfield 191, 3) := by decide +kernel
theorem dX0_heed_19 : decode cX0_heed 19 = .ok (.iconst 0, 1) := by decide +kernel
theorem dX0_heed_20 : decode cX0_heed 20 = .ok (.invokevirtual 214, 3) := by decide +kernel
theorem dX0_heed_23 : decode cX0_heed 23 = .ok (.iconst 1, 1) := by decide +kernel
theorem dX0_heed_24 : decode cX0_heed 24 = .ok (.if_icmp .ne 11, 3) := by decide +kernel
theorem dX0_heed_27 : decode cX0_heed 27 = .ok (.iload_n 1, 1) := by decide +kernel
theorem dX0_heed_28 : decode cX0_heed 28 = .ok (.ifCond .ne 7, 3) := by decide +kernel
theorem dX0_heed_31 : decode cX0_heed 31 = .ok (.iconst 1, 1) := by decide +kernel
theorem dX0_heed_32 : decode cX0_heed 32 = .ok (.goto 4, 3) := by decide +kernel
theorem dX0_heed_35 : decode cX0_heed 35 = .ok (.iconst 0, 1) := by decide +kernel
theorem dX0_heed_36 : decode cX0_heed 36 = .ok (.istore_n 2, 1) := by decide +kernel
theorem dX0_heed_37 : decode cX0_heed 37 = .ok (.aload_n 0, 1) := by decide +kernel
theorem dX0_heed_38 : decode cX0_heed 38 = .ok (.iload_n 2, 1) := by decide +kernel
theorem dX0_heed_39 : decode cX0_heed 39 = .ok (.putfield 93, 3) := by decide +kernel
theorem dX0_heed_42 : decode cX0_heed 42 = .ok (.iload_n 2, 1) := by decide +kernel
theorem dX0_heed_43 : decode cX0_heed 43 = .ok (.ifCond .eq 12, 3) := by decide +kernel
theorem dX0_heed_46 : decode cX0_heed 46 = .ok (.aload_n 0, 1) := by decide +kernel
theorem dX0_heed_47 : decode cX0_heed 47 = .ok (.getfield 74, 3) := by decide +kernel
theorem dX0_heed_50 : decode cX0_heed 50 = .ok (.bipush 6, 2) := by decide +kernel
theorem dX0_heed_52 : decode cX0_heed 52 = .ok (.if_icmp .eq 14, 3) := by decide +kernel
theorem dX0_heed_55 : decode cX0_heed 55 = .ok (.aload_n 0, 1) := by decide +kernel
theorem dX0_heed_56 : decode cX0_heed 56 = .ok (.iload_n 1, 1) := by decide +kernel
theorem dX0_heed_57 : decode cX0_heed 57 = .ok (.putfield 87, 3) := by decide +kernel
theorem dX0_heed_60 : decode cX0_heed 60 = .ok (.aload_n 0, 1) := by decide +kernel
theorem dX0_heed_61 : decode cX0_heed 61 = .ok (.bipush 7, 2) := by decide +kernel
theorem dX0_heed_63 : decode cX0_heed 63 = .ok (.putfield 74, 3) := by decide +kernel
theorem dX0_heed_66 : decode cX0_heed 66 = .ok (.return_, 1) := by decide +kernel
theorem dX0_answerHello_0 : decode cX0_answerHello 0 = .ok (.aload_n 0, 1) := by decide +kernel
theorem dX0_answerHello_1 : decode cX0_answerHello 1 = .ok (.getfield 11, 3) := by decide +kernel
theorem dX0_answerHello_4 : decode cX0_answerHello 4 = .ok (.getfield 114, 3) := by decide +kernel
theorem dX0_answerHello_7 : decode cX0_answerHello 7 = .ok (.astore_n 1, 1) := by decide +kernel
theorem dX0_answerHello_8 : decode cX0_answerHello 8 = .ok (.aload_n 0, 1) := by decide +kernel
theorem dX0_answerHello_9 : decode cX0_answerHello 9 = .ok (.getfield 67, 3) := by decide +kernel
theorem dX0_answerHello_12 : decode cX0_answerHello 12 = .ok (.aload_n 0, 1) := by decide +kernel
theorem dX0_answerHello_13 : decode cX0_answerHello 13 = .ok (.getfield 11, 3) := by decide +kernel
theorem dX0_answerHello_16 : decode cX0_answerHello 16 = .ok (.getfield 191, 3) := by decide +kernel
theorem dX0_answerHello_19 : decode cX0_answerHello 19 = .ok (.invokevirtual 107, 3) := by decide +kernel
theorem dX0_answerHello_22 : decode cX0_answerHello 22 = .ok (.aload_n 1, 1) := by decide +kernel
theorem dX0_answerHello_23 : decode cX0_answerHello 23 = .ok (.aload_n 0, 1) := by decide +kernel
theorem dX0_answerHello_24 : decode cX0_answerHello 24 = .ok (.getfield 64, 3) := by decide +kernel
theorem dX0_answerHello_27 : decode cX0_answerHello 27 = .ok (.invokestatic 271, 3) := by decide +kernel
theorem dX0_answerHello_30 : decode cX0_answerHello 30 = .ok (.aload_n 0, 1) := by decide +kernel
theorem dX0_answerHello_31 : decode cX0_answerHello 31 = .ok (.getfield 67, 3) := by decide +kernel
theorem dX0_answerHello_34 : decode cX0_answerHello 34 = .ok (.aload_n 1, 1) := by decide +kernel
theorem dX0_answerHello_35 : decode cX0_answerHello 35 = .ok (.invokevirtual 137, 3) := by decide +kernel
theorem dX0_answerHello_38 : decode cX0_answerHello 38 = .ok (.aload_n 0, 1) := by decide +kernel
theorem dX0_answerHello_39 : decode cX0_answerHello 39 = .ok (.bipush 22, 2) := by decide +kernel
theorem dX0_answerHello_41 : decode cX0_answerHello 41 = .ok (.aload_n 1, 1) := by decide +kernel
theorem dX0_answerHello_42 : decode cX0_answerHello 42 = .ok (.invokevirtual 140, 3) := by decide +kernel
theorem dX0_answerHello_45 : decode cX0_answerHello 45 = .ok (.pop, 1) := by decide +kernel
theorem dX0_answerHello_46 : decode cX0_answerHello 46 = .ok (.aload_n 0, 1) := by decide +kernel
theorem dX0_answerHello_47 : decode cX0_answerHello 47 = .ok (.getfield 11, 3) := by decide +kernel
theorem dX0_answerHello_50 : decode cX0_answerHello 50 = .ok (.getfield 293, 3) := by decide +kernel
theorem dX0_answerHello_53 : decode cX0_answerHello 53 = .ok (.aload_n 0, 1) := by decide +kernel
theorem dX0_answerHello_54 : decode cX0_answerHello 54 = .ok (.getfield 67, 3) := by decide +kernel
theorem dX0_answerHello_57 : decode cX0_answerHello 57 = .ok (.aload_n 0, 1) := by decide +kernel
theorem dX0_answerHello_58 : decode cX0_answerHello 58 = .ok (.getfield 11, 3) := by decide +kernel
theorem dX0_answerHello_61 : decode cX0_answerHello 61 = .ok (.getfield 297, 3) := by decide +kernel
theorem dX0_answerHello_64 : decode cX0_answerHello 64 = .ok (.invokevirtual 300, 3) := by decide +kernel
theorem dX0_answerHello_67 : decode cX0_answerHello 67 = .ok (.aload_n 0, 1) := by decide +kernel
theorem dX0_answerHello_68 : decode cX0_answerHello 68 = .ok (.getfield 40, 3) := by decide +kernel
theorem dX0_answerHello_71 : decode cX0_answerHello 71 = .ok (.aload_n 0, 1) := by decide +kernel
theorem dX0_answerHello_72 : decode cX0_answerHello 72 = .ok (.getfield 11, 3) := by decide +kernel
theorem dX0_answerHello_75 : decode cX0_answerHello 75 = .ok (.getfield 45, 3) := by decide +kernel
theorem dX0_answerHello_78 : decode cX0_answerHello 78 = .ok (.aload_n 0, 1) := by decide +kernel
theorem dX0_answerHello_79 : decode cX0_answerHello 79 = .ok (.getfield 54, 3) := by decide +kernel
theorem dX0_answerHello_82 : decode cX0_answerHello 82 = .ok (.getfield 304, 3) := by decide +kernel
theorem dX0_answerHello_85 : decode cX0_answerHello 85 = .ok (.ldc_w 307, 3) := by decide +kernel
theorem dX0_answerHello_88 : decode cX0_answerHello 88 = .ok (.aload_n 0, 1) := by decide +kernel
theorem dX0_answerHello_89 : decode cX0_answerHello 89 = .ok (.getfield 11, 3) := by decide +kernel
theorem dX0_answerHello_92 : decode cX0_answerHello 92 = .ok (.getfield 297, 3) := by decide +kernel
theorem dX0_answerHello_95 : decode cX0_answerHello 95 = .ok (.invokevirtual 158, 3) := by decide +kernel
theorem dX0_answerHello_98 : decode cX0_answerHello 98 = .ok (.aload_n 0, 1) := by decide +kernel
theorem dX0_answerHello_99 : decode cX0_answerHello 99 = .ok (.getfield 36, 3) := by decide +kernel
theorem dX0_answerHello_102 : decode cX0_answerHello 102 = .ok (.aload_n 0, 1) := by decide +kernel
theorem dX0_answerHello_103 : decode cX0_answerHello 103 = .ok (.getfield 11, 3) := by decide +kernel
theorem dX0_answerHello_106 : decode cX0_answerHello 106 = .ok (.getfield 45, 3) := by decide +kernel
theorem dX0_answerHello_109 : decode cX0_answerHello 109 = .ok (.aload_n 0, 1) := by decide +kernel
theorem dX0_answerHello_110 : decode cX0_answerHello 110 = .ok (.getfield 54, 3) := by decide +kernel
theorem dX0_answerHello_113 : decode cX0_answerHello 113 = .ok (.getfield 304, 3) := by decide +kernel
theorem dX0_answerHello_116 : decode cX0_answerHello 116 = .ok (.ldc_w 309, 3) := by decide +kernel
theorem dX0_answerHello_119 : decode cX0_answerHello 119 = .ok (.aload_n 0, 1) := by decide +kernel
theorem dX0_answerHello_120 : decode cX0_answerHello 120 = .ok (.getfield 11, 3) := by decide +kernel
theorem dX0_answerHello_123 : decode cX0_answerHello 123 = .ok (.getfield 297, 3) := by decide +kernel
theorem dX0_answerHello_126 : decode cX0_answerHello 126 = .ok (.invokevirtual 158, 3) := by decide +kernel
theorem dX0_answerHello_129 : decode cX0_answerHello 129 = .ok (.aload_n 1, 1) := by decide +kernel
theorem dX0_answerHello_130 : decode cX0_answerHello 130 = .ok (.invokestatic 277, 3) := by decide +kernel
theorem dX0_answerHello_133 : decode cX0_answerHello 133 = .ok (.aload_n 0, 1) := by decide +kernel
theorem dX0_answerHello_134 : decode cX0_answerHello 134 = .ok (.getfield 67, 3) := by decide +kernel
theorem dX0_answerHello_137 : decode cX0_answerHello 137 = .ok (.aload_n 1, 1) := by decide +kernel
theorem dX0_answerHello_138 : decode cX0_answerHello 138 = .ok (.invokevirtual 137, 3) := by decide +kernel
theorem dX0_answerHello_141 : decode cX0_answerHello 141 = .ok (.aload_n 0, 1) := by decide +kernel
theorem dX0_answerHello_142 : decode cX0_answerHello 142 = .ok (.bipush 22, 2) := by decide +kernel
theorem dX0_answerHello_144 : decode cX0_answerHello 144 = .ok (.aload_n 1, 1) := by decide +kernel
theorem dX0_answerHello_145 : decode cX0_answerHello 145 = .ok (.invokevirtual 140, 3) := by decide +kernel
theorem dX0_answerHello_148 : decode cX0_answerHello 148 = .ok (.pop, 1) := by decide +kernel
theorem dX0_answerHello_149 : decode cX0_answerHello 149 = .ok (.aload_n 0, 1) := by decide +kernel
theorem dX0_answerHello_150 : decode cX0_answerHello 150 = .ok (.getfield 54, 3) := by decide +kernel
theorem dX0_answerHello_153 : decode cX0_answerHello 153 = .ok (.aload_n 0, 1) := by decide +kernel
theorem dX0_answerHello_154 : decode cX0_answerHello 154 = .ok (.getfield 36, 3) := by decide +kernel
theorem dX0_answerHello_157 : decode cX0_answerHello 157 = .ok (.getfield 148, 3) := by decide +kernel
theorem dX0_answerHello_160 : decode cX0_answerHello 160 = .ok (.aload_n 0, 1) := by decide +kernel
theorem dX0_answerHello_161 : decode cX0_answerHello 161 = .ok (.getfield 67, 3) := by decide +kernel
theorem dX0_answerHello_164 : decode cX0_answerHello 164 = .ok (.aload_n 0, 1) := by decide +kernel
theorem dX0_answerHello_165 : decode cX0_answerHello 165 = .ok (.getfield 11, 3) := by decide +kernel
theorem dX0_answerHello_168 : decode cX0_answerHello 168 = .ok (.getfield 124, 3) := by decide +kernel
theorem dX0_answerHello_171 : decode cX0_answerHello 171 = .ok (.invokevirtual 127, 3) := by decide +kernel
theorem dX0_answerHello_174 : decode cX0_answerHello 174 = .ok (.aload_n 1, 1) := by decide +kernel
theorem dX0_answerHello_175 : decode cX0_answerHello 175 = .ok (.aload_n 0, 1) := by decide +kernel
theorem dX0_answerHello_176 : decode cX0_answerHello 176 = .ok (.getfield 11, 3) := by decide +kernel
theorem dX0_answerHello_179 : decode cX0_answerHello 179 = .ok (.getfield 124, 3) := by decide +kernel
theorem dX0_answerHello_182 : decode cX0_answerHello 182 = .ok (.invokestatic 311, 3) := by decide +kernel
theorem dX0_answerHello_185 : decode cX0_answerHello 185 = .ok (.aload_n 0, 1) := by decide +kernel
theorem dX0_answerHello_186 : decode cX0_answerHello 186 = .ok (.getfield 67, 3) := by decide +kernel
theorem dX0_answerHello_189 : decode cX0_answerHello 189 = .ok (.aload_n 1, 1) := by decide +kernel
theorem dX0_answerHello_190 : decode cX0_answerHello 190 = .ok (.invokevirtual 137, 3) := by decide +kernel
theorem dX0_answerHello_193 : decode cX0_answerHello 193 = .ok (.aload_n 0, 1) := by decide +kernel
theorem dX0_answerHello_194 : decode cX0_answerHello 194 = .ok (.bipush 22, 2) := by decide +kernel
theorem dX0_answerHello_196 : decode cX0_answerHello 196 = .ok (.aload_n 1, 1) := by decide +kernel
theorem dX0_answerHello_197 : decode cX0_answerHello 197 = .ok (.invokevirtual 140, 3) := by decide +kernel
theorem dX0_answerHello_200 : decode cX0_answerHello 200 = .ok (.pop, 1) := by decide +kernel
theorem dX0_answerHello_201 : decode cX0_answerHello 201 = .ok (.aload_n 0, 1) := by decide +kernel
theorem dX0_answerHello_202 : decode cX0_answerHello 202 = .ok (.getfield 11, 3) := by decide +kernel
theorem dX0_answerHello_205 : decode cX0_answerHello 205 = .ok (.getfield 293, 3) := by decide +kernel
theorem dX0_answerHello_208 : decode cX0_answerHello 208 = .ok (.aload_n 0, 1) := by decide +kernel
theorem dX0_answerHello_209 : decode cX0_answerHello 209 = .ok (.getfield 67, 3) := by decide +kernel
theorem dX0_answerHello_212 : decode cX0_answerHello 212 = .ok (.aload_n 0, 1) := by decide +kernel
theorem dX0_answerHello_213 : decode cX0_answerHello 213 = .ok (.getfield 11, 3) := by decide +kernel
theorem dX0_answerHello_216 : decode cX0_answerHello 216 = .ok (.getfield 297, 3) := by decide +kernel
theorem dX0_answerHello_219 : decode cX0_answerHello 219 = .ok (.invokevirtual 300, 3) := by decide +kernel
theorem dX0_answerHello_222 : decode cX0_answerHello 222 = .ok (.aload_n 0, 1) := by decide +kernel
theorem dX0_answerHello_223 : decode cX0_answerHello 223 = .ok (.getfield 36, 3) := by decide +kernel
theorem dX0_answerHello_226 : decode cX0_answerHello 226 = .ok (.aload_n 0, 1) := by decide +kernel
theorem dX0_answerHello_227 : decode cX0_answerHello 227 = .ok (.getfield 11, 3) := by decide +kernel
theorem dX0_answerHello_230 : decode cX0_answerHello 230 = .ok (.getfield 45, 3) := by decide +kernel
theorem dX0_answerHello_233 : decode cX0_answerHello 233 = .ok (.aload_n 0, 1) := by decide +kernel
theorem dX0_answerHello_234 : decode cX0_answerHello 234 = .ok (.getfield 54, 3) := by decide +kernel
theorem dX0_answerHello_237 : decode cX0_answerHello 237 = .ok (.getfield 314, 3) := by decide +kernel
theorem dX0_answerHello_240 : decode cX0_answerHello 240 = .ok (.ldc_w 317, 3) := by decide +kernel
theorem dX0_answerHello_243 : decode cX0_answerHello 243 = .ok (.aload_n 0, 1) := by decide +kernel
theorem dX0_answerHello_244 : decode cX0_answerHello 244 = .ok (.getfield 11, 3) := by decide +kernel
theorem dX0_answerHello_247 : decode cX0_answerHello 247 = .ok (.getfield 297, 3) := by decide +kernel
theorem dX0_answerHello_250 : decode cX0_answerHello 250 = .ok (.invokevirtual 158, 3) := by decide +kernel
theorem dX0_answerHello_253 : decode cX0_answerHello 253 = .ok (.aload_n 0, 1) := by decide +kernel
theorem dX0_answerHello_254 : decode cX0_answerHello 254 = .ok (.iconst 5, 1) := by decide +kernel
theorem dX0_answerHello_255 : decode cX0_answerHello 255 = .ok (.putfield 74, 3) := by decide +kernel
theorem dX0_answerHello_258 : decode cX0_answerHello 258 = .ok (.return_, 1) := by decide +kernel
theorem dX0_takeServerHello_0 : decode cX0_takeServerHello 0 = .ok (.aload_n 0, 1) := by decide +kernel
theorem dX0_takeServerHello_1 : decode cX0_takeServerHello 1 = .ok (.getfield 67, 3) := by decide +kernel
theorem dX0_takeServerHello_4 : decode cX0_takeServerHello 4 = .ok (.aload_n 0, 1) := by decide +kernel
theorem dX0_takeServerHello_5 : decode cX0_takeServerHello 5 = .ok (.getfield 11, 3) := by decide +kernel
theorem dX0_takeServerHello_8 : decode cX0_takeServerHello 8 = .ok (.getfield 191, 3) := by decide +kernel
theorem dX0_takeServerHello_11 : decode cX0_takeServerHello 11 = .ok (.invokevirtual 137, 3) := by decide +kernel
theorem dX0_takeServerHello_14 : decode cX0_takeServerHello 14 = .ok (.aload_n 0, 1) := by decide +kernel
theorem dX0_takeServerHello_15 : decode cX0_takeServerHello 15 = .ok (.getfield 11, 3) := by decide +kernel
theorem dX0_takeServerHello_18 : decode cX0_takeServerHello 18 = .ok (.getfield 293, 3) := by decide +kernel
theorem dX0_takeServerHello_21 : decode cX0_takeServerHello 21 = .ok (.aload_n 0, 1) := by decide +kernel
theorem dX0_takeServerHello_22 : decode cX0_takeServerHello 22 = .ok (.getfield 67, 3) := by decide +kernel
theorem dX0_takeServerHello_25 : decode cX0_takeServerHello 25 = .ok (.aload_n 0, 1) := by decide +kernel
theorem dX0_takeServerHello_26 : decode cX0_takeServerHello 26 = .ok (.getfield 11, 3) := by decide +kernel
theorem dX0_takeServerHello_29 : decode cX0_takeServerHello 29 = .ok (.getfield 297, 3) := by decide +kernel
theorem dX0_takeServerHello_32 : decode cX0_takeServerHello 32 = .ok (.invokevirtual 300, 3) := by decide +kernel
theorem dX0_takeServerHello_35 : decode cX0_takeServerHello 35 = .ok (.aload_n 0, 1) := by decide +kernel
theorem dX0_takeServerHello_36 : decode cX0_takeServerHello 36 = .ok (.getfield 40, 3) := by decide +kernel
theorem dX0_takeServerHello_39 : decode cX0_takeServerHello 39 = .ok (.aload_n 0, 1) := by decide +kernel
theorem dX0_takeServerHello_40 : decode cX0_takeServerHello 40 = .ok (.getfield 11, 3) := by decide +kernel
theorem dX0_takeServerHello_43 : decode cX0_takeServerHello 43 = .ok (.getfield 45, 3) := by decide +kernel
theorem dX0_takeServerHello_46 : decode cX0_takeServerHello 46 = .ok (.aload_n 0, 1) := by decide +kernel
theorem dX0_takeServerHello_47 : decode cX0_takeServerHello 47 = .ok (.getfield 54, 3) := by decide +kernel
theorem dX0_takeServerHello_50 : decode cX0_takeServerHello 50 = .ok (.getfield 304, 3) := by decide +kernel
theorem dX0_takeServerHello_53 : decode cX0_takeServerHello 53 = .ok (.ldc_w 309, 3) := by decide +kernel
theorem dX0_takeServerHello_56 : decode cX0_takeServerHello 56 = .ok (.aload_n 0, 1) := by decide +kernel
theorem dX0_takeServerHello_57 : decode cX0_takeServerHello 57 = .ok (.getfield 11, 3) := by decide +kernel
theorem dX0_takeServerHello_60 : decode cX0_takeServerHello 60 = .ok (.getfield 297, 3) := by decide +kernel
theorem dX0_takeServerHello_63 : decode cX0_takeServerHello 63 = .ok (.invokevirtual 158, 3) := by decide +kernel
theorem dX0_takeServerHello_66 : decode cX0_takeServerHello 66 = .ok (.aload_n 0, 1) := by decide +kernel
theorem dX0_takeServerHello_67 : decode cX0_takeServerHello 67 = .ok (.getfield 36, 3) := by decide +kernel
theorem dX0_takeServerHello_70 : decode cX0_takeServerHello 70 = .ok (.aload_n 0, 1) := by decide +kernel
theorem dX0_takeServerHello_71 : decode cX0_takeServerHello 71 = .ok (.getfield 11, 3) := by decide +kernel
theorem dX0_takeServerHello_74 : decode cX0_takeServerHello 74 = .ok (.getfield 45, 3) := by decide +kernel
theorem dX0_takeServerHello_77 : decode cX0_takeServerHello 77 = .ok (.aload_n 0, 1) := by decide +kernel
theorem dX0_takeServerHello_78 : decode cX0_takeServerHello 78 = .ok (.getfield 54, 3) := by decide +kernel
theorem dX0_takeServerHello_81 : decode cX0_takeServerHello 81 = .ok (.getfield 304, 3) := by decide +kernel
theorem dX0_takeServerHello_84 : decode cX0_takeServerHello 84 = .ok (.ldc_w 307, 3) := by decide +kernel
theorem dX0_takeServerHello_87 : decode cX0_takeServerHello 87 = .ok (.aload_n 0, 1) := by decide +kernel
theorem dX0_takeServerHello_88 : decode cX0_takeServerHello 88 = .ok (.getfield 11, 3) := by decide +kernel
theorem dX0_takeServerHello_91 : decode cX0_takeServerHello 91 = .ok (.getfield 297, 3) := by decide +kernel
theorem dX0_takeServerHello_94 : decode cX0_takeServerHello 94 = .ok (.invokevirtual 158, 3) := by decide +kernel
theorem dX0_takeServerHello_97 : decode cX0_takeServerHello 97 = .ok (.aload_n 0, 1) := by decide +kernel
theorem dX0_takeServerHello_98 : decode cX0_takeServerHello 98 = .ok (.iconst 2, 1) := by decide +kernel
theorem dX0_takeServerHello_99 : decode cX0_takeServerHello 99 = .ok (.putfield 74, 3) := by decide +kernel
theorem dX0_takeServerHello_102 : decode cX0_takeServerHello 102 = .ok (.return_, 1) := by decide +kernel
theorem dX0_takeFinished_0 : decode cX0_takeFinished 0 = .ok (.aload_n 0, 1) := by decide +kernel
theorem dX0_takeFinished_1 : decode cX0_takeFinished 1 = .ok (.getfield 70, 3) := by decide +kernel
theorem dX0_takeFinished_4 : decode cX0_takeFinished 4 = .ok (.ifCond .eq 62, 3) := by decide +kernel
theorem dX0_takeFinished_7 : decode cX0_takeFinished 7 = .ok (.aload_n 0, 1) := by decide +kernel
theorem dX0_takeFinished_8 : decode cX0_takeFinished 8 = .ok (.getfield 11, 3) := by decide +kernel
theorem dX0_takeFinished_11 : decode cX0_takeFinished 11 = .ok (.getfield 293, 3) := by decide +kernel
theorem dX0_takeFinished_14 : decode cX0_takeFinished 14 = .ok (.aload_n 0, 1) := by decide +kernel
theorem dX0_takeFinished_15 : decode cX0_takeFinished 15 = .ok (.getfield 67, 3) := by decide +kernel
theorem dX0_takeFinished_18 : decode cX0_takeFinished 18 = .ok (.aload_n 0, 1) := by decide +kernel
theorem dX0_takeFinished_19 : decode cX0_takeFinished 19 = .ok (.getfield 11, 3) := by decide +kernel
theorem dX0_takeFinished_22 : decode cX0_takeFinished 22 = .ok (.getfield 297, 3) := by decide +kernel
theorem dX0_takeFinished_25 : decode cX0_takeFinished 25 = .ok (.invokevirtual 300, 3) := by decide +kernel
theorem dX0_takeFinished_28 : decode cX0_takeFinished 28 = .ok (.aload_n 0, 1) := by decide +kernel
theorem dX0_takeFinished_29 : decode cX0_takeFinished 29 = .ok (.getfield 40, 3) := by decide +kernel
theorem dX0_takeFinished_32 : decode cX0_takeFinished 32 = .ok (.aload_n 0, 1) := by decide +kernel
theorem dX0_takeFinished_33 : decode cX0_takeFinished 33 = .ok (.getfield 11, 3) := by decide +kernel
theorem dX0_takeFinished_36 : decode cX0_takeFinished 36 = .ok (.getfield 45, 3) := by decide +kernel
theorem dX0_takeFinished_39 : decode cX0_takeFinished 39 = .ok (.aload_n 0, 1) := by decide +kernel
theorem dX0_takeFinished_40 : decode cX0_takeFinished 40 = .ok (.getfield 54, 3) := by decide +kernel
theorem dX0_takeFinished_43 : decode cX0_takeFinished 43 = .ok (.getfield 314, 3) := by decide +kernel
theorem dX0_takeFinished_46 : decode cX0_takeFinished 46 = .ok (.ldc_w 319, 3) := by decide +kernel
theorem dX0_takeFinished_49 : decode cX0_takeFinished 49 = .ok (.aload_n 0, 1) := by decide +kernel
theorem dX0_takeFinished_50 : decode cX0_takeFinished 50 = .ok (.getfield 11, 3) := by decide +kernel
theorem dX0_takeFinished_53 : decode cX0_takeFinished 53 = .ok (.getfield 297, 3) := by decide +kernel
theorem dX0_takeFinished_56 : decode cX0_takeFinished 56 = .ok (.invokevirtual 158, 3) := by decide +kernel
theorem dX0_takeFinished_59 : decode cX0_takeFinished 59 = .ok (.aload_n 0, 1) := by decide +kernel
theorem dX0_takeFinished_60 : decode cX0_takeFinished 60 = .ok (.bipush 6, 2) := by decide +kernel
theorem dX0_takeFinished_62 : decode cX0_takeFinished 62 = .ok (.putfield 74, 3) := by decide +kernel
theorem dX0_takeFinished_65 : decode cX0_takeFinished 65 = .ok (.return_, 1) := by decide +kernel
theorem dX0_takeFinished_66 : decode cX0_takeFinished 66 = .ok (.aload_n 0, 1) := by decide +kernel
theorem dX0_takeFinished_67 : decode cX0_takeFinished 67 = .ok (.getfield 67, 3) := by decide +kernel
theorem dX0_takeFinished_70 : decode cX0_takeFinished 70 = .ok (.aload_n 0, 1) := by decide +kernel
theorem dX0_takeFinished_71 : decode cX0_takeFinished 71 = .ok (.getfield 11, 3) := by decide +kernel
theorem dX0_takeFinished_74 : decode cX0_takeFinished 74 = .ok (.getfield 191, 3) := by decide +kernel
theorem dX0_takeFinished_77 : decode cX0_takeFinished 77 = .ok (.invokevirtual 137, 3) := by decide +kernel
theorem dX0_takeFinished_80 : decode cX0_takeFinished 80 = .ok (.aload_n 0, 1) := by decide +kernel
theorem dX0_takeFinished_81 : decode cX0_takeFinished 81 = .ok (.getfield 54, 3) := by decide +kernel
theorem dX0_takeFinished_84 : decode cX0_takeFinished 84 = .ok (.aload_n 0, 1) := by decide +kernel
theorem dX0_takeFinished_85 : decode cX0_takeFinished 85 = .ok (.getfield 36, 3) := by decide +kernel
theorem dX0_takeFinished_88 : decode cX0_takeFinished 88 = .ok (.getfield 148, 3) := by decide +kernel
theorem dX0_takeFinished_91 : decode cX0_takeFinished 91 = .ok (.aload_n 0, 1) := by decide +kernel
theorem dX0_takeFinished_92 : decode cX0_takeFinished 92 = .ok (.getfield 67, 3) := by decide +kernel
theorem dX0_takeFinished_95 : decode cX0_takeFinished 95 = .ok (.aload_n 0, 1) := by decide +kernel
theorem dX0_takeFinished_96 : decode cX0_takeFinished 96 = .ok (.getfield 11, 3) := by decide +kernel
theorem dX0_takeFinished_99 : decode cX0_takeFinished 99 = .ok (.getfield 124, 3) := by decide +kernel
theorem dX0_takeFinished_102 : decode cX0_takeFinished 102 = .ok (.invokevirtual 127, 3) := by decide +kernel
theorem dX0_takeFinished_105 : decode cX0_takeFinished 105 = .ok (.aload_n 0, 1) := by decide +kernel
theorem dX0_takeFinished_106 : decode cX0_takeFinished 106 = .ok (.getfield 11, 3) := by decide +kernel
theorem dX0_takeFinished_109 : decode cX0_takeFinished 109 = .ok (.getfield 114, 3) := by decide +kernel
theorem dX0_takeFinished_112 : decode cX0_takeFinished 112 = .ok (.aload_n 0, 1) := by decide +kernel
theorem dX0_takeFinished_113 : decode cX0_takeFinished 113 = .ok (.getfield 11, 3) := by decide +kernel
theorem dX0_takeFinished_116 : decode cX0_takeFinished 116 = .ok (.getfield 124, 3) := by decide +kernel
theorem dX0_takeFinished_119 : decode cX0_takeFinished 119 = .ok (.invokestatic 311, 3) := by decide +kernel
theorem dX0_takeFinished_122 : decode cX0_takeFinished 122 = .ok (.aload_n 0, 1) := by decide +kernel
theorem dX0_takeFinished_123 : decode cX0_takeFinished 123 = .ok (.bipush 22, 2) := by decide +kernel
theorem dX0_takeFinished_125 : decode cX0_takeFinished 125 = .ok (.aload_n 0, 1) := by decide +kernel
theorem dX0_takeFinished_126 : decode cX0_takeFinished 126 = .ok (.getfield 11, 3) := by decide +kernel
theorem dX0_takeFinished_129 : decode cX0_takeFinished 129 = .ok (.getfield 114, 3) := by decide +kernel
theorem dX0_takeFinished_132 : decode cX0_takeFinished 132 = .ok (.invokevirtual 140, 3) := by decide +kernel
theorem dX0_takeFinished_135 : decode cX0_takeFinished 135 = .ok (.ifCond .ne 10, 3) := by decide +kernel
theorem dX0_takeFinished_138 : decode cX0_takeFinished 138 = .ok (.aload_n 0, 1) := by decide +kernel
theorem dX0_takeFinished_139 : decode cX0_takeFinished 139 = .ok (.bipush 7, 2) := by decide +kernel
theorem dX0_takeFinished_141 : decode cX0_takeFinished 141 = .ok (.putfield 74, 3) := by decide +kernel
theorem dX0_takeFinished_144 : decode cX0_takeFinished 144 = .ok (.return_, 1) := by decide +kernel
theorem dX0_takeFinished_145 : decode cX0_takeFinished 145 = .ok (.aload_n 0, 1) := by decide +kernel
theorem dX0_takeFinished_146 : decode cX0_takeFinished 146 = .ok (.getfield 11, 3) := by decide +kernel
theorem dX0_takeFinished_149 : decode cX0_takeFinished 149 = .ok (.getfield 293, 3) := by decide +kernel
theorem dX0_takeFinished_152 : decode cX0_takeFinished 152 = .ok (.aload_n 0, 1) := by decide +kernel
theorem dX0_takeFinished_153 : decode cX0_takeFinished 153 = .ok (.getfield 67, 3) := by decide +kernel
theorem dX0_takeFinished_156 : decode cX0_takeFinished 156 = .ok (.aload_n 0, 1) := by decide +kernel
theorem dX0_takeFinished_157 : decode cX0_takeFinished 157 = .ok (.getfield 11, 3) := by decide +kernel
theorem dX0_takeFinished_160 : decode cX0_takeFinished 160 = .ok (.getfield 297, 3) := by decide +kernel
theorem dX0_takeFinished_163 : decode cX0_takeFinished 163 = .ok (.invokevirtual 300, 3) := by decide +kernel
theorem dX0_takeFinished_166 : decode cX0_takeFinished 166 = .ok (.aload_n 0, 1) := by decide +kernel
theorem dX0_takeFinished_167 : decode cX0_takeFinished 167 = .ok (.getfield 40, 3) := by decide +kernel
theorem dX0_takeFinished_170 : decode cX0_takeFinished 170 = .ok (.aload_n 0, 1) := by decide +kernel
theorem dX0_takeFinished_171 : decode cX0_takeFinished 171 = .ok (.getfield 11, 3) := by decide +kernel
theorem dX0_takeFinished_174 : decode cX0_takeFinished 174 = .ok (.getfield 45, 3) := by decide +kernel
theorem dX0_takeFinished_177 : decode cX0_takeFinished 177 = .ok (.aload_n 0, 1) := by decide +kernel
theorem dX0_takeFinished_178 : decode cX0_takeFinished 178 = .ok (.getfield 54, 3) := by decide +kernel
theorem dX0_takeFinished_181 : decode cX0_takeFinished 181 = .ok (.getfield 314, 3) := by decide +kernel
theorem dX0_takeFinished_184 : decode cX0_takeFinished 184 = .ok (.ldc_w 317, 3) := by decide +kernel
theorem dX0_takeFinished_187 : decode cX0_takeFinished 187 = .ok (.aload_n 0, 1) := by decide +kernel
theorem dX0_takeFinished_188 : decode cX0_takeFinished 188 = .ok (.getfield 11, 3) := by decide +kernel
theorem dX0_takeFinished_191 : decode cX0_takeFinished 191 = .ok (.getfield 297, 3) := by decide +kernel
theorem dX0_takeFinished_194 : decode cX0_takeFinished 194 = .ok (.invokevirtual 158, 3) := by decide +kernel
theorem dX0_takeFinished_197 : decode cX0_takeFinished 197 = .ok (.aload_n 0, 1) := by decide +kernel
theorem dX0_takeFinished_198 : decode cX0_takeFinished 198 = .ok (.getfield 36, 3) := by decide +kernel
theorem dX0_takeFinished_201 : decode cX0_takeFinished 201 = .ok (.aload_n 0, 1) := by decide +kernel
theorem dX0_takeFinished_202 : decode cX0_takeFinished 202 = .ok (.getfield 11, 3) := by decide +kernel
theorem dX0_takeFinished_205 : decode cX0_takeFinished 205 = .ok (.getfield 45, 3) := by decide +kernel
theorem dX0_takeFinished_208 : decode cX0_takeFinished 208 = .ok (.aload_n 0, 1) := by decide +kernel
theorem dX0_takeFinished_209 : decode cX0_takeFinished 209 = .ok (.getfield 54, 3) := by decide +kernel
theorem dX0_takeFinished_212 : decode cX0_takeFinished 212 = .ok (.getfield 314, 3) := by decide +kernel
theorem dX0_takeFinished_215 : decode cX0_takeFinished 215 = .ok (.ldc_w 319, 3) := by decide +kernel
theorem dX0_takeFinished_218 : decode cX0_takeFinished 218 = .ok (.aload_n 0, 1) := by decide +kernel
theorem dX0_takeFinished_219 : decode cX0_takeFinished 219 = .ok (.getfield 11, 3) := by decide +kernel
theorem dX0_takeFinished_222 : decode cX0_takeFinished 222 = .ok (.getfield 297, 3) := by decide +kernel
theorem dX0_takeFinished_225 : decode cX0_takeFinished 225 = .ok (.invokevirtual 158, 3) := by decide +kernel
theorem dX0_takeFinished_228 : decode cX0_takeFinished 228 = .ok (.aload_n 0, 1) := by decide +kernel
theorem dX0_takeFinished_229 : decode cX0_takeFinished 229 = .ok (.bipush 6, 2) := by decide +kernel
theorem dX0_takeFinished_231 : decode cX0_takeFinished 231 = .ok (.putfield 74, 3) := by decide +kernel
theorem dX0_takeFinished_234 : decode cX0_takeFinished 234 = .ok (.return_, 1) := by decide +kernel
theorem dX0_isAsked_0 : decode cX0_isAsked 0 = .ok (.aload_n 0, 1) := by decide +kernel
theorem dX0_isAsked_1 : decode cX0_isAsked 1 = .ok (.getfield 11, 3) := by decide +kernel
theorem dX0_isAsked_4 : decode cX0_isAsked 4 = .ok (.getfield 191, 3) := by decide +kernel
theorem dX0_isAsked_7 : decode cX0_isAsked 7 = .ok (.iconst 4, 1) := by decide +kernel
theorem dX0_isAsked_8 : decode cX0_isAsked 8 = .ok (.invokevirtual 214, 3) := by decide +kernel
theorem dX0_isAsked_11 : decode cX0_isAsked 11 = .ok (.iconst 1, 1) := by decide +kernel
theorem dX0_isAsked_12 : decode cX0_isAsked 12 = .ok (.if_icmp .ne 14, 3) := by decide +kernel
theorem dX0_isAsked_15 : decode cX0_isAsked 15 = .ok (.aload_n 0, 1) := by decide +kernel
theorem dX0_isAsked_16 : decode cX0_isAsked 16 = .ok (.getfield 90, 3) := by decide +kernel
theorem dX0_isAsked_19 : decode cX0_isAsked 19 = .ok (.ifCond .ne 7, 3) := by decide +kernel
theorem dX0_isAsked_22 : decode cX0_isAsked 22 = .ok (.iconst 1, 1) := by decide +kernel
theorem dX0_isAsked_23 : decode cX0_isAsked 23 = .ok (.goto 4, 3) := by decide +kernel
theorem dX0_isAsked_26 : decode cX0_isAsked 26 = .ok (.iconst 0, 1) := by decide +kernel
theorem dX0_isAsked_27 : decode cX0_isAsked 27 = .ok (.ireturn, 1) := by decide +kernel
theorem dX0_send_0 : decode cX0_send 0 = .ok (.aload_n 0, 1) := by decide +kernel
theorem dX0_send_1 : decode cX0_send 1 = .ok (.getfield 90, 3) := by decide +kernel
theorem dX0_send_4 : decode cX0_send 4 = .ok (.ifCond .eq 7, 3) := by decide +kernel
theorem dX0_send_7 : decode cX0_send 7 = .ok (.aconst_null, 1) := by decide +kernel
theorem dX0_send_8 : decode cX0_send 8 = .ok (.goto 10, 3) := by decide +kernel
theorem dX0_send_11 : decode cX0_send 11 = .ok (.aload_n 0, 1) := by decide +kernel
theorem dX0_send_12 : decode cX0_send 12 = .ok (.getfield 20, 3) := by decide +kernel
theorem dX0_send_15 : decode cX0_send 15 = .ok (.invokevirtual 321, 3) := by decide +kernel
theorem dX0_send_18 : decode cX0_send 18 = .ok (.astore_n 3, 1) := by decide +kernel
theorem dX0_send_19 : decode cX0_send 19 = .ok (.aload_n 3, 1) := by decide +kernel
theorem dX0_send_20 : decode cX0_send 20 = .ok (.ifnonnull 5, 3) := by decide +kernel
theorem dX0_send_23 : decode cX0_send 23 = .ok (.iconst 0, 1) := by decide +kernel
theorem dX0_send_24 : decode cX0_send 24 = .ok (.ireturn, 1) := by decide +kernel
theorem dX0_send_25 : decode cX0_send 25 = .ok (.aload_n 0, 1) := by decide +kernel
theorem dX0_send_26 : decode cX0_send 26 = .ok (.getfield 36, 3) := by decide +kernel
theorem dX0_send_29 : decode cX0_send 29 = .ok (.getfield 221, 3) := by decide +kernel
theorem dX0_send_32 : decode cX0_send 32 = .ok (.istore 4, 2) := by decide +kernel
theorem dX0_send_34 : decode cX0_send 34 = .ok (.aload_n 3, 1) := by decide +kernel
theorem dX0_send_35 : decode cX0_send 35 = .ok (.iload 4, 2) := by decide +kernel
theorem dX0_send_37 : decode cX0_send 37 = .ok (.ifCond .eq 8, 3) := by decide +kernel
theorem dX0_send_40 : decode cX0_send 40 = .ok (.bipush 23, 2) := by decide +kernel
theorem dX0_send_42 : decode cX0_send 42 = .ok (.goto 4, 3) := by decide +kernel
theorem dX0_send_45 : decode cX0_send 45 = .ok (.iload_n 1, 1) := by decide +kernel
theorem dX0_send_46 : decode cX0_send 46 = .ok (.invokevirtual 325, 3) := by decide +kernel
theorem dX0_send_49 : decode cX0_send 49 = .ok (.aload_n 3, 1) := by decide +kernel
theorem dX0_send_50 : decode cX0_send 50 = .ok (.iconst 3, 1) := by decide +kernel
theorem dX0_send_51 : decode cX0_send 51 = .ok (.invokevirtual 325, 3) := by decide +kernel
theorem dX0_send_54 : decode cX0_send 54 = .ok (.aload_n 3, 1) := by decide +kernel
theorem dX0_send_55 : decode cX0_send 55 = .ok (.iconst 3, 1) := by decide +kernel
theorem dX0_send_56 : decode cX0_send 56 = .ok (.invokevirtual 325, 3) := by decide +kernel
theorem dX0_send_59 : decode cX0_send 59 = .ok (.aload_n 3, 1) := by decide +kernel
theorem dX0_send_60 : decode cX0_send 60 = .ok (.iload 4, 2) := by decide +kernel
theorem dX0_send_62 : decode cX0_send 62 = .ok (.ifCond .eq 15, 3) := by decide +kernel
theorem dX0_send_65 : decode cX0_send 65 = .ok (.aload_n 2, 1) := by decide +kernel
theorem dX0_send_66 : decode cX0_send 66 = .ok (.getfield 100, 3) := by decide +kernel
theorem dX0_send_69 : decode cX0_send 69 = .ok (.iconst 1, 1) := by decide +kernel
theorem dX0_send_70 : decode cX0_send 70 = .ok (.iadd, 1) := by decide +kernel
theorem dX0_send_71 : decode cX0_send 71 = .ok (.bipush 16, 2) := by decide +kernel
theorem dX0_send_73 : decode cX0_send 73 = .ok (.iadd, 1) := by decide +kernel
theorem dX0_send_74 : decode cX0_send 74 = .ok (.goto 7, 3) := by decide +kernel
theorem dX0_send_77 : decode cX0_send 77 = .ok (.aload_n 2, 1) := by decide +kernel
theorem dX0_send_78 : decode cX0_send 78 = .ok (.getfield 100, 3) := by decide +kernel
theorem dX0_send_81 : decode cX0_send 81 = .ok (.iconst 2, 1) := by decide +kernel
theorem dX0_send_82 : decode cX0_send 82 = .ok (.invokevirtual 328, 3) := by decide +kernel
theorem dX0_send_85 : decode cX0_send 85 = .ok (.aload_n 3, 1) := by decide +kernel
theorem dX0_send_86 : decode cX0_send 86 = .ok (.aload_n 2, 1) := by decide +kernel
theorem dX0_send_87 : decode cX0_send 87 = .ok (.invokevirtual 137, 3) := by decide +kernel
theorem dX0_send_90 : decode cX0_send 90 = .ok (.iload 4, 2) := by decide +kernel
theorem dX0_send_92 : decode cX0_send 92 = .ok (.ifCond .eq 23, 3) := by decide +kernel
theorem dX0_send_95 : decode cX0_send 95 = .ok (.aload_n 3, 1) := by decide +kernel
theorem dX0_send_96 : decode cX0_send 96 = .ok (.iload_n 1, 1) := by decide +kernel
theorem dX0_send_97 : decode cX0_send 97 = .ok (.invokevirtual 325, 3) := by decide +kernel
theorem dX0_send_100 : decode cX0_send 100 = .ok (.aload_n 0, 1) := by decide +kernel
theorem dX0_send_101 : decode cX0_send 101 = .ok (.getfield 11, 3) := by decide +kernel
theorem dX0_send_104 : decode cX0_send 104 = .ok (.getfield 227, 3) := by decide +kernel
theorem dX0_send_107 : decode cX0_send 107 = .ok (.aload_n 0, 1) := by decide +kernel
theorem dX0_send_108 : decode cX0_send 108 = .ok (.getfield 36, 3) := by decide +kernel
theorem dX0_send_111 : decode cX0_send 111 = .ok (.aload_n 3, 1) := by decide +kernel
theorem dX0_send_112 : decode cX0_send 112 = .ok (.invokevirtual 332, 3) := by decide +kernel
theorem dX0_send_115 : decode cX0_send 115 = .ok (.iconst 1, 1) := by decide +kernel
theorem dX0_send_116 : decode cX0_send 116 = .ok (.ireturn, 1) := by decide +kernel
theorem dX1_init_0 : decode cX1_init 0 = .ok (.aload_n 0, 1) := by decide +kernel
theorem dX1_init_1 : decode cX1_init 1 = .ok (.invokespecial 5, 3) := by decide +kernel
theorem dX1_init_4 : decode cX1_init 4 = .ok (.aload_n 0, 1) := by decide +kernel
theorem dX1_init_5 : decode cX1_init 5 = .ok (.aload_n 1, 1) := by decide +kernel
theorem dX1_init_6 : decode cX1_init 6 = .ok (.putfield 11, 3) := by decide +kernel
theorem dX1_init_9 : decode cX1_init 9 = .ok (.aload_n 0, 1) := by decide +kernel
theorem dX1_init_10 : decode cX1_init 10 = .ok (.new 15, 3) := by decide +kernel
theorem dX1_init_13 : decode cX1_init 13 = .ok (.dup, 1) := by decide +kernel
theorem dX1_init_14 : decode cX1_init 14 = .ok (.iconst 0, 1) := by decide +kernel
theorem dX1_init_15 : decode cX1_init 15 = .ok (.invokespecial 17, 3) := by decide +kernel
theorem dX1_init_18 : decode cX1_init 18 = .ok (.putfield 20, 3) := by decide +kernel
theorem dX1_init_21 : decode cX1_init 21 = .ok (.aload_n 0, 1) := by decide +kernel
theorem dX1_init_22 : decode cX1_init 22 = .ok (.new 15, 3) := by decide +kernel
theorem dX1_init_25 : decode cX1_init 25 = .ok (.dup, 1) := by decide +kernel
theorem dX1_init_26 : decode cX1_init 26 = .ok (.bipush 32, 2) := by decide +kernel
theorem dX1_init_28 : decode cX1_init 28 = .ok (.invokespecial 17, 3) := by decide +kernel
theorem dX1_init_31 : decode cX1_init 31 = .ok (.putfield 24, 3) := by decide +kernel
theorem dX1_init_34 : decode cX1_init 34 = .ok (.aload_n 0, 1) := by decide +kernel
theorem dX1_init_35 : decode cX1_init 35 = .ok (.getfield 24, 3) := by decide +kernel
theorem dX1_init_38 : decode cX1_init 38 = .ok (.bipush 32, 2) := by decide +kernel
theorem dX1_init_40 : decode cX1_init 40 = .ok (.putfield 27, 3) := by decide +kernel
theorem dX1_init_43 : decode cX1_init 43 = .ok (.aload_n 0, 1) := by decide +kernel
theorem dX1_init_44 : decode cX1_init 44 = .ok (.new 15, 3) := by decide +kernel
theorem dX1_init_47 : decode cX1_init 47 = .ok (.dup, 1) := by decide +kernel
theorem dX1_init_48 : decode cX1_init 48 = .ok (.sipush 128, 3) := by decide +kernel
theorem dX1_init_51 : decode cX1_init 51 = .ok (.invokespecial 17, 3) := by decide +kernel
theorem dX1_init_54 : decode cX1_init 54 = .ok (.putfield 33, 3) := by decide +kernel
theorem dX1_init_57 : decode cX1_init 57 = .ok (.aload_n 0, 1) := by decide +kernel
theorem dX1_init_58 : decode cX1_init 58 = .ok (.new 15, 3) := by decide +kernel
theorem dX1_init_61 : decode cX1_init 61 = .ok (.dup, 1) := by decide +kernel
theorem dX1_init_62 : decode cX1_init 62 = .ok (.bipush 32, 2) := by decide +kernel
theorem dX1_init_64 : decode cX1_init 64 = .ok (.invokespecial 17, 3) := by decide +kernel
theorem dX1_init_67 : decode cX1_init 67 = .ok (.putfield 36, 3) := by decide +kernel
theorem dX1_init_70 : decode cX1_init 70 = .ok (.aload_n 0, 1) := by decide +kernel
theorem dX1_init_71 : decode cX1_init 71 = .ok (.new 15, 3) := by decide +kernel
theorem dX1_init_74 : decode cX1_init 74 = .ok (.dup, 1) := by decide +kernel
theorem dX1_init_75 : decode cX1_init 75 = .ok (.bipush 55, 2) := by decide +kernel
theorem dX1_init_77 : decode cX1_init 77 = .ok (.invokespecial 17, 3) := by decide +kernel
theorem dX1_init_80 : decode cX1_init 80 = .ok (.putfield 39, 3) := by decide +kernel
theorem dX1_init_83 : decode cX1_init 83 = .ok (.aload_n 0, 1) := by decide +kernel
theorem dX1_init_84 : decode cX1_init 84 = .ok (.new 15, 3) := by decide +kernel
theorem dX1_init_87 : decode cX1_init 87 = .ok (.dup, 1) := by decide +kernel
theorem dX1_init_88 : decode cX1_init 88 = .ok (.bipush 32, 2) := by decide +kernel
theorem dX1_init_90 : decode cX1_init 90 = .ok (.invokespecial 17, 3) := by decide +kernel
theorem dX1_init_93 : decode cX1_init 93 = .ok (.putfield 42, 3) := by decide +kernel
theorem dX1_init_96 : decode cX1_init 96 = .ok (.return_, 1) := by decide +kernel
theorem dX1_mac_0 : decode cX1_mac 0 = .ok (.aload_n 0, 1) := by decide +kernel
theorem dX1_mac_1 : decode cX1_mac 1 = .ok (.aload_n 1, 1) := by decide +kernel
theorem dX1_mac_2 : decode cX1_mac 2 = .ok (.bipush 54, 2) := by decide +kernel
theorem dX1_mac_4 : decode cX1_mac 4 = .ok (.invokevirtual 45, 3) := by decide +kernel
theorem dX1_mac_7 : decode cX1_mac 7 = .ok (.aload_n 0, 1) := by decide +kernel
theorem dX1_mac_8 : decode cX1_mac 8 = .ok (.getfield 33, 3) := by decide +kernel
theorem dX1_mac_11 : decode cX1_mac 11 = .ok (.aload_n 2, 1) := by decide +kernel
theorem dX1_mac_12 : decode cX1_mac 12 = .ok (.invokevirtual 49, 3) := by decide +kernel
theorem dX1_mac_15 : decode cX1_mac 15 = .ok (.aload_n 0, 1) := by decide +kernel
theorem dX1_mac_16 : decode cX1_mac 16 = .ok (.getfield 11, 3) := by decide +kernel
theorem dX1_mac_19 : decode cX1_mac 19 = .ok (.aload_n 0, 1) := by decide +kernel
theorem dX1_mac_20 : decode cX1_mac 20 = .ok (.getfield 33, 3) := by decide +kernel
theorem dX1_mac_23 : decode cX1_mac 23 = .ok (.aload_n 0, 1) := by decide +kernel
theorem dX1_mac_24 : decode cX1_mac 24 = .ok (.getfield 36, 3) := by decide +kernel
theorem dX1_mac_27 : decode cX1_mac 27 = .ok (.invokevirtual 53, 3) := by decide +kernel
theorem dX1_mac_30 : decode cX1_mac 30 = .ok (.aload_n 0, 1) := by decide +kernel
theorem dX1_mac_31 : decode cX1_mac 31 = .ok (.aload_n 1, 1) := by decide +kernel
theorem dX1_mac_32 : decode cX1_mac 32 = .ok (.bipush 92, 2) := by decide +kernel
theorem dX1_mac_34 : decode cX1_mac 34 = .ok (.invokevirtual 45, 3) := by decide +kernel
theorem dX1_mac_37 : decode cX1_mac 37 = .ok (.aload_n 0, 1) := by decide +kernel
theorem dX1_mac_38 : decode cX1_mac 38 = .ok (.getfield 33, 3) := by decide +kernel
theorem dX1_mac_41 : decode cX1_mac 41 = .ok (.aload_n 0, 1) := by decide +kernel
theorem dX1_mac_42 : decode cX1_mac 42 = .ok (.getfield 36, 3) := by decide +kernel
theorem dX1_mac_45 : decode cX1_mac 45 = .ok (.invokevirtual 49, 3) := by decide +kernel
theorem dX1_mac_48 : decode cX1_mac 48 = .ok (.aload_n 0, 1) := by decide +kernel
theorem dX1_mac_49 : decode cX1_mac 49 = .ok (.getfield 11, 3) := by decide +kernel
theorem dX1_mac_52 : decode cX1_mac 52 = .ok (.aload_n 0, 1) := by decide +kernel
theorem dX1_mac_53 : decode cX1_mac 53 = .ok (.getfield 33, 3) := by decide +kernel
theorem dX1_mac_56 : decode cX1_mac 56 = .ok (.aload_n 3, 1) := by decide +kernel
theorem dX1_mac_57 : decode cX1_mac 57 = .ok (.invokevirtual 53, 3) := by decide +kernel
theorem dX1_mac_60 : decode cX1_mac 60 = .ok (.return_, 1) := by decide +kernel
theorem dX1_putKey_0 : decode cX1_putKey 0 = .ok (.aload_n 0, 1) := by decide +kernel
theorem dX1_putKey_1 : decode cX1_putKey 1 = .ok (.getfield 33, 3) := by decide +kernel
theorem dX1_putKey_4 : decode cX1_putKey 4 = .ok (.invokevirtual 57, 3) := by decide +kernel
theorem dX1_putKey_7 : decode cX1_putKey 7 = .ok (.iconst 0, 1) := by decide +kernel
theorem dX1_putKey_8 : decode cX1_putKey 8 = .ok (.istore_n 3, 1) := by decide +kernel
theorem dX1_putKey_9 : decode cX1_putKey 9 = .ok (.iload_n 3, 1) := by decide +kernel
theorem dX1_putKey_10 : decode cX1_putKey 10 = .ok (.bipush 64, 2) := by decide +kernel
theorem dX1_putKey_12 : decode cX1_putKey 12 = .ok (.if_icmp .ge 36, 3) := by decide +kernel
theorem dX1_putKey_15 : decode cX1_putKey 15 = .ok (.aload_n 0, 1) := by decide +kernel
theorem dX1_putKey_16 : decode cX1_putKey 16 = .ok (.getfield 33, 3) := by decide +kernel
theorem dX1_putKey_19 : decode cX1_putKey 19 = .ok (.iload_n 3, 1) := by decide +kernel
theorem dX1_putKey_20 : decode cX1_putKey 20 = .ok (.aload_n 1, 1) := by decide +kernel
theorem dX1_putKey_21 : decode cX1_putKey 21 = .ok (.getfield 27, 3) := by decide +kernel
theorem dX1_putKey_24 : decode cX1_putKey 24 = .ok (.if_icmp .ge 12, 3) := by decide +kernel
theorem dX1_putKey_27 : decode cX1_putKey 27 = .ok (.aload_n 1, 1) := by decide +kernel
theorem dX1_putKey_28 : decode cX1_putKey 28 = .ok (.getfield 60, 3) := by decide +kernel
theorem dX1_putKey_31 : decode cX1_putKey 31 = .ok (.iload_n 3, 1) := by decide +kernel
theorem dX1_putKey_32 : decode cX1_putKey 32 = .ok (.iaload, 1) := by decide +kernel
theorem dX1_putKey_33 : decode cX1_putKey 33 = .ok (.goto 4, 3) := by decide +kernel
theorem dX1_putKey_36 : decode cX1_putKey 36 = .ok (.iconst 0, 1) := by decide +kernel
theorem dX1_putKey_37 : decode cX1_putKey 37 = .ok (.iload_n 2, 1) := by decide +kernel
theorem dX1_putKey_38 : decode cX1_putKey 38 = .ok (.ixor, 1) := by decide +kernel
theorem dX1_putKey_39 : decode cX1_putKey 39 = .ok (.invokevirtual 64, 3) := by decide +kernel
theorem dX1_putKey_42 : decode cX1_putKey 42 = .ok (.iinc 3 1, 3) := by decide +kernel
theorem dX1_putKey_45 : decode cX1_putKey 45 = .ok (.goto (-36), 3) := by decide +kernel
theorem dX1_putKey_48 : decode cX1_putKey 48 = .ok (.return_, 1) := by decide +kernel
theorem dX1_expand_0 : decode cX1_expand 0 = .ok (.aload_n 0, 1) := by decide +kernel
theorem dX1_expand_1 : decode cX1_expand 1 = .ok (.getfield 39, 3) := by decide +kernel
theorem dX1_expand_4 : decode cX1_expand 4 = .ok (.invokevirtual 57, 3) := by decide +kernel
theorem dX1_expand_7 : decode cX1_expand 7 = .ok (.aload_n 0, 1) := by decide +kernel
theorem dX1_expand_8 : decode cX1_expand 8 = .ok (.getfield 39, 3) := by decide +kernel
theorem dX1_expand_11 : decode cX1_expand 11 = .ok (.iload 4, 2) := by decide +kernel
theorem dX1_expand_13 : decode cX1_expand 13 = .ok (.iconst 2, 1) := by decide +kernel
theorem dX1_expand_14 : decode cX1_expand 14 = .ok (.invokevirtual 67, 3) := by decide +kernel
theorem dX1_expand_17 : decode cX1_expand 17 = .ok (.aload_n 0, 1) := by decide +kernel
theorem dX1_expand_18 : decode cX1_expand 18 = .ok (.getfield 39, 3) := by decide +kernel
theorem dX1_expand_21 : decode cX1_expand 21 = .ok (.ldc 71, 2) := by decide +kernel
theorem dX1_expand_23 : decode cX1_expand 23 = .ok (.invokevirtual 73, 3) := by decide +kernel
theorem dX1_expand_26 : decode cX1_expand 26 = .ok (.aload_n 2, 1) := by decide +kernel
theorem dX1_expand_27 : decode cX1_expand 27 = .ok (.invokevirtual 73, 3) := by decide +kernel
theorem dX1_expand_30 : decode cX1_expand 30 = .ok (.iadd, 1) := by decide +kernel
theorem dX1_expand_31 : decode cX1_expand 31 = .ok (.invokevirtual 64, 3) := by decide +kernel
theorem dX1_expand_34 : decode cX1_expand 34 = .ok (.aload_n 0, 1) := by decide +kernel
theorem dX1_expand_35 : decode cX1_expand 35 = .ok (.getfield 39, 3) := by decide +kernel
theorem dX1_expand_38 : decode cX1_expand 38 = .ok (.ldc 71, 2) := by decide +kernel
theorem dX1_expand_40 : decode cX1_expand 40 = .ok (.invokevirtual 79, 3) := by decide +kernel
theorem dX1_expand_43 : decode cX1_expand 43 = .ok (.aload_n 0, 1) := by decide +kernel
theorem dX1_expand_44 : decode cX1_expand 44 = .ok (.getfield 39, 3) := by decide +kernel
theorem dX1_expand_47 : decode cX1_expand 47 = .ok (.aload_n 2, 1) := by decide +kernel
theorem dX1_expand_48 : decode cX1_expand 48 = .ok (.invokevirtual 79, 3) := by decide +kernel
theorem dX1_expand_51 : decode cX1_expand 51 = .ok (.aload_n 0, 1) := by decide +kernel
theorem dX1_expand_52 : decode cX1_expand 52 = .ok (.getfield 39, 3) := by decide +kernel
theorem dX1_expand_55 : decode cX1_expand 55 = .ok (.aload_n 3, 1) := by decide +kernel
theorem dX1_expand_56 : decode cX1_expand 56 = .ok (.getfield 27, 3) := by decide +kernel
theorem dX1_expand_59 : decode cX1_expand 59 = .ok (.invokevirtual 64, 3) := by decide +kernel
theorem dX1_expand_62 : decode cX1_expand 62 = .ok (.aload_n 0, 1) := by decide +kernel
theorem dX1_expand_63 : decode cX1_expand 63 = .ok (.getfield 39, 3) := by decide +kernel
theorem dX1_expand_66 : decode cX1_expand 66 = .ok (.aload_n 3, 1) := by decide +kernel
theorem dX1_expand_67 : decode cX1_expand 67 = .ok (.invokevirtual 49, 3) := by decide +kernel
theorem dX1_expand_70 : decode cX1_expand 70 = .ok (.aload_n 0, 1) := by decide +kernel
theorem dX1_expand_71 : decode cX1_expand 71 = .ok (.getfield 39, 3) := by decide +kernel
theorem dX1_expand_74 : decode cX1_expand 74 = .ok (.iconst 1, 1) := by decide +kernel
theorem dX1_expand_75 : decode cX1_expand 75 = .ok (.invokevirtual 64, 3) := by decide +kernel
theorem dX1_expand_78 : decode cX1_expand 78 = .ok (.aload_n 0, 1) := by decide +kernel
theorem dX1_expand_79 : decode cX1_expand 79 = .ok (.aload_n 1, 1) := by decide +kernel
theorem dX1_expand_80 : decode cX1_expand 80 = .ok (.aload_n 0, 1) := by decide +kernel
theorem dX1_expand_81 : decode cX1_expand 81 = .ok (.getfield 39, 3) := by decide +kernel
theorem dX1_expand_84 : decode cX1_expand 84 = .ok (.aload_n 0, 1) := by decide +kernel
theorem dX1_expand_85 : decode cX1_expand 85 = .ok (.getfield 42, 3) := by decide +kernel
theorem dX1_expand_88 : decode cX1_expand 88 = .ok (.invokevirtual 83, 3) := by decide +kernel
theorem dX1_expand_91 : decode cX1_expand 91 = .ok (.aload 5, 2) := by decide +kernel
theorem dX1_expand_93 : decode cX1_expand 93 = .ok (.aload_n 0, 1) := by decide +kernel
theorem dX1_expand_94 : decode cX1_expand 94 = .ok (.getfield 42, 3) := by decide +kernel
theorem dX1_expand_97 : decode cX1_expand 97 = .ok (.iconst 0, 1) := by decide +kernel
theorem dX1_expand_98 : decode cX1_expand 98 = .ok (.iload 4, 2) := by decide +kernel
theorem dX1_expand_100 : decode cX1_expand 100 = .ok (.invokevirtual 87, 3) := by decide +kernel
theorem dX1_expand_103 : decode cX1_expand 103 = .ok (.return_, 1) := by decide +kernel
theorem dX2_init_0 : decode cX2_init 0 = .ok (.aload_n 0, 1) := by decide +kernel
theorem dX2_init_1 : decode cX2_init 1 = .ok (.invokespecial 3, 3) := by decide +kernel
theorem dX2_init_4 : decode cX2_init 4 = .ok (.aload_n 0, 1) := by decide +kernel
theorem dX2_init_5 : decode cX2_init 5 = .ok (.new 9, 3) := by decide +kernel
theorem dX2_init_8 : decode cX2_init 8 = .ok (.dup, 1) := by decide +kernel
theorem dX2_init_9 : decode cX2_init 9 = .ok (.bipush 32, 2) := by decide +kernel
theorem dX2_init_11 : decode cX2_init 11 = .ok (.invokespecial 11, 3) := by decide +kernel
theorem dX2_init_14 : decode cX2_init 14 = .ok (.putfield 14, 3) := by decide +kernel
theorem dX2_init_17 : decode cX2_init 17 = .ok (.aload_n 0, 1) := by decide +kernel
theorem dX2_init_18 : decode cX2_init 18 = .ok (.new 9, 3) := by decide +kernel
theorem dX2_init_21 : decode cX2_init 21 = .ok (.dup, 1) := by decide +kernel
theorem dX2_init_22 : decode cX2_init 22 = .ok (.bipush 32, 2) := by decide +kernel
theorem dX2_init_24 : decode cX2_init 24 = .ok (.invokespecial 11, 3) := by decide +kernel
theorem dX2_init_27 : decode cX2_init 27 = .ok (.putfield 20, 3) := by decide +kernel
theorem dX2_init_30 : decode cX2_init 30 = .ok (.aload_n 0, 1) := by decide +kernel
theorem dX2_init_31 : decode cX2_init 31 = .ok (.new 9, 3) := by decide +kernel
theorem dX2_init_34 : decode cX2_init 34 = .ok (.dup, 1) := by decide +kernel
theorem dX2_init_35 : decode cX2_init 35 = .ok (.bipush 12, 2) := by decide +kernel
theorem dX2_init_37 : decode cX2_init 37 = .ok (.invokespecial 11, 3) := by decide +kernel
theorem dX2_init_40 : decode cX2_init 40 = .ok (.putfield 23, 3) := by decide +kernel
theorem dX2_init_43 : decode cX2_init 43 = .ok (.aload_n 0, 1) := by decide +kernel
theorem dX2_init_44 : decode cX2_init 44 = .ok (.iconst 0, 1) := by decide +kernel
theorem dX2_init_45 : decode cX2_init 45 = .ok (.putfield 26, 3) := by decide +kernel
theorem dX2_init_48 : decode cX2_init 48 = .ok (.aload_n 0, 1) := by decide +kernel
theorem dX2_init_49 : decode cX2_init 49 = .ok (.iconst 0, 1) := by decide +kernel
theorem dX2_init_50 : decode cX2_init 50 = .ok (.putfield 30, 3) := by decide +kernel
theorem dX2_init_53 : decode cX2_init 53 = .ok (.return_, 1) := by decide +kernel
theorem dX2_load_0 : decode cX2_load 0 = .ok (.aload_n 1, 1) := by decide +kernel
theorem dX2_load_1 : decode cX2_load 1 = .ok (.aload_n 2, 1) := by decide +kernel
theorem dX2_load_2 : decode cX2_load 2 = .ok (.aload_n 3, 1) := by decide +kernel
theorem dX2_load_3 : decode cX2_load 3 = .ok (.aload 4, 2) := by decide +kernel
theorem dX2_load_5 : decode cX2_load 5 = .ok (.bipush 32, 2) := by decide +kernel
theorem dX2_load_7 : decode cX2_load 7 = .ok (.aload_n 0, 1) := by decide +kernel
theorem dX2_load_8 : decode cX2_load 8 = .ok (.getfield 14, 3) := by decide +kernel
theorem dX2_load_11 : decode cX2_load 11 = .ok (.invokevirtual 34, 3) := by decide +kernel
theorem dX2_load_14 : decode cX2_load 14 = .ok (.aload_n 1, 1) := by decide +kernel
theorem dX2_load_15 : decode cX2_load 15 = .ok (.aload_n 0, 1) := by decide +kernel
theorem dX2_load_16 : decode cX2_load 16 = .ok (.getfield 14, 3) := by decide +kernel
theorem dX2_load_19 : decode cX2_load 19 = .ok (.ldc 40, 2) := by decide +kernel
theorem dX2_load_21 : decode cX2_load 21 = .ok (.aload_n 1, 1) := by decide +kernel
theorem dX2_load_22 : decode cX2_load 22 = .ok (.getfield 41, 3) := by decide +kernel
theorem dX2_load_25 : decode cX2_load 25 = .ok (.bipush 32, 2) := by decide +kernel
theorem dX2_load_27 : decode cX2_load 27 = .ok (.aload_n 0, 1) := by decide +kernel
theorem dX2_load_28 : decode cX2_load 28 = .ok (.getfield 20, 3) := by decide +kernel
theorem dX2_load_31 : decode cX2_load 31 = .ok (.invokevirtual 34, 3) := by decide +kernel
theorem dX2_load_34 : decode cX2_load 34 = .ok (.aload_n 1, 1) := by decide +kernel
theorem dX2_load_35 : decode cX2_load 35 = .ok (.aload_n 0, 1) := by decide +kernel
theorem dX2_load_36 : decode cX2_load 36 = .ok (.getfield 14, 3) := by decide +kernel
theorem dX2_load_39 : decode cX2_load 39 = .ok (.ldc 44, 2) := by decide +kernel
theorem dX2_load_41 : decode cX2_load 41 = .ok (.aload_n 1, 1) := by decide +kernel
theorem dX2_load_42 : decode cX2_load 42 = .ok (.getfield 41, 3) := by decide +kernel
theorem dX2_load_45 : decode cX2_load 45 = .ok (.bipush 12, 2) := by decide +kernel
theorem dX2_load_47 : decode cX2_load 47 = .ok (.aload_n 0, 1) := by decide +kernel
theorem dX2_load_48 : decode cX2_load 48 = .ok (.getfield 23, 3) := by decide +kernel
theorem dX2_load_51 : decode cX2_load 51 = .ok (.invokevirtual 34, 3) := by decide +kernel
theorem dX2_load_54 : decode cX2_load 54 = .ok (.aload_n 0, 1) := by decide +kernel
theorem dX2_load_55 : decode cX2_load 55 = .ok (.iconst 0, 1) := by decide +kernel
theorem dX2_load_56 : decode cX2_load 56 = .ok (.putfield 26, 3) := by decide +kernel
theorem dX2_load_59 : decode cX2_load 59 = .ok (.aload_n 0, 1) := by decide +kernel
theorem dX2_load_60 : decode cX2_load 60 = .ok (.iconst 1, 1) := by decide +kernel
theorem dX2_load_61 : decode cX2_load 61 = .ok (.putfield 30, 3) := by decide +kernel
theorem dX2_load_64 : decode cX2_load 64 = .ok (.return_, 1) := by decide +kernel
theorem dX3_putHead_0 : decode cX3_putHead 0 = .ok (.aload_n 0, 1) := by decide +kernel
theorem dX3_putHead_1 : decode cX3_putHead 1 = .ok (.invokevirtual 11, 3) := by decide +kernel
theorem dX3_putHead_4 : decode cX3_putHead 4 = .ok (.aload_n 0, 1) := by decide +kernel
theorem dX3_putHead_5 : decode cX3_putHead 5 = .ok (.iload_n 1, 1) := by decide +kernel
theorem dX3_putHead_6 : decode cX3_putHead 6 = .ok (.invokevirtual 16, 3) := by decide +kernel
theorem dX3_putHead_9 : decode cX3_putHead 9 = .ok (.aload_n 0, 1) := by decide +kernel
theorem dX3_putHead_10 : decode cX3_putHead 10 = .ok (.iload_n 2, 1) := by decide +kernel
theorem dX3_putHead_11 : decode cX3_putHead 11 = .ok (.iconst 3, 1) := by decide +kernel
theorem dX3_putHead_12 : decode cX3_putHead 12 = .ok (.invokevirtual 20, 3) := by decide +kernel
theorem dX3_putHead_15 : decode cX3_putHead 15 = .ok (.return_, 1) := by decide +kernel
theorem dX3_putClientHello_0 : decode cX3_putClientHello 0 = .ok (.aload_n 2, 1) := by decide +kernel
theorem dX3_putClientHello_1 : decode cX3_putClientHello 1 = .ok (.getfield 24, 3) := by decide +kernel
theorem dX3_putClientHello_4 : decode cX3_putClientHello 4 = .ok (.istore_n 3, 1) := by decide +kernel
theorem dX3_putClientHello_5 : decode cX3_putClientHello 5 = .ok (.aload_n 0, 1) := by decide +kernel
theorem dX3_putClientHello_6 : decode cX3_putClientHello 6 = .ok (.iconst 1, 1) := by decide +kernel
theorem dX3_putClientHello_7 : decode cX3_putClientHello 7 = .ok (.bipush 103, 2) := by decide +kernel
theorem dX3_putClientHello_9 : decode cX3_putClientHello 9 = .ok (.iload_n 3, 1) := by decide +kernel
theorem dX3_putClientHello_10 : decode cX3_putClientHello 10 = .ok (.iadd, 1) := by decide +kernel
theorem dX3_putClientHello_11 : decode cX3_putClientHello 11 = .ok (.invokestatic 28, 3) := by decide +kernel
theorem dX3_putClientHello_14 : decode cX3_putClientHello 14 = .ok (.aload_n 0, 1) := by decide +kernel
theorem dX3_putClientHello_15 : decode cX3_putClientHello 15 = .ok (.iconst 3, 1) := by decide +kernel
theorem dX3_putClientHello_16 : decode cX3_putClientHello 16 = .ok (.invokevirtual 16, 3) := by decide +kernel
theorem dX3_putClientHello_19 : decode cX3_putClientHello 19 = .ok (.aload_n 0, 1) := by decide +kernel
theorem dX3_putClientHello_20 : decode cX3_putClientHello 20 = .ok (.iconst 3, 1) := by decide +kernel
theorem dX3_putClientHello_21 : decode cX3_putClientHello 21 = .ok (.invokevirtual 16, 3) := by decide +kernel
theorem dX3_putClientHello_24 : decode cX3_putClientHello 24 = .ok (.aload_n 0, 1) := by decide +kernel
theorem dX3_putClientHello_25 : decode cX3_putClientHello 25 = .ok (.aload_n 1, 1) := by decide +kernel
theorem dX3_putClientHello_26 : decode cX3_putClientHello 26 = .ok (.invokevirtual 32, 3) := by decide +kernel
theorem dX3_putClientHello_29 : decode cX3_putClientHello 29 = .ok (.aload_n 0, 1) := by decide +kernel
theorem dX3_putClientHello_30 : decode cX3_putClientHello 30 = .ok (.getstatic 36, 3) := by decide +kernel
theorem dX3_putClientHello_33 : decode cX3_putClientHello 33 = .ok (.invokevirtual 40, 3) := by decide +kernel
theorem dX3_putClientHello_36 : decode cX3_putClientHello 36 = .ok (.aload_n 0, 1) := by decide +kernel
theorem dX3_putClientHello_37 : decode cX3_putClientHello 37 = .ok (.bipush 60, 2) := by decide +kernel
theorem dX3_putClientHello_39 : decode cX3_putClientHello 39 = .ok (.iload_n 3, 1) := by decide +kernel
theorem dX3_putClientHello_40 : decode cX3_putClientHello 40 = .ok (.iadd, 1) := by decide +kernel
theorem dX3_putClientHello_41 : decode cX3_putClientHello 41 = .ok (.iconst 2, 1) := by decide +kernel
theorem dX3_putClientHello_42 : decode cX3_putClientHello 42 = .ok (.invokevirtual 20, 3) := by decide +kernel
theorem dX3_putClientHello_45 : decode cX3_putClientHello 45 = .ok (.aload_n 0, 1) := by decide +kernel
theorem dX3_putClientHello_46 : decode cX3_putClientHello 46 = .ok (.getstatic 44, 3) := by decide +kernel
theorem dX3_putClientHello_49 : decode cX3_putClientHello 49 = .ok (.invokevirtual 40, 3) := by decide +kernel
theorem dX3_putClientHello_52 : decode cX3_putClientHello 52 = .ok (.aload_n 0, 1) := by decide +kernel
theorem dX3_putClientHello_53 : decode cX3_putClientHello 53 = .ok (.bipush 43, 2) := by decide +kernel
theorem dX3_putClientHello_55 : decode cX3_putClientHello 55 = .ok (.iload_n 3, 1) := by decide +kernel
theorem dX3_putClientHello_56 : decode cX3_putClientHello 56 = .ok (.iadd, 1) := by decide +kernel
theorem dX3_putClientHello_57 : decode cX3_putClientHello 57 = .ok (.iconst 2, 1) := by decide +kernel
theorem dX3_putClientHello_58 : decode cX3_putClientHello 58 = .ok (.invokevirtual 20, 3) := by decide +kernel
theorem dX3_putClientHello_61 : decode cX3_putClientHello 61 = .ok (.aload_n 0, 1) := by decide +kernel
theorem dX3_putClientHello_62 : decode cX3_putClientHello 62 = .ok (.bipush 6, 2) := by decide +kernel
theorem dX3_putClientHello_64 : decode cX3_putClientHello 64 = .ok (.iload_n 3, 1) := by decide +kernel
theorem dX3_putClientHello_65 : decode cX3_putClientHello 65 = .ok (.iadd, 1) := by decide +kernel
theorem dX3_putClientHello_66 : decode cX3_putClientHello 66 = .ok (.iconst 2, 1) := by decide +kernel
theorem dX3_putClientHello_67 : decode cX3_putClientHello 67 = .ok (.invokevirtual 20, 3) := by decide +kernel
theorem dX3_putClientHello_70 : decode cX3_putClientHello 70 = .ok (.aload_n 0, 1) := by decide +kernel
theorem dX3_putClientHello_71 : decode cX3_putClientHello 71 = .ok (.iload_n 3, 1) := by decide +kernel
theorem dX3_putClientHello_72 : decode cX3_putClientHello 72 = .ok (.iconst 2, 1) := by decide +kernel
theorem dX3_putClientHello_73 : decode cX3_putClientHello 73 = .ok (.invokevirtual 20, 3) := by decide +kernel
theorem dX3_putClientHello_76 : decode cX3_putClientHello 76 = .ok (.aload_n 0, 1) := by decide +kernel
theorem dX3_putClientHello_77 : decode cX3_putClientHello 77 = .ok (.aload_n 2, 1) := by decide +kernel
theorem dX3_putClientHello_78 : decode cX3_putClientHello 78 = .ok (.invokevirtual 32, 3) := by decide +kernel
theorem dX3_putClientHello_81 : decode cX3_putClientHello 81 = .ok (.aload_n 0, 1) := by decide +kernel
theorem dX3_putClientHello_82 : decode cX3_putClientHello 82 = .ok (.iconst 0, 1) := by decide +kernel
theorem dX3_putClientHello_83 : decode cX3_putClientHello 83 = .ok (.iconst 4, 1) := by decide +kernel
theorem dX3_putClientHello_84 : decode cX3_putClientHello 84 = .ok (.invokevirtual 20, 3) := by decide +kernel
theorem dX3_putClientHello_87 : decode cX3_putClientHello 87 = .ok (.return_, 1) := by decide +kernel
theorem dX3_putServerHello_0 : decode cX3_putServerHello 0 = .ok (.aload_n 0, 1) := by decide +kernel
theorem dX3_putServerHello_1 : decode cX3_putServerHello 1 = .ok (.iconst 2, 1) := by decide +kernel
theorem dX3_putServerHello_2 : decode cX3_putServerHello 2 = .ok (.bipush 52, 2) := by decide +kernel
theorem dX3_putServerHello_4 : decode cX3_putServerHello 4 = .ok (.invokestatic 28, 3) := by decide +kernel
theorem dX3_putServerHello_7 : decode cX3_putServerHello 7 = .ok (.aload_n 0, 1) := by decide +kernel
theorem dX3_putServerHello_8 : decode cX3_putServerHello 8 = .ok (.iconst 3, 1) := by decide +kernel
theorem dX3_putServerHello_9 : decode cX3_putServerHello 9 = .ok (.invokevirtual 16, 3) := by decide +kernel
theorem dX3_putServerHello_12 : decode cX3_putServerHello 12 = .ok (.aload_n 0, 1) := by decide +kernel
theorem dX3_putServerHello_13 : decode cX3_putServerHello 13 = .ok (.iconst 3, 1) := by decide +kernel
theorem dX3_putServerHello_14 : decode cX3_putServerHello 14 = .ok (.invokevirtual 16, 3) := by decide +kernel
theorem dX3_putServerHello_17 : decode cX3_putServerHello 17 = .ok (.aload_n 0, 1) := by decide +kernel
theorem dX3_putServerHello_18 : decode cX3_putServerHello 18 = .ok (.aload_n 1, 1) := by decide +kernel
theorem dX3_putServerHello_19 : decode cX3_putServerHello 19 = .ok (.invokevirtual 32, 3) := by decide +kernel
theorem dX3_putServerHello_22 : decode cX3_putServerHello 22 = .ok (.aload_n 0, 1) := by decide +kernel
theorem dX3_putServerHello_23 : decode cX3_putServerHello 23 = .ok (.getstatic 47, 3) := by decide +kernel
theorem dX3_putServerHello_26 : decode cX3_putServerHello 26 = .ok (.invokevirtual 40, 3) := by decide +kernel
theorem dX3_putServerHello_29 : decode cX3_putServerHello 29 = .ok (.return_, 1) := by decide +kernel
theorem dX3_putExtensions_0 : decode cX3_putExtensions 0 = .ok (.aload_n 0, 1) := by decide +kernel
theorem dX3_putExtensions_1 : decode cX3_putExtensions 1 = .ok (.bipush 8, 2) := by decide +kernel
theorem dX3_putExtensions_3 : decode cX3_putExtensions 3 = .ok (.iconst 2, 1) := by decide +kernel
theorem dX3_putExtensions_4 : decode cX3_putExtensions 4 = .ok (.invokestatic 28, 3) := by decide +kernel
theorem dX3_putExtensions_7 : decode cX3_putExtensions 7 = .ok (.aload_n 0, 1) := by decide +kernel
theorem dX3_putExtensions_8 : decode cX3_putExtensions 8 = .ok (.iconst 0, 1) := by decide +kernel
theorem dX3_putExtensions_9 : decode cX3_putExtensions 9 = .ok (.iconst 2, 1) := by decide +kernel
theorem dX3_putExtensions_10 : decode cX3_putExtensions 10 = .ok (.invokevirtual 20, 3) := by decide +kernel
theorem dX3_putExtensions_13 : decode cX3_putExtensions 13 = .ok (.return_, 1) := by decide +kernel
theorem dX3_putFinished_0 : decode cX3_putFinished 0 = .ok (.aload_n 0, 1) := by decide +kernel
theorem dX3_putFinished_1 : decode cX3_putFinished 1 = .ok (.bipush 20, 2) := by decide +kernel
theorem dX3_putFinished_3 : decode cX3_putFinished 3 = .ok (.bipush 32, 2) := by decide +kernel
theorem dX3_putFinished_5 : decode cX3_putFinished 5 = .ok (.invokestatic 28, 3) := by decide +kernel
theorem dX3_putFinished_8 : decode cX3_putFinished 8 = .ok (.aload_n 0, 1) := by decide +kernel
theorem dX3_putFinished_9 : decode cX3_putFinished 9 = .ok (.aload_n 1, 1) := by decide +kernel
theorem dX3_putFinished_10 : decode cX3_putFinished 10 = .ok (.invokevirtual 32, 3) := by decide +kernel
theorem dX3_putFinished_13 : decode cX3_putFinished 13 = .ok (.return_, 1) := by decide +kernel
theorem dX3_putUpdate_0 : decode cX3_putUpdate 0 = .ok (.aload_n 0, 1) := by decide +kernel
theorem dX3_putUpdate_1 : decode cX3_putUpdate 1 = .ok (.bipush 24, 2) := by decide +kernel
theorem dX3_putUpdate_3 : decode cX3_putUpdate 3 = .ok (.iconst 1, 1) := by decide +kernel
theorem dX3_putUpdate_4 : decode cX3_putUpdate 4 = .ok (.invokestatic 28, 3) := by decide +kernel
theorem dX3_putUpdate_7 : decode cX3_putUpdate 7 = .ok (.aload_n 0, 1) := by decide +kernel
theorem dX3_putUpdate_8 : decode cX3_putUpdate 8 = .ok (.iload_n 1, 1) := by decide +kernel
theorem dX3_putUpdate_9 : decode cX3_putUpdate 9 = .ok (.invokevirtual 16, 3) := by decide +kernel
theorem dX3_putUpdate_12 : decode cX3_putUpdate 12 = .ok (.return_, 1) := by decide +kernel
theorem dX3_putAlert_0 : decode cX3_putAlert 0 = .ok (.aload_n 0, 1) := by decide +kernel
theorem dX3_putAlert_1 : decode cX3_putAlert 1 = .ok (.invokevirtual 11, 3) := by decide +kernel
theorem dX3_putAlert_4 : decode cX3_putAlert 4 = .ok (.aload_n 0, 1) := by decide +kernel
theorem dX3_putAlert_5 : decode cX3_putAlert 5 = .ok (.iload_n 1, 1) := by decide +kernel
theorem dX3_putAlert_6 : decode cX3_putAlert 6 = .ok (.invokevirtual 16, 3) := by decide +kernel
theorem dX3_putAlert_9 : decode cX3_putAlert 9 = .ok (.aload_n 0, 1) := by decide +kernel
theorem dX3_putAlert_10 : decode cX3_putAlert 10 = .ok (.iload_n 2, 1) := by decide +kernel
theorem dX3_putAlert_11 : decode cX3_putAlert 11 = .ok (.invokevirtual 16, 3) := by decide +kernel
theorem dX3_putAlert_14 : decode cX3_putAlert 14 = .ok (.return_, 1) := by decide +kernel
theorem dX3_findName_0 : decode cX3_findName 0 = .ok (.aload_n 0, 1) := by decide +kernel
theorem dX3_findName_1 : decode cX3_findName 1 = .ok (.bipush 66, 2) := by decide +kernel
theorem dX3_findName_3 : decode cX3_findName 3 = .ok (.invokevirtual 50, 3) := by decide +kernel
theorem dX3_findName_6 : decode cX3_findName 6 = .ok (.istore_n 2, 1) := by decide +kernel
theorem dX3_findName_7 : decode cX3_findName 7 = .ok (.aload_n 1, 1) := by decide +kernel
theorem dX3_findName_8 : decode cX3_findName 8 = .ok (.aload_n 0, 1) := by decide +kernel
theorem dX3_findName_9 : decode cX3_findName 9 = .ok (.bipush 68, 2) := by decide +kernel
theorem dX3_findName_11 : decode cX3_findName 11 = .ok (.bipush 68, 2) := by decide +kernel
theorem dX3_findName_13 : decode cX3_findName 13 = .ok (.iload_n 2, 1) := by decide +kernel
theorem dX3_findName_14 : decode cX3_findName 14 = .ok (.iadd, 1) := by decide +kernel
theorem dX3_findName_15 : decode cX3_findName 15 = .ok (.invokevirtual 54, 3) := by decide +kernel
theorem dX3_findName_18 : decode cX3_findName 18 = .ok (.iload_n 2, 1) := by decide +kernel
theorem dX3_findName_19 : decode cX3_findName 19 = .ok (.iconst 1, 1) := by decide +kernel
theorem dX3_findName_20 : decode cX3_findName 20 = .ok (.if_icmp .lt 24, 3) := by decide +kernel
theorem dX3_findName_23 : decode cX3_findName 23 = .ok (.iload_n 2, 1) := by decide +kernel
theorem dX3_findName_24 : decode cX3_findName 24 = .ok (.bipush 16, 2) := by decide +kernel
theorem dX3_findName_26 : decode cX3_findName 26 = .ok (.if_icmp .gt 18, 3) := by decide +kernel
theorem dX3_findName_29 : decode cX3_findName 29 = .ok (.aload_n 0, 1) := by decide +kernel
theorem dX3_findName_30 : decode cX3_findName 30 = .ok (.getfield 24, 3) := by decide +kernel
theorem dX3_findName_33 : decode cX3_findName 33 = .ok (.bipush 107, 2) := by decide +kernel
theorem dX3_findName_35 : decode cX3_findName 35 = .ok (.iload_n 2, 1) := by decide +kernel
theorem dX3_findName_36 : decode cX3_findName 36 = .ok (.iadd, 1) := by decide +kernel
theorem dX3_findName_37 : decode cX3_findName 37 = .ok (.if_icmp .ne 7, 3) := by decide +kernel
theorem dX3_findName_40 : decode cX3_findName 40 = .ok (.iconst 1, 1) := by decide +kernel
theorem dX3_findName_41 : decode cX3_findName 41 = .ok (.goto 4, 3) := by decide +kernel
theorem dX3_findName_44 : decode cX3_findName 44 = .ok (.iconst 0, 1) := by decide +kernel
theorem dX3_findName_45 : decode cX3_findName 45 = .ok (.ireturn, 1) := by decide +kernel
theorem dX3_findRandom_0 : decode cX3_findRandom 0 = .ok (.aload_n 1, 1) := by decide +kernel
theorem dX3_findRandom_1 : decode cX3_findRandom 1 = .ok (.aload_n 0, 1) := by decide +kernel
theorem dX3_findRandom_2 : decode cX3_findRandom 2 = .ok (.bipush 6, 2) := by decide +kernel
theorem dX3_findRandom_4 : decode cX3_findRandom 4 = .ok (.bipush 38, 2) := by decide +kernel
theorem dX3_findRandom_6 : decode cX3_findRandom 6 = .ok (.invokevirtual 54, 3) := by decide +kernel
theorem dX3_findRandom_9 : decode cX3_findRandom 9 = .ok (.return_, 1) := by decide +kernel
theorem dX3_isWhole_0 : decode cX3_isWhole 0 = .ok (.aload_n 0, 1) := by decide +kernel
theorem dX3_isWhole_1 : decode cX3_isWhole 1 = .ok (.getfield 24, 3) := by decide +kernel
theorem dX3_isWhole_4 : decode cX3_isWhole 4 = .ok (.iconst 4, 1) := by decide +kernel
theorem dX3_isWhole_5 : decode cX3_isWhole 5 = .ok (.if_icmp .lt 29, 3) := by decide +kernel
theorem dX3_isWhole_8 : decode cX3_isWhole 8 = .ok (.aload_n 0, 1) := by decide +kernel
theorem dX3_isWhole_9 : decode cX3_isWhole 9 = .ok (.iconst 1, 1) := by decide +kernel
theorem dX3_isWhole_10 : decode cX3_isWhole 10 = .ok (.invokevirtual 57, 3) := by decide +kernel
theorem dX3_isWhole_13 : decode cX3_isWhole 13 = .ok (.ifCond .ne 21, 3) := by decide +kernel
theorem dX3_isWhole_16 : decode cX3_isWhole 16 = .ok (.aload_n 0, 1) := by decide +kernel
theorem dX3_isWhole_17 : decode cX3_isWhole 17 = .ok (.iconst 2, 1) := by decide +kernel
theorem dX3_isWhole_18 : decode cX3_isWhole 18 = .ok (.invokevirtual 50, 3) := by decide +kernel
theorem dX3_isWhole_21 : decode cX3_isWhole 21 = .ok (.aload_n 0, 1) := by decide +kernel
theorem dX3_isWhole_22 : decode cX3_isWhole 22 = .ok (.getfield 24, 3) := by decide +kernel
theorem dX3_isWhole_25 : decode cX3_isWhole 25 = .ok (.iconst 4, 1) := by decide +kernel
theorem dX3_isWhole_26 : decode cX3_isWhole 26 = .ok (.isub, 1) := by decide +kernel
theorem dX3_isWhole_27 : decode cX3_isWhole 27 = .ok (.if_icmp .ne 7, 3) := by decide +kernel
theorem dX3_isWhole_30 : decode cX3_isWhole 30 = .ok (.iconst 1, 1) := by decide +kernel
theorem dX3_isWhole_31 : decode cX3_isWhole 31 = .ok (.goto 4, 3) := by decide +kernel
theorem dX3_isWhole_34 : decode cX3_isWhole 34 = .ok (.iconst 0, 1) := by decide +kernel
theorem dX3_isWhole_35 : decode cX3_isWhole 35 = .ok (.ireturn, 1) := by decide +kernel
theorem dX4_init_0 : decode cX4_init 0 = .ok (.aload_n 0, 1) := by decide +kernel
theorem dX4_init_1 : decode cX4_init 1 = .ok (.invokespecial 3, 3) := by decide +kernel
theorem dX4_init_4 : decode cX4_init 4 = .ok (.aload_n 0, 1) := by decide +kernel
theorem dX4_init_5 : decode cX4_init 5 = .ok (.bipush 32, 2) := by decide +kernel
theorem dX4_init_7 : decode cX4_init 7 = .ok (.anewarray 11, 3) := by decide +kernel
theorem dX4_init_10 : decode cX4_init 10 = .ok (.putfield 13, 3) := by decide +kernel
theorem dX4_init_13 : decode cX4_init 13 = .ok (.iconst 0, 1) := by decide +kernel
theorem dX4_init_14 : decode cX4_init 14 = .ok (.istore_n 1, 1) := by decide +kernel
theorem dX4_init_15 : decode cX4_init 15 = .ok (.iload_n 1, 1) := by decide +kernel
theorem dX4_init_16 : decode cX4_init 16 = .ok (.bipush 32, 2) := by decide +kernel
theorem dX4_init_18 : decode cX4_init 18 = .ok (.if_icmp .ge 25, 3) := by decide +kernel
theorem dX4_init_21 : decode cX4_init 21 = .ok (.aload_n 0, 1) := by decide +kernel
theorem dX4_init_22 : decode cX4_init 22 = .ok (.getfield 13, 3) := by decide +kernel
theorem dX4_init_25 : decode cX4_init 25 = .ok (.iload_n 1, 1) := by decide +kernel
theorem dX4_init_26 : decode cX4_init 26 = .ok (.new 11, 3) := by decide +kernel
theorem dX4_init_29 : decode cX4_init 29 = .ok (.dup, 1) := by decide +kernel
theorem dX4_init_30 : decode cX4_init 30 = .ok (.sipush 422, 3) := by decide +kernel
theorem dX4_init_33 : decode cX4_init 33 = .ok (.invokespecial 17, 3) := by decide +kernel
theorem dX4_init_36 : decode cX4_init 36 = .ok (.aastore, 1) := by decide +kernel
theorem dX4_init_37 : decode cX4_init 37 = .ok (.iinc 1 1, 3) := by decide +kernel
theorem dX4_init_40 : decode cX4_init 40 = .ok (.goto (-25), 3) := by decide +kernel
theorem dX4_init_43 : decode cX4_init 43 = .ok (.aload_n 0, 1) := by decide +kernel
theorem dX4_init_44 : decode cX4_init 44 = .ok (.iconst 0, 1) := by decide +kernel
theorem dX4_init_45 : decode cX4_init 45 = .ok (.putfield 20, 3) := by decide +kernel
theorem dX4_init_48 : decode cX4_init 48 = .ok (.return_, 1) := by decide +kernel
theorem dX4_isFull_0 : decode cX4_isFull 0 = .ok (.aload_n 0, 1) := by decide +kernel
theorem dX4_isFull_1 : decode cX4_isFull 1 = .ok (.getfield 20, 3) := by decide +kernel
theorem dX4_isFull_4 : decode cX4_isFull 4 = .ok (.bipush 32, 2) := by decide +kernel
theorem dX4_isFull_6 : decode cX4_isFull 6 = .ok (.if_icmp .lt 7, 3) := by decide +kernel
theorem dX4_isFull_9 : decode cX4_isFull 9 = .ok (.iconst 1, 1) := by decide +kernel
theorem dX4_isFull_10 : decode cX4_isFull 10 = .ok (.goto 4, 3) := by decide +kernel
theorem dX4_isFull_13 : decode cX4_isFull 13 = .ok (.iconst 0, 1) := by decide +kernel
theorem dX4_isFull_14 : decode cX4_isFull 14 = .ok (.ireturn, 1) := by decide +kernel
theorem dX4_first_0 : decode cX4_first 0 = .ok (.aload_n 0, 1) := by decide +kernel
theorem dX4_first_1 : decode cX4_first 1 = .ok (.getfield 13, 3) := by decide +kernel
theorem dX4_first_4 : decode cX4_first 4 = .ok (.iconst 0, 1) := by decide +kernel
theorem dX4_first_5 : decode cX4_first 5 = .ok (.aaload, 1) := by decide +kernel
theorem dX4_first_6 : decode cX4_first 6 = .ok (.areturn, 1) := by decide +kernel
theorem dX4_byteOf_0 : decode cX4_byteOf 0 = .ok (.iload_n 1, 1) := by decide +kernel
theorem dX4_byteOf_1 : decode cX4_byteOf 1 = .ok (.ifCond .lt 24, 3) := by decide +kernel
theorem dX4_byteOf_4 : decode cX4_byteOf 4 = .ok (.iload_n 1, 1) := by decide +kernel
theorem dX4_byteOf_5 : decode cX4_byteOf 5 = .ok (.aload_n 0, 1) := by decide +kernel
theorem dX4_byteOf_6 : decode cX4_byteOf 6 = .ok (.getfield 20, 3) := by decide +kernel
theorem dX4_byteOf_9 : decode cX4_byteOf 9 = .ok (.if_icmp .ge 16, 3) := by decide +kernel
theorem dX4_byteOf_12 : decode cX4_byteOf 12 = .ok (.aload_n 0, 1) := by decide +kernel
theorem dX4_byteOf_13 : decode cX4_byteOf 13 = .ok (.getfield 13, 3) := by decide +kernel
theorem dX4_byteOf_16 : decode cX4_byteOf 16 = .ok (.iload_n 1, 1) := by decide +kernel
theorem dX4_byteOf_17 : decode cX4_byteOf 17 = .ok (.aaload, 1) := by decide +kernel
theorem dX4_byteOf_18 : decode cX4_byteOf 18 = .ok (.iload_n 2, 1) := by decide +kernel
theorem dX4_byteOf_19 : decode cX4_byteOf 19 = .ok (.invokevirtual 24, 3) := by decide +kernel
theorem dX4_byteOf_22 : decode cX4_byteOf 22 = .ok (.goto 4, 3) := by decide +kernel
theorem dX4_byteOf_25 : decode cX4_byteOf 25 = .ok (.iconst (-1), 1) := by decide +kernel
theorem dX4_byteOf_26 : decode cX4_byteOf 26 = .ok (.ireturn, 1) := by decide +kernel
theorem dX4_add_0 : decode cX4_add 0 = .ok (.aload_n 0, 1) := by decide +kernel
theorem dX4_add_1 : decode cX4_add 1 = .ok (.invokevirtual 28, 3) := by decide +kernel
theorem dX4_add_4 : decode cX4_add 4 = .ok (.ifCond .eq 5, 3) := by decide +kernel
theorem dX4_add_7 : decode cX4_add 7 = .ok (.aconst_null, 1) := by decide +kernel
theorem dX4_add_8 : decode cX4_add 8 = .ok (.areturn, 1) := by decide +kernel
theorem dX4_add_9 : decode cX4_add 9 = .ok (.aload_n 0, 1) := by decide +kernel
theorem dX4_add_10 : decode cX4_add 10 = .ok (.getfield 13, 3) := by decide +kernel
theorem dX4_add_13 : decode cX4_add 13 = .ok (.aload_n 0, 1) := by decide +kernel
theorem dX4_add_14 : decode cX4_add 14 = .ok (.getfield 20, 3) := by decide +kernel
theorem dX4_add_17 : decode cX4_add 17 = .ok (.aaload, 1) := by decide +kernel
theorem dX4_add_18 : decode cX4_add 18 = .ok (.astore_n 1, 1) := by decide +kernel
theorem dX4_add_19 : decode cX4_add 19 = .ok (.aload_n 1, 1) := by decide +kernel
theorem dX4_add_20 : decode cX4_add 20 = .ok (.invokevirtual 32, 3) := by decide +kernel
theorem dX4_add_23 : decode cX4_add 23 = .ok (.aload_n 0, 1) := by decide +kernel
theorem dX4_add_24 : decode cX4_add 24 = .ok (.dup, 1) := by decide +kernel
theorem dX4_add_25 : decode cX4_add 25 = .ok (.getfield 20, 3) := by decide +kernel
theorem dX4_add_28 : decode cX4_add 28 = .ok (.iconst 1, 1) := by decide +kernel
theorem dX4_add_29 : decode cX4_add 29 = .ok (.iadd, 1) := by decide +kernel
theorem dX4_add_30 : decode cX4_add 30 = .ok (.putfield 20, 3) := by decide +kernel
theorem dX4_add_33 : decode cX4_add 33 = .ok (.aload_n 1, 1) := by decide +kernel
theorem dX4_add_34 : decode cX4_add 34 = .ok (.areturn, 1) := by decide +kernel
theorem dX4_drop_0 : decode cX4_drop 0 = .ok (.aload_n 0, 1) := by decide +kernel
theorem dX4_drop_1 : decode cX4_drop 1 = .ok (.getfield 20, 3) := by decide +kernel
theorem dX4_drop_4 : decode cX4_drop 4 = .ok (.ifCond .ne 5, 3) := by decide +kernel
theorem dX4_drop_7 : decode cX4_drop 7 = .ok (.iconst 0, 1) := by decide +kernel
theorem dX4_drop_8 : decode cX4_drop 8 = .ok (.ireturn, 1) := by decide +kernel
theorem dX4_drop_9 : decode cX4_drop 9 = .ok (.aload_n 0, 1) := by decide +kernel
theorem dX4_drop_10 : decode cX4_drop 10 = .ok (.getfield 13, 3) := by decide +kernel
theorem dX4_drop_13 : decode cX4_drop 13 = .ok (.iconst 0, 1) := by decide +kernel
theorem dX4_drop_14 : decode cX4_drop 14 = .ok (.aaload, 1) := by decide +kernel
theorem dX4_drop_15 : decode cX4_drop 15 = .ok (.astore_n 1, 1) := by decide +kernel
theorem dX4_drop_16 : decode cX4_drop 16 = .ok (.iconst 1, 1) := by decide +kernel
theorem dX4_drop_17 : decode cX4_drop 17 = .ok (.istore_n 2, 1) := by decide +kernel
theorem dX4_drop_18 : decode cX4_drop 18 = .ok (.iload_n 2, 1) := by decide +kernel
theorem dX4_drop_19 : decode cX4_drop 19 = .ok (.aload_n 0, 1) := by decide +kernel
theorem dX4_drop_20 : decode cX4_drop 20 = .ok (.getfield 20, 3) := by decide +kernel
theorem dX4_drop_23 : decode cX4_drop 23 = .ok (.if_icmp .ge 23, 3) := by decide +kernel
theorem dX4_drop_26 : decode cX4_drop 26 = .ok (.aload_n 0, 1) := by decide +kernel
theorem dX4_drop_27 : decode cX4_drop 27 = .ok (.getfield 13, 3) := by decide +kernel
theorem dX4_drop_30 : decode cX4_drop 30 = .ok (.iload_n 2, 1) := by decide +kernel
theorem dX4_drop_31 : decode cX4_drop 31 = .ok (.iconst 1, 1) := by decide +kernel
theorem dX4_drop_32 : decode cX4_drop 32 = .ok (.isub, 1) := by decide +kernel
theorem dX4_drop_33 : decode cX4_drop 33 = .ok (.aload_n 0, 1) := by decide +kernel
theorem dX4_drop_34 : decode cX4_drop 34 = .ok (.getfield 13, 3) := by decide +kernel
theorem dX4_drop_37 : decode cX4_drop 37 = .ok (.iload_n 2, 1) := by decide +kernel
theorem dX4_drop_38 : decode cX4_drop 38 = .ok (.aaload, 1) := by decide +kernel
theorem dX4_drop_39 : decode cX4_drop 39 = .ok (.aastore, 1) := by decide +kernel
theorem dX4_drop_40 : decode cX4_drop 40 = .ok (.iinc 2 1, 3) := by decide +kernel
theorem dX4_drop_43 : decode cX4_drop 43 = .ok (.goto (-25), 3) := by decide +kernel
theorem dX4_drop_46 : decode cX4_drop 46 = .ok (.aload_n 0, 1) := by decide +kernel
theorem dX4_drop_47 : decode cX4_drop 47 = .ok (.dup, 1) := by decide +kernel
theorem dX4_drop_48 : decode cX4_drop 48 = .ok (.getfield 20, 3) := by decide +kernel
theorem dX4_drop_51 : decode cX4_drop 51 = .ok (.iconst 1, 1) := by decide +kernel
theorem dX4_drop_52 : decode cX4_drop 52 = .ok (.isub, 1) := by decide +kernel
theorem dX4_drop_53 : decode cX4_drop 53 = .ok (.putfield 20, 3) := by decide +kernel
theorem dX4_drop_56 : decode cX4_drop 56 = .ok (.aload_n 0, 1) := by decide +kernel
theorem dX4_drop_57 : decode cX4_drop 57 = .ok (.getfield 13, 3) := by decide +kernel
theorem dX4_drop_60 : decode cX4_drop 60 = .ok (.aload_n 0, 1) := by decide +kernel
theorem dX4_drop_61 : decode cX4_drop 61 = .ok (.getfield 20, 3) := by decide +kernel
theorem dX4_drop_64 : decode cX4_drop 64 = .ok (.aload_n 1, 1) := by decide +kernel
theorem dX4_drop_65 : decode cX4_drop 65 = .ok (.aastore, 1) := by decide +kernel
theorem dX4_drop_66 : decode cX4_drop 66 = .ok (.iconst 1, 1) := by decide +kernel
theorem dX4_drop_67 : decode cX4_drop 67 = .ok (.ireturn, 1) := by decide +kernel
theorem dX4_twice_0 : decode cX4_twice 0 = .ok (.aload_n 0, 1) := by decide +kernel
theorem dX4_twice_1 : decode cX4_twice 1 = .ok (.getfield 20, 3) := by decide +kernel
theorem dX4_twice_4 : decode cX4_twice 4 = .ok (.ifCond .eq 10, 3) := by decide +kernel
theorem dX4_twice_7 : decode cX4_twice 7 = .ok (.aload_n 0, 1) := by decide +kernel
theorem dX4_twice_8 : decode cX4_twice 8 = .ok (.invokevirtual 28, 3) := by decide +kernel
theorem dX4_twice_11 : decode cX4_twice 11 = .ok (.ifCond .eq 5, 3) := by decide +kernel
theorem dX4_twice_14 : decode cX4_twice 14 = .ok (.iconst 0, 1) := by decide +kernel
theorem dX4_twice_15 : decode cX4_twice 15 = .ok (.ireturn, 1) := by decide +kernel
theorem dX4_twice_16 : decode cX4_twice 16 = .ok (.aload_n 0, 1) := by decide +kernel
theorem dX4_twice_17 : decode cX4_twice 17 = .ok (.getfield 13, 3) := by decide +kernel
theorem dX4_twice_20 : decode cX4_twice 20 = .ok (.aload_n 0, 1) := by decide +kernel
theorem dX4_twice_21 : decode cX4_twice 21 = .ok (.getfield 20, 3) := by decide +kernel
theorem dX4_twice_24 : decode cX4_twice 24 = .ok (.aaload, 1) := by decide +kernel
theorem dX4_twice_25 : decode cX4_twice 25 = .ok (.astore_n 1, 1) := by decide +kernel
theorem dX4_twice_26 : decode cX4_twice 26 = .ok (.aload_n 0, 1) := by decide +kernel
theorem dX4_twice_27 : decode cX4_twice 27 = .ok (.getfield 20, 3) := by decide +kernel
theorem dX4_twice_30 : decode cX4_twice 30 = .ok (.istore_n 2, 1) := by decide +kernel
theorem dX4_twice_31 : decode cX4_twice 31 = .ok (.iload_n 2, 1) := by decide +kernel
theorem dX4_twice_32 : decode cX4_twice 32 = .ok (.iconst 1, 1) := by decide +kernel
theorem dX4_twice_33 : decode cX4_twice 33 = .ok (.if_icmp .le 23, 3) := by decide +kernel
theorem dX4_twice_36 : decode cX4_twice 36 = .ok (.aload_n 0, 1) := by decide +kernel
theorem dX4_twice_37 : decode cX4_twice 37 = .ok (.getfield 13, 3) := by decide +kernel
theorem dX4_twice_40 : decode cX4_twice 40 = .ok (.iload_n 2, 1) := by decide +kernel
theorem dX4_twice_41 : decode cX4_twice 41 = .ok (.aload_n 0, 1) := by decide +kernel
theorem dX4_twice_42 : decode cX4_twice 42 = .ok (.getfield 13, 3) := by decide +kernel
theorem dX4_twice_45 : decode cX4_twice 45 = .ok (.iload_n 2, 1) := by decide +kernel
theorem dX4_twice_46 : decode cX4_twice 46 = .ok (.iconst 1, 1) := by decide +kernel
theorem dX4_twice_47 : decode cX4_twice 47 = .ok (.isub, 1) := by decide +kernel
theorem dX4_twice_48 : decode cX4_twice 48 = .ok (.aaload, 1) := by decide +kernel
theorem dX4_twice_49 : decode cX4_twice 49 = .ok (.aastore, 1) := by decide +kernel
theorem dX4_twice_50 : decode cX4_twice 50 = .ok (.iinc 2 (-1), 3) := by decide +kernel
theorem dX4_twice_53 : decode cX4_twice 53 = .ok (.goto (-22), 3) := by decide +kernel
theorem dX4_twice_56 : decode cX4_twice 56 = .ok (.aload_n 0, 1) := by decide +kernel
theorem dX4_twice_57 : decode cX4_twice 57 = .ok (.getfield 13, 3) := by decide +kernel
theorem dX4_twice_60 : decode cX4_twice 60 = .ok (.iconst 1, 1) := by decide +kernel
theorem dX4_twice_61 : decode cX4_twice 61 = .ok (.aload_n 1, 1) := by decide +kernel
theorem dX4_twice_62 : decode cX4_twice 62 = .ok (.aastore, 1) := by decide +kernel
theorem dX4_twice_63 : decode cX4_twice 63 = .ok (.aload_n 1, 1) := by decide +kernel
theorem dX4_twice_64 : decode cX4_twice 64 = .ok (.aload_n 0, 1) := by decide +kernel
theorem dX4_twice_65 : decode cX4_twice 65 = .ok (.getfield 13, 3) := by decide +kernel
theorem dX4_twice_68 : decode cX4_twice 68 = .ok (.iconst 0, 1) := by decide +kernel
theorem dX4_twice_69 : decode cX4_twice 69 = .ok (.aaload, 1) := by decide +kernel
theorem dX4_twice_70 : decode cX4_twice 70 = .ok (.invokevirtual 35, 3) := by decide +kernel
theorem dX4_twice_73 : decode cX4_twice 73 = .ok (.aload_n 0, 1) := by decide +kernel
theorem dX4_twice_74 : decode cX4_twice 74 = .ok (.dup, 1) := by decide +kernel
theorem dX4_twice_75 : decode cX4_twice 75 = .ok (.getfield 20, 3) := by decide +kernel
theorem dX4_twice_78 : decode cX4_twice 78 = .ok (.iconst 1, 1) := by decide +kernel
theorem dX4_twice_79 : decode cX4_twice 79 = .ok (.iadd, 1) := by decide +kernel
theorem dX4_twice_80 : decode cX4_twice 80 = .ok (.putfield 20, 3) := by decide +kernel
theorem dX4_twice_83 : decode cX4_twice 83 = .ok (.iconst 1, 1) := by decide +kernel
theorem dX4_twice_84 : decode cX4_twice 84 = .ok (.ireturn, 1) := by decide +kernel
theorem dX4_swap_0 : decode cX4_swap 0 = .ok (.aload_n 0, 1) := by decide +kernel
theorem dX4_swap_1 : decode cX4_swap 1 = .ok (.getfield 20, 3) := by decide +kernel
theorem dX4_swap_4 : decode cX4_swap 4 = .ok (.iconst 2, 1) := by decide +kernel
theorem dX4_swap_5 : decode cX4_swap 5 = .ok (.if_icmp .ge 5, 3) := by decide +kernel
theorem dX4_swap_8 : decode cX4_swap 8 = .ok (.iconst 0, 1) := by decide +kernel
theorem dX4_swap_9 : decode cX4_swap 9 = .ok (.ireturn, 1) := by decide +kernel
theorem dX4_swap_10 : decode cX4_swap 10 = .ok (.aload_n 0, 1) := by decide +kernel
theorem dX4_swap_11 : decode cX4_swap 11 = .ok (.getfield 13, 3) := by decide +kernel
theorem dX4_swap_14 : decode cX4_swap 14 = .ok (.iconst 0, 1) := by decide +kernel
theorem dX4_swap_15 : decode cX4_swap 15 = .ok (.aaload, 1) := by decide +kernel
theorem dX4_swap_16 : decode cX4_swap 16 = .ok (.astore_n 1, 1) := by decide +kernel
theorem dX4_swap_17 : decode cX4_swap 17 = .ok (.aload_n 0, 1) := by decide +kernel
theorem dX4_swap_18 : decode cX4_swap 18 = .ok (.getfield 13, 3) := by decide +kernel
theorem dX4_swap_21 : decode cX4_swap 21 = .ok (.iconst 0, 1) := by decide +kernel
theorem dX4_swap_22 : decode cX4_swap 22 = .ok (.aload_n 0, 1) := by decide +kernel
theorem dX4_swap_23 : decode cX4_swap 23 = .ok (.getfield 13, 3) := by decide +kernel
theorem dX4_swap_26 : decode cX4_swap 26 = .ok (.iconst 1, 1) := by decide +kernel
theorem dX4_swap_27 : decode cX4_swap 27 = .ok (.aaload, 1) := by decide +kernel
theorem dX4_swap_28 : decode cX4_swap 28 = .ok (.aastore, 1) := by decide +kernel
theorem dX4_swap_29 : decode cX4_swap 29 = .ok (.aload_n 0, 1) := by decide +kernel
theorem dX4_swap_30 : decode cX4_swap 30 = .ok (.getfield 13, 3) := by decide +kernel
theorem dX4_swap_33 : decode cX4_swap 33 = .ok (.iconst 1, 1) := by decide +kernel
theorem dX4_swap_34 : decode cX4_swap 34 = .ok (.aload_n 1, 1) := by decide +kernel
theorem dX4_swap_35 : decode cX4_swap 35 = .ok (.aastore, 1) := by decide +kernel
theorem dX4_swap_36 : decode cX4_swap 36 = .ok (.iconst 1, 1) := by decide +kernel
theorem dX4_swap_37 : decode cX4_swap 37 = .ok (.ireturn, 1) := by decide +kernel
theorem dX5_init_0 : decode cX5_init 0 = .ok (.aload_n 0, 1) := by decide +kernel
theorem dX5_init_1 : decode cX5_init 1 = .ok (.invokespecial 3, 3) := by decide +kernel
theorem dX5_init_4 : decode cX5_init 4 = .ok (.aload_n 0, 1) := by decide +kernel
theorem dX5_init_5 : decode cX5_init 5 = .ok (.iconst 5, 1) := by decide +kernel
theorem dX5_init_6 : decode cX5_init 6 = .ok (.newarray .long, 2) := by decide +kernel
theorem dX5_init_8 : decode cX5_init 8 = .ok (.putfield 9, 3) := by decide +kernel
theorem dX5_init_11 : decode cX5_init 11 = .ok (.aload_n 0, 1) := by decide +kernel
theorem dX5_init_12 : decode cX5_init 12 = .ok (.iconst 5, 1) := by decide +kernel
theorem dX5_init_13 : decode cX5_init 13 = .ok (.newarray .long, 2) := by decide +kernel
theorem dX5_init_15 : decode cX5_init 15 = .ok (.putfield 13, 3) := by decide +kernel
theorem dX5_init_18 : decode cX5_init 18 = .ok (.aload_n 0, 1) := by decide +kernel
theorem dX5_init_19 : decode cX5_init 19 = .ok (.iconst 5, 1) := by decide +kernel
theorem dX5_init_20 : decode cX5_init 20 = .ok (.newarray .long, 2) := by decide +kernel
theorem dX5_init_22 : decode cX5_init 22 = .ok (.putfield 16, 3) := by decide +kernel
theorem dX5_init_25 : decode cX5_init 25 = .ok (.return_, 1) := by decide +kernel
theorem dX5_tag_0 : decode cX5_tag 0 = .ok (.iconst 0, 1) := by decide +kernel
theorem dX5_tag_1 : decode cX5_tag 1 = .ok (.istore 4, 2) := by decide +kernel
theorem dX5_tag_3 : decode cX5_tag 3 = .ok (.iload 4, 2) := by decide +kernel
theorem dX5_tag_5 : decode cX5_tag 5 = .ok (.iconst 5, 1) := by decide +kernel
theorem dX5_tag_6 : decode cX5_tag 6 = .ok (.if_icmp .ge 25, 3) := by decide +kernel
theorem dX5_tag_9 : decode cX5_tag 9 = .ok (.aload_n 0, 1) := by decide +kernel
theorem dX5_tag_10 : decode cX5_tag 10 = .ok (.getfield 9, 3) := by decide +kernel
theorem dX5_tag_13 : decode cX5_tag 13 = .ok (.iload 4, 2) := by decide +kernel
theorem dX5_tag_15 : decode cX5_tag 15 = .ok (.lconst 0, 1) := by decide +kernel
theorem dX5_tag_16 : decode cX5_tag 16 = .ok (.lastore, 1) := by decide +kernel
theorem dX5_tag_17 : decode cX5_tag 17 = .ok (.aload_n 0, 1) := by decide +kernel
theorem dX5_tag_18 : decode cX5_tag 18 = .ok (.getfield 13, 3) := by decide +kernel
theorem dX5_tag_21 : decode cX5_tag 21 = .ok (.iload 4, 2) := by decide +kernel
theorem dX5_tag_23 : decode cX5_tag 23 = .ok (.lconst 0, 1) := by decide +kernel
theorem dX5_tag_24 : decode cX5_tag 24 = .ok (.lastore, 1) := by decide +kernel
theorem dX5_tag_25 : decode cX5_tag 25 = .ok (.iinc 4 1, 3) := by decide +kernel
theorem dX5_tag_28 : decode cX5_tag 28 = .ok (.goto (-25), 3) := by decide +kernel
theorem dX5_tag_31 : decode cX5_tag 31 = .ok (.iconst 0, 1) := by decide +kernel
theorem dX5_tag_32 : decode cX5_tag 32 = .ok (.istore 4, 2) := by decide +kernel
theorem dX5_tag_34 : decode cX5_tag 34 = .ok (.iload 4, 2) := by decide +kernel
theorem dX5_tag_36 : decode cX5_tag 36 = .ok (.bipush 16, 2) := by decide +kernel
theorem dX5_tag_38 : decode cX5_tag 38 = .ok (.if_icmp .ge 34, 3) := by decide +kernel
theorem dX5_tag_41 : decode cX5_tag 41 = .ok (.iload 4, 2) := by decide +kernel
theorem dX5_tag_43 : decode cX5_tag 43 = .ok (.aload_n 1, 1) := by decide +kernel
theorem dX5_tag_44 : decode cX5_tag 44 = .ok (.getfield 19, 3) := by decide +kernel
theorem dX5_tag_47 : decode cX5_tag 47 = .ok (.if_icmp .ge 25, 3) := by decide +kernel
theorem dX5_tag_50 : decode cX5_tag 50 = .ok (.aload_n 1, 1) := by decide +kernel
theorem dX5_tag_51 : decode cX5_tag 51 = .ok (.getfield 25, 3) := by decide +kernel
theorem dX5_tag_54 : decode cX5_tag 54 = .ok (.iload 4, 2) := by decide +kernel
theorem dX5_tag_56 : decode cX5_tag 56 = .ok (.dup2, 1) := by decide +kernel
theorem dX5_tag_57 : decode cX5_tag 57 = .ok (.iaload, 1) := by decide +kernel
theorem dX5_tag_58 : decode cX5_tag 58 = .ok (.getstatic 29, 3) := by decide +kernel
theorem dX5_tag_61 : decode cX5_tag 61 = .ok (.iload 4, 2) := by decide +kernel
theorem dX5_tag_63 : decode cX5_tag 63 = .ok (.iaload, 1) := by decide +kernel
theorem dX5_tag_64 : decode cX5_tag 64 = .ok (.iand, 1) := by decide +kernel
theorem dX5_tag_65 : decode cX5_tag 65 = .ok (.iastore, 1) := by decide +kernel
theorem dX5_tag_66 : decode cX5_tag 66 = .ok (.iinc 4 1, 3) := by decide +kernel
theorem dX5_tag_69 : decode cX5_tag 69 = .ok (.goto (-35), 3) := by decide +kernel
theorem dX5_tag_72 : decode cX5_tag 72 = .ok (.aload_n 1, 1) := by decide +kernel
theorem dX5_tag_73 : decode cX5_tag 73 = .ok (.iconst 0, 1) := by decide +kernel
theorem dX5_tag_74 : decode cX5_tag 74 = .ok (.aload_n 0, 1) := by decide +kernel
theorem dX5_tag_75 : decode cX5_tag 75 = .ok (.getfield 9, 3) := by decide +kernel
theorem dX5_tag_78 : decode cX5_tag 78 = .ok (.invokestatic 32, 3) := by decide +kernel
theorem dX5_tag_81 : decode cX5_tag 81 = .ok (.iconst 0, 1) := by decide +kernel
theorem dX5_tag_82 : decode cX5_tag 82 = .ok (.istore 4, 2) := by decide +kernel
theorem dX5_tag_84 : decode cX5_tag 84 = .ok (.iload 4, 2) := by decide +kernel
theorem dX5_tag_86 : decode cX5_tag 86 = .ok (.aload_n 2, 1) := by decide +kernel
theorem dX5_tag_87 : decode cX5_tag 87 = .ok (.getfield 19, 3) := by decide +kernel
theorem dX5_tag_90 : decode cX5_tag 90 = .ok (.if_icmp .ge 42, 3) := by decide +kernel
theorem dX5_tag_93 : decode cX5_tag 93 = .ok (.aload_n 2, 1) := by decide +kernel
theorem dX5_tag_94 : decode cX5_tag 94 = .ok (.iload 4, 2) := by decide +kernel
theorem dX5_tag_96 : decode cX5_tag 96 = .ok (.aload_n 0, 1) := by decide +kernel
theorem dX5_tag_97 : decode cX5_tag 97 = .ok (.getfield 13, 3) := by decide +kernel
theorem dX5_tag_100 : decode cX5_tag 100 = .ok (.invokestatic 32, 3) := by decide +kernel
theorem dX5_tag_103 : decode cX5_tag 103 = .ok (.aload_n 0, 1) := by decide +kernel
theorem dX5_tag_104 : decode cX5_tag 104 = .ok (.getfield 13, 3) := by decide +kernel
theorem dX5_tag_107 : decode cX5_tag 107 = .ok (.iconst 4, 1) := by decide +kernel
theorem dX5_tag_108 : decode cX5_tag 108 = .ok (.dup2, 1) := by decide +kernel
theorem dX5_tag_109 : decode cX5_tag 109 = .ok (.laload, 1) := by decide +kernel
theorem dX5_tag_110 : decode cX5_tag 110 = .ok (.ldc2_w 36, 3) := by decide +kernel
theorem dX5_tag_113 : decode cX5_tag 113 = .ok (.ladd, 1) := by decide +kernel
theorem dX5_tag_114 : decode cX5_tag 114 = .ok (.lastore, 1) := by decide +kernel
theorem dX5_tag_115 : decode cX5_tag 115 = .ok (.aload_n 0, 1) := by decide +kernel
theorem dX5_tag_116 : decode cX5_tag 116 = .ok (.invokevirtual 38, 3) := by decide +kernel
theorem dX5_tag_119 : decode cX5_tag 119 = .ok (.aload_n 0, 1) := by decide +kernel
theorem dX5_tag_120 : decode cX5_tag 120 = .ok (.getfield 13, 3) := by decide +kernel
theorem dX5_tag_123 : decode cX5_tag 123 = .ok (.invokestatic 41, 3) := by decide +kernel
theorem dX5_tag_126 : decode cX5_tag 126 = .ok (.iinc 4 16, 3) := by decide +kernel
theorem dX5_tag_129 : decode cX5_tag 129 = .ok (.goto (-45), 3) := by decide +kernel
theorem dX5_tag_132 : decode cX5_tag 132 = .ok (.aload_n 0, 1) := by decide +kernel
theorem dX5_tag_133 : decode cX5_tag 133 = .ok (.getfield 13, 3) := by decide +kernel
theorem dX5_tag_136 : decode cX5_tag 136 = .ok (.invokestatic 41, 3) := by decide +kernel
theorem dX5_tag_139 : decode cX5_tag 139 = .ok (.aload_n 0, 1) := by decide +kernel
theorem dX5_tag_140 : decode cX5_tag 140 = .ok (.getfield 13, 3) := by decide +kernel
theorem dX5_tag_143 : decode cX5_tag 143 = .ok (.invokestatic 41, 3) := by decide +kernel
theorem dX5_tag_146 : decode cX5_tag 146 = .ok (.aload_n 0, 1) := by decide +kernel
theorem dX5_tag_147 : decode cX5_tag 147 = .ok (.invokevirtual 45, 3) := by decide +kernel
theorem dX5_tag_150 : decode cX5_tag 150 = .ok (.aload_n 0, 1) := by decide +kernel
theorem dX5_tag_151 : decode cX5_tag 151 = .ok (.aload_n 1, 1) := by decide +kernel
theorem dX5_tag_152 : decode cX5_tag 152 = .ok (.aload_n 3, 1) := by decide +kernel
theorem dX5_tag_153 : decode cX5_tag 153 = .ok (.invokevirtual 48, 3) := by decide +kernel
theorem dX5_tag_156 : decode cX5_tag 156 = .ok (.return_, 1) := by decide +kernel
theorem dX5_addBytes_0 : decode cX5_addBytes 0 = .ok (.iconst 0, 1) := by decide +kernel
theorem dX5_addBytes_1 : decode cX5_addBytes 1 = .ok (.istore_n 3, 1) := by decide +kernel
theorem dX5_addBytes_2 : decode cX5_addBytes 2 = .ok (.iload_n 3, 1) := by decide +kernel
theorem dX5_addBytes_3 : decode cX5_addBytes 3 = .ok (.bipush 16, 2) := by decide +kernel
theorem dX5_addBytes_5 : decode cX5_addBytes 5 = .ok (.if_icmp .ge 90, 3) := by decide +kernel
theorem dX5_addBytes_8 : decode cX5_addBytes 8 = .ok (.iload_n 1, 1) := by decide +kernel
theorem dX5_addBytes_9 : decode cX5_addBytes 9 = .ok (.iload_n 3, 1) := by decide +kernel
theorem dX5_addBytes_10 : decode cX5_addBytes 10 = .ok (.iadd, 1) := by decide +kernel
theorem dX5_addBytes_11 : decode cX5_addBytes 11 = .ok (.aload_n 0, 1) := by decide +kernel
theorem dX5_addBytes_12 : decode cX5_addBytes 12 = .ok (.getfield 19, 3) := by decide +kernel
theorem dX5_addBytes_15 : decode cX5_addBytes 15 = .ok (.if_icmp .ge 80, 3) := by decide +kernel
theorem dX5_addBytes_18 : decode cX5_addBytes 18 = .ok (.bipush 8, 2) := by decide +kernel
theorem dX5_addBytes_20 : decode cX5_addBytes 20 = .ok (.iload_n 3, 1) := by decide +kernel
theorem dX5_addBytes_21 : decode cX5_addBytes 21 = .ok (.imul, 1) := by decide +kernel
theorem dX5_addBytes_22 : decode cX5_addBytes 22 = .ok (.bipush 26, 2) := by decide +kernel
theorem dX5_addBytes_24 : decode cX5_addBytes 24 = .ok (.idiv, 1) := by decide +kernel
theorem dX5_addBytes_25 : decode cX5_addBytes 25 = .ok (.istore 4, 2) := by decide +kernel
theorem dX5_addBytes_27 : decode cX5_addBytes 27 = .ok (.aload_n 0, 1) := by decide +kernel
theorem dX5_addBytes_28 : decode cX5_addBytes 28 = .ok (.getfield 25, 3) := by decide +kernel
theorem dX5_addBytes_31 : decode cX5_addBytes 31 = .ok (.iload_n 1, 1) := by decide +kernel
theorem dX5_addBytes_32 : decode cX5_addBytes 32 = .ok (.iload_n 3, 1) := by decide +kernel
theorem dX5_addBytes_33 : decode cX5_addBytes 33 = .ok (.iadd, 1) := by decide +kernel
theorem dX5_addBytes_34 : decode cX5_addBytes 34 = .ok (.iaload, 1) := by decide +kernel
theorem dX5_addBytes_35 : decode cX5_addBytes 35 = .ok (.i2l, 1) := by decide +kernel
theorem dX5_addBytes_36 : decode cX5_addBytes 36 = .ok (.bipush 8, 2) := by decide +kernel
theorem dX5_addBytes_38 : decode cX5_addBytes 38 = .ok (.iload_n 3, 1) := by decide +kernel
theorem dX5_addBytes_39 : decode cX5_addBytes 39 = .ok (.imul, 1) := by decide +kernel
theorem dX5_addBytes_40 : decode cX5_addBytes 40 = .ok (.bipush 26, 2) := by decide +kernel
theorem dX5_addBytes_42 : decode cX5_addBytes 42 = .ok (.irem, 1) := by decide +kernel
theorem dX5_addBytes_43 : decode cX5_addBytes 43 = .ok (.lshl, 1) := by decide +kernel
theorem dX5_addBytes_44 : decode cX5_addBytes 44 = .ok (.lstore 5, 2) := by decide +kernel
theorem dX5_addBytes_46 : decode cX5_addBytes 46 = .ok (.iload 4, 2) := by decide +kernel
theorem dX5_addBytes_48 : decode cX5_addBytes 48 = .ok (.aload_n 2, 1) := by decide +kernel
theorem dX5_addBytes_49 : decode cX5_addBytes 49 = .ok (.arraylength, 1) := by decide +kernel
theorem dX5_addBytes_50 : decode cX5_addBytes 50 = .ok (.if_icmp .ge 16, 3) := by decide +kernel
theorem dX5_addBytes_53 : decode cX5_addBytes 53 = .ok (.aload_n 2, 1) := by decide +kernel
theorem dX5_addBytes_54 : decode cX5_addBytes 54 = .ok (.iload 4, 2) := by decide +kernel
theorem dX5_addBytes_56 : decode cX5_addBytes 56 = .ok (.dup2, 1) := by decide +kernel
theorem dX5_addBytes_57 : decode cX5_addBytes 57 = .ok (.laload, 1) := by decide +kernel
theorem dX5_addBytes_58 : decode cX5_addBytes 58 = .ok (.lload 5, 2) := by decide +kernel
theorem dX5_addBytes_60 : decode cX5_addBytes 60 = .ok (.ldc2_w 52, 3) := by decide +kernel
theorem dX5_addBytes_63 : decode cX5_addBytes 63 = .ok (.land, 1) := by decide +kernel
theorem dX5_addBytes_64 : decode cX5_addBytes 64 = .ok (.ladd, 1) := by decide +kernel
theorem dX5_addBytes_65 : decode cX5_addBytes 65 = .ok (.lastore, 1) := by decide +kernel
theorem dX5_addBytes_66 : decode cX5_addBytes 66 = .ok (.iload 4, 2) := by decide +kernel
theorem dX5_addBytes_68 : decode cX5_addBytes 68 = .ok (.iconst 1, 1) := by decide +kernel
theorem dX5_addBytes_69 : decode cX5_addBytes 69 = .ok (.iadd, 1) := by decide +kernel
theorem dX5_addBytes_70 : decode cX5_addBytes 70 = .ok (.aload_n 2, 1) := by decide +kernel
theorem dX5_addBytes_71 : decode cX5_addBytes 71 = .ok (.arraylength, 1) := by decide +kernel
theorem dX5_addBytes_72 : decode cX5_addBytes 72 = .ok (.if_icmp .ge 17, 3) := by decide +kernel
theorem dX5_addBytes_75 : decode cX5_addBytes 75 = .ok (.aload_n 2, 1) := by decide +kernel
theorem dX5_addBytes_76 : decode cX5_addBytes 76 = .ok (.iload 4, 2) := by decide +kernel
theorem dX5_addBytes_78 : decode cX5_addBytes 78 = .ok (.iconst 1, 1) := by decide +kernel
theorem dX5_addBytes_79 : decode cX5_addBytes 79 = .ok (.iadd, 1) := by decide +kernel
theorem dX5_addBytes_80 : decode cX5_addBytes 80 = .ok (.dup2, 1) := by decide +kernel
theorem dX5_addBytes_81 : decode cX5_addBytes 81 = .ok (.laload, 1) := by decide +kernel
theorem dX5_addBytes_82 : decode cX5_addBytes 82 = .ok (.lload 5, 2) := by decide +kernel
theorem dX5_addBytes_84 : decode cX5_addBytes 84 = .ok (.bipush 26, 2) := by decide +kernel
theorem dX5_addBytes_86 : decode cX5_addBytes 86 = .ok (.lushr, 1) := by decide +kernel
theorem dX5_addBytes_87 : decode cX5_addBytes 87 = .ok (.ladd, 1) := by decide +kernel
theorem dX5_addBytes_88 : decode cX5_addBytes 88 = .ok (.lastore, 1) := by decide +kernel
theorem dX5_addBytes_89 : decode cX5_addBytes 89 = .ok (.iinc 3 1, 3) := by decide +kernel
theorem dX5_addBytes_92 : decode cX5_addBytes 92 = .ok (.goto (-90), 3) := by decide +kernel
theorem dX5_addBytes_95 : decode cX5_addBytes 95 = .ok (.return_, 1) := by decide +kernel
theorem dX5_multiply_0 : decode cX5_multiply 0 = .ok (.iconst 0, 1) := by decide +kernel
theorem dX5_multiply_1 : decode cX5_multiply 1 = .ok (.istore_n 1, 1) := by decide +kernel
theorem dX5_multiply_2 : decode cX5_multiply 2 = .ok (.iload_n 1, 1) := by decide +kernel
theorem dX5_multiply_3 : decode cX5_multiply 3 = .ok (.iconst 5, 1) := by decide +kernel
theorem dX5_multiply_4 : decode cX5_multiply 4 = .ok (.if_icmp .ge 85, 3) := by decide +kernel
theorem dX5_multiply_7 : decode cX5_multiply 7 = .ok (.lconst 0, 1) := by decide +kernel
theorem dX5_multiply_8 : decode cX5_multiply 8 = .ok (.lstore_n 2, 1) := by decide +kernel
theorem dX5_multiply_9 : decode cX5_multiply 9 = .ok (.iconst 0, 1) := by decide +kernel
theorem dX5_multiply_10 : decode cX5_multiply 10 = .ok (.istore 4, 2) := by decide +kernel
theorem dX5_multiply_12 : decode cX5_multiply 12 = .ok (.iload 4, 2) := by decide +kernel
theorem dX5_multiply_14 : decode cX5_multiply 14 = .ok (.iconst 5, 1) := by decide +kernel
theorem dX5_multiply_15 : decode cX5_multiply 15 = .ok (.if_icmp .ge 61, 3) := by decide +kernel
theorem dX5_multiply_18 : decode cX5_multiply 18 = .ok (.lload_n 2, 1) := by decide +kernel
theorem dX5_multiply_19 : decode cX5_multiply 19 = .ok (.iload 4, 2) := by decide +kernel
theorem dX5_multiply_21 : decode cX5_multiply 21 = .ok (.iload_n 1, 1) := by decide +kernel
theorem dX5_multiply_22 : decode cX5_multiply 22 = .ok (.if_icmp .le 29, 3) := by decide +kernel
theorem dX5_multiply_25 : decode cX5_multiply 25 = .ok (.ldc2_w 54, 3) := by decide +kernel
theorem dX5_multiply_28 : decode cX5_multiply 28 = .ok (.aload_n 0, 1) := by decide +kernel
theorem dX5_multiply_29 : decode cX5_multiply 29 = .ok (.getfield 13, 3) := by decide +kernel
theorem dX5_multiply_32 : decode cX5_multiply 32 = .ok (.iload 4, 2) := by decide +kernel
theorem dX5_multiply_34 : decode cX5_multiply 34 = .ok (.laload, 1) := by decide +kernel
theorem dX5_multiply_35 : decode cX5_multiply 35 = .ok (.lmul, 1) := by decide +kernel
theorem dX5_multiply_36 : decode cX5_multiply 36 = .ok (.aload_n 0, 1) := by decide +kernel
theorem dX5_multiply_37 : decode cX5_multiply 37 = .ok (.getfield 9, 3) := by decide +kernel
theorem dX5_multiply_40 : decode cX5_multiply 40 = .ok (.iload_n 1, 1) := by decide +kernel
theorem dX5_multiply_41 : decode cX5_multiply 41 = .ok (.iload 4, 2) := by decide +kernel
theorem dX5_multiply_43 : decode cX5_multiply 43 = .ok (.isub, 1) := by decide +kernel
theorem dX5_multiply_44 : decode cX5_multiply 44 = .ok (.iconst 5, 1) := by decide +kernel
theorem dX5_multiply_45 : decode cX5_multiply 45 = .ok (.iadd, 1) := by decide +kernel
theorem dX5_multiply_46 : decode cX5_multiply 46 = .ok (.laload, 1) := by decide +kernel
theorem dX5_multiply_47 : decode cX5_multiply 47 = .ok (.lmul, 1) := by decide +kernel
theorem dX5_multiply_48 : decode cX5_multiply 48 = .ok (.goto 20, 3) := by decide +kernel
theorem dX5_multiply_51 : decode cX5_multiply 51 = .ok (.aload_n 0, 1) := by decide +kernel
theorem dX5_multiply_52 : decode cX5_multiply 52 = .ok (.getfield 13, 3) := by decide +kernel
theorem dX5_multiply_55 : decode cX5_multiply 55 = .ok (.iload 4, 2) := by decide +kernel
theorem dX5_multiply_57 : decode cX5_multiply 57 = .ok (.laload, 1) := by decide +kernel
theorem dX5_multiply_58 : decode cX5_multiply 58 = .ok (.aload_n 0, 1) := by decide +kernel
theorem dX5_multiply_59 : decode cX5_multiply 59 = .ok (.getfield 9, 3) := by decide +kernel
theorem dX5_multiply_62 : decode cX5_multiply 62 = .ok (.iload_n 1, 1) := by decide +kernel
theorem dX5_multiply_63 : decode cX5_multiply 63 = .ok (.iload 4, 2) := by decide +kernel
theorem dX5_multiply_65 : decode cX5_multiply 65 = .ok (.isub, 1) := by decide +kernel
theorem dX5_multiply_66 : decode cX5_multiply 66 = .ok (.laload, 1) := by decide +kernel
theorem dX5_multiply_67 : decode cX5_multiply 67 = .ok (.lmul, 1) := by decide +kernel
theorem dX5_multiply_68 : decode cX5_multiply 68 = .ok (.ladd, 1) := by decide +kernel
theorem dX5_multiply_69 : decode cX5_multiply 69 = .ok (.lstore_n 2, 1) := by decide +kernel
theorem dX5_multiply_70 : decode cX5_multiply 70 = .ok (.iinc 4 1, 3) := by decide +kernel
theorem dX5_multiply_73 : decode cX5_multiply 73 = .ok (.goto (-61), 3) := by decide +kernel
theorem dX5_multiply_76 : decode cX5_multiply 76 = .ok (.aload_n 0, 1) := by decide +kernel
theorem dX5_multiply_77 : decode cX5_multiply 77 = .ok (.getfield 16, 3) := by decide +kernel
theorem dX5_multiply_80 : decode cX5_multiply 80 = .ok (.iload_n 1, 1) := by decide +kernel
theorem dX5_multiply_81 : decode cX5_multiply 81 = .ok (.lload_n 2, 1) := by decide +kernel
theorem dX5_multiply_82 : decode cX5_multiply 82 = .ok (.lastore, 1) := by decide +kernel
theorem dX5_multiply_83 : decode cX5_multiply 83 = .ok (.iinc 1 1, 3) := by decide +kernel
theorem dX5_multiply_86 : decode cX5_multiply 86 = .ok (.goto (-84), 3) := by decide +kernel
theorem dX5_multiply_89 : decode cX5_multiply 89 = .ok (.iconst 0, 1) := by decide +kernel
theorem dX5_multiply_90 : decode cX5_multiply 90 = .ok (.istore_n 1, 1) := by decide +kernel
theorem dX5_multiply_91 : decode cX5_multiply 91 = .ok (.iload_n 1, 1) := by decide +kernel
theorem dX5_multiply_92 : decode cX5_multiply 92 = .ok (.iconst 5, 1) := by decide +kernel
theorem dX5_multiply_93 : decode cX5_multiply 93 = .ok (.if_icmp .ge 21, 3) := by decide +kernel
theorem dX5_multiply_96 : decode cX5_multiply 96 = .ok (.aload_n 0, 1) := by decide +kernel
theorem dX5_multiply_97 : decode cX5_multiply 97 = .ok (.getfield 13, 3) := by decide +kernel
theorem dX5_multiply_100 : decode cX5_multiply 100 = .ok (.iload_n 1, 1) := by decide +kernel
theorem dX5_multiply_101 : decode cX5_multiply 101 = .ok (.aload_n 0, 1) := by decide +kernel
theorem dX5_multiply_102 : decode cX5_multiply 102 = .ok (.getfield 16, 3) := by decide +kernel
theorem dX5_multiply_105 : decode cX5_multiply 105 = .ok (.iload_n 1, 1) := by decide +kernel
theorem dX5_multiply_106 : decode cX5_multiply 106 = .ok (.laload, 1) := by decide +kernel
theorem dX5_multiply_107 : decode cX5_multiply 107 = .ok (.lastore, 1) := by decide +kernel
theorem dX5_multiply_108 : decode cX5_multiply 108 = .ok (.iinc 1 1, 3) := by decide +kernel
theorem dX5_multiply_111 : decode cX5_multiply 111 = .ok (.goto (-20), 3) := by decide +kernel
theorem dX5_multiply_114 : decode cX5_multiply 114 = .ok (.return_, 1) := by decide +kernel
theorem dX5_settle_0 : decode cX5_settle 0 = .ok (.lconst 0, 1) := by decide +kernel
theorem dX5_settle_1 : decode cX5_settle 1 = .ok (.lstore_n 1, 1) := by decide +kernel
theorem dX5_settle_2 : decode cX5_settle 2 = .ok (.iconst 0, 1) := by decide +kernel
theorem dX5_settle_3 : decode cX5_settle 3 = .ok (.istore_n 3, 1) := by decide +kernel
theorem dX5_settle_4 : decode cX5_settle 4 = .ok (.iload_n 3, 1) := by decide +kernel
theorem dX5_settle_5 : decode cX5_settle 5 = .ok (.iconst 5, 1) := by decide +kernel
theorem dX5_settle_6 : decode cX5_settle 6 = .ok (.if_icmp .ge 37, 3) := by decide +kernel
theorem dX5_settle_9 : decode cX5_settle 9 = .ok (.iload_n 3, 1) := by decide +kernel
theorem dX5_settle_10 : decode cX5_settle 10 = .ok (.aload_n 0, 1) := by decide +kernel
theorem dX5_settle_11 : decode cX5_settle 11 = .ok (.arraylength, 1) := by decide +kernel
theorem dX5_settle_12 : decode cX5_settle 12 = .ok (.if_icmp .ge 31, 3) := by decide +kernel
theorem dX5_settle_15 : decode cX5_settle 15 = .ok (.aload_n 0, 1) := by decide +kernel
theorem dX5_settle_16 : decode cX5_settle 16 = .ok (.iload_n 3, 1) := by decide +kernel
theorem dX5_settle_17 : decode cX5_settle 17 = .ok (.laload, 1) := by decide +kernel
theorem dX5_settle_18 : decode cX5_settle 18 = .ok (.lload_n 1, 1) := by decide +kernel
theorem dX5_settle_19 : decode cX5_settle 19 = .ok (.ladd, 1) := by decide +kernel
theorem dX5_settle_20 : decode cX5_settle 20 = .ok (.lstore 4, 2) := by decide +kernel
theorem dX5_settle_22 : decode cX5_settle 22 = .ok (.aload_n 0, 1) := by decide +kernel
theorem dX5_settle_23 : decode cX5_settle 23 = .ok (.iload_n 3, 1) := by decide +kernel
theorem dX5_settle_24 : decode cX5_settle 24 = .ok (.lload 4, 2) := by decide +kernel
theorem dX5_settle_26 : decode cX5_settle 26 = .ok (.ldc2_w 52, 3) := by decide +kernel
theorem dX5_settle_29 : decode cX5_settle 29 = .ok (.land, 1) := by decide +kernel
theorem dX5_settle_30 : decode cX5_settle 30 = .ok (.lastore, 1) := by decide +kernel
theorem dX5_settle_31 : decode cX5_settle 31 = .ok (.lload 4, 2) := by decide +kernel
theorem dX5_settle_33 : decode cX5_settle 33 = .ok (.bipush 26, 2) := by decide +kernel
theorem dX5_settle_35 : decode cX5_settle 35 = .ok (.lushr, 1) := by decide +kernel
theorem dX5_settle_36 : decode cX5_settle 36 = .ok (.lstore_n 1, 1) := by decide +kernel
theorem dX5_settle_37 : decode cX5_settle 37 = .ok (.iinc 3 1, 3) := by decide +kernel
theorem dX5_settle_40 : decode cX5_settle 40 = .ok (.goto (-36), 3) := by decide +kernel
theorem dX5_settle_43 : decode cX5_settle 43 = .ok (.aload_n 0, 1) := by decide +kernel
theorem dX5_settle_44 : decode cX5_settle 44 = .ok (.arraylength, 1) := by decide +kernel
theorem dX5_settle_45 : decode cX5_settle 45 = .ok (.iconst 1, 1) := by decide +kernel
theorem dX5_settle_46 : decode cX5_settle 46 = .ok (.if_icmp .le 31, 3) := by decide +kernel
theorem dX5_settle_49 : decode cX5_settle 49 = .ok (.aload_n 0, 1) := by decide +kernel
theorem dX5_settle_50 : decode cX5_settle 50 = .ok (.iconst 0, 1) := by decide +kernel
theorem dX5_settle_51 : decode cX5_settle 51 = .ok (.laload, 1) := by decide +kernel
theorem dX5_settle_52 : decode cX5_settle 52 = .ok (.ldc2_w 54, 3) := by decide +kernel
theorem dX5_settle_55 : decode cX5_settle 55 = .ok (.lload_n 1, 1) := by decide +kernel
theorem dX5_settle_56 : decode cX5_settle 56 = .ok (.lmul, 1) := by decide +kernel
theorem dX5_settle_57 : decode cX5_settle 57 = .ok (.ladd, 1) := by decide +kernel
theorem dX5_settle_58 : decode cX5_settle 58 = .ok (.lstore_n 3, 1) := by decide +kernel
theorem dX5_settle_59 : decode cX5_settle 59 = .ok (.aload_n 0, 1) := by decide +kernel
theorem dX5_settle_60 : decode cX5_settle 60 = .ok (.iconst 0, 1) := by decide +kernel
theorem dX5_settle_61 : decode cX5_settle 61 = .ok (.lload_n 3, 1) := by decide +kernel
theorem dX5_settle_62 : decode cX5_settle 62 = .ok (.ldc2_w 52, 3) := by decide +kernel
theorem dX5_settle_65 : decode cX5_settle 65 = .ok (.land, 1) := by decide +kernel
theorem dX5_settle_66 : decode cX5_settle 66 = .ok (.lastore, 1) := by decide +kernel
theorem dX5_settle_67 : decode cX5_settle 67 = .ok (.aload_n 0, 1) := by decide +kernel
theorem dX5_settle_68 : decode cX5_settle 68 = .ok (.iconst 1, 1) := by decide +kernel
theorem dX5_settle_69 : decode cX5_settle 69 = .ok (.dup2, 1) := by decide +kernel
theorem dX5_settle_70 : decode cX5_settle 70 = .ok (.laload, 1) := by decide +kernel
theorem dX5_settle_71 : decode cX5_settle 71 = .ok (.lload_n 3, 1) := by decide +kernel
theorem dX5_settle_72 : decode cX5_settle 72 = .ok (.bipush 26, 2) := by decide +kernel
theorem dX5_settle_74 : decode cX5_settle 74 = .ok (.lushr, 1) := by decide +kernel
theorem dX5_settle_75 : decode cX5_settle 75 = .ok (.ladd, 1) := by decide +kernel
theorem dX5_settle_76 : decode cX5_settle 76 = .ok (.lastore, 1) := by decide +kernel
theorem dX5_settle_77 : decode cX5_settle 77 = .ok (.return_, 1) := by decide +kernel
theorem dX5_reduce_0 : decode cX5_reduce 0 = .ok (.ldc2_w 54, 3) := by decide +kernel
theorem dX5_reduce_3 : decode cX5_reduce 3 = .ok (.lstore_n 1, 1) := by decide +kernel
theorem dX5_reduce_4 : decode cX5_reduce 4 = .ok (.iconst 0, 1) := by decide +kernel
theorem dX5_reduce_5 : decode cX5_reduce 5 = .ok (.istore_n 3, 1) := by decide +kernel
theorem dX5_reduce_6 : decode cX5_reduce 6 = .ok (.iload_n 3, 1) := by decide +kernel
theorem dX5_reduce_7 : decode cX5_reduce 7 = .ok (.iconst 5, 1) := by decide +kernel
theorem dX5_reduce_8 : decode cX5_reduce 8 = .ok (.if_icmp .ge 37, 3) := by decide +kernel
theorem dX5_reduce_11 : decode cX5_reduce 11 = .ok (.aload_n 0, 1) := by decide +kernel
theorem dX5_reduce_12 : decode cX5_reduce 12 = .ok (.getfield 13, 3) := by decide +kernel
theorem dX5_reduce_15 : decode cX5_reduce 15 = .ok (.iload_n 3, 1) := by decide +kernel
theorem dX5_reduce_16 : decode cX5_reduce 16 = .ok (.laload, 1) := by decide +kernel
theorem dX5_reduce_17 : decode cX5_reduce 17 = .ok (.lload_n 1, 1) := by decide +kernel
theorem dX5_reduce_18 : decode cX5_reduce 18 = .ok (.ladd, 1) := by decide +kernel
theorem dX5_reduce_19 : decode cX5_reduce 19 = .ok (.lstore 4, 2) := by decide +kernel
theorem dX5_reduce_21 : decode cX5_reduce 21 = .ok (.aload_n 0, 1) := by decide +kernel
theorem dX5_reduce_22 : decode cX5_reduce 22 = .ok (.getfield 16, 3) := by decide +kernel
theorem dX5_reduce_25 : decode cX5_reduce 25 = .ok (.iload_n 3, 1) := by decide +kernel
theorem dX5_reduce_26 : decode cX5_reduce 26 = .ok (.lload 4, 2) := by decide +kernel
theorem dX5_reduce_28 : decode cX5_reduce 28 = .ok (.ldc2_w 52, 3) := by decide +kernel
theorem dX5_reduce_31 : decode cX5_reduce 31 = .ok (.land, 1) := by decide +kernel
theorem dX5_reduce_32 : decode cX5_reduce 32 = .ok (.lastore, 1) := by decide +kernel
theorem dX5_reduce_33 : decode cX5_reduce 33 = .ok (.lload 4, 2) := by decide +kernel
theorem dX5_reduce_35 : decode cX5_reduce 35 = .ok (.bipush 26, 2) := by decide +kernel
theorem dX5_reduce_37 : decode cX5_reduce 37 = .ok (.lushr, 1) := by decide +kernel
theorem dX5_reduce_38 : decode cX5_reduce 38 = .ok (.lstore_n 1, 1) := by decide +kernel
theorem dX5_reduce_39 : decode cX5_reduce 39 = .ok (.iinc 3 1, 3) := by decide +kernel
theorem dX5_reduce_42 : decode cX5_reduce 42 = .ok (.goto (-36), 3) := by decide +kernel
theorem dX5_reduce_45 : decode cX5_reduce 45 = .ok (.iconst 0, 1) := by decide +kernel
theorem dX5_reduce_46 : decode cX5_reduce 46 = .ok (.istore_n 3, 1) := by decide +kernel
theorem dX5_reduce_47 : decode cX5_reduce 47 = .ok (.iload_n 3, 1) := by decide +kernel
theorem dX5_reduce_48 : decode cX5_reduce 48 = .ok (.iconst 5, 1) := by decide +kernel
theorem dX5_reduce_49 : decode cX5_reduce 49 = .ok (.if_icmp .ge 27, 3) := by decide +kernel
theorem dX5_reduce_52 : decode cX5_reduce 52 = .ok (.lload_n 1, 1) := by decide +kernel
theorem dX5_reduce_53 : decode cX5_reduce 53 = .ok (.lconst 0, 1) := by decide +kernel
theorem dX5_reduce_54 : decode cX5_reduce 54 = .ok (.lcmp, 1) := by decide +kernel
theorem dX5_reduce_55 : decode cX5_reduce 55 = .ok (.ifCond .le 21, 3) := by decide +kernel
theorem dX5_reduce_58 : decode cX5_reduce 58 = .ok (.aload_n 0, 1) := by decide +kernel
theorem dX5_reduce_59 : decode cX5_reduce 59 = .ok (.getfield 13, 3) := by decide +kernel
theorem dX5_reduce_62 : decode cX5_reduce 62 = .ok (.iload_n 3, 1) := by decide +kernel
theorem dX5_reduce_63 : decode cX5_reduce 63 = .ok (.aload_n 0, 1) := by decide +kernel
theorem dX5_reduce_64 : decode cX5_reduce 64 = .ok (.getfield 16, 3) := by decide +kernel
theorem dX5_reduce_67 : decode cX5_reduce 67 = .ok (.iload_n 3, 1) := by decide +kernel
theorem dX5_reduce_68 : decode cX5_reduce 68 = .ok (.laload, 1) := by decide +kernel
theorem dX5_reduce_69 : decode cX5_reduce 69 = .ok (.lastore, 1) := by decide +kernel
theorem dX5_reduce_70 : decode cX5_reduce 70 = .ok (.iinc 3 1, 3) := by decide +kernel
theorem dX5_reduce_73 : decode cX5_reduce 73 = .ok (.goto (-26), 3) := by decide +kernel
theorem dX5_reduce_76 : decode cX5_reduce 76 = .ok (.return_, 1) := by decide +kernel
theorem dX5_putSum_0 : decode cX5_putSum 0 = .ok (.aload_n 2, 1) := by decide +kernel
theorem dX5_putSum_1 : decode cX5_putSum 1 = .ok (.invokevirtual 56, 3) := by decide +kernel
theorem dX5_putSum_4 : decode cX5_putSum 4 = .ok (.iconst 0, 1) := by decide +kernel
theorem dX5_putSum_5 : decode cX5_putSum 5 = .ok (.istore_n 3, 1) := by decide +kernel
theorem dX5_putSum_6 : decode cX5_putSum 6 = .ok (.iconst 0, 1) := by decide +kernel
theorem dX5_putSum_7 : decode cX5_putSum 7 = .ok (.istore 4, 2) := by decide +kernel
theorem dX5_putSum_9 : decode cX5_putSum 9 = .ok (.iload 4, 2) := by decide +kernel
theorem dX5_putSum_11 : decode cX5_putSum 11 = .ok (.bipush 16, 2) := by decide +kernel
theorem dX5_putSum_13 : decode cX5_putSum 13 = .ok (.if_icmp .ge 122, 3) := by decide +kernel
theorem dX5_putSum_16 : decode cX5_putSum 16 = .ok (.bipush 16, 2) := by decide +kernel
theorem dX5_putSum_18 : decode cX5_putSum 18 = .ok (.iload 4, 2) := by decide +kernel
theorem dX5_putSum_20 : decode cX5_putSum 20 = .ok (.iadd, 1) := by decide +kernel
theorem dX5_putSum_21 : decode cX5_putSum 21 = .ok (.aload_n 1, 1) := by decide +kernel
theorem dX5_putSum_22 : decode cX5_putSum 22 = .ok (.getfield 19, 3) := by decide +kernel
theorem dX5_putSum_25 : decode cX5_putSum 25 = .ok (.if_icmp .ge 110, 3) := by decide +kernel
theorem dX5_putSum_28 : decode cX5_putSum 28 = .ok (.bipush 8, 2) := by decide +kernel
theorem dX5_putSum_30 : decode cX5_putSum 30 = .ok (.iload 4, 2) := by decide +kernel
theorem dX5_putSum_32 : decode cX5_putSum 32 = .ok (.imul, 1) := by decide +kernel
theorem dX5_putSum_33 : decode cX5_putSum 33 = .ok (.bipush 26, 2) := by decide +kernel
theorem dX5_putSum_35 : decode cX5_putSum 35 = .ok (.idiv, 1) := by decide +kernel
theorem dX5_putSum_36 : decode cX5_putSum 36 = .ok (.istore 5, 2) := by decide +kernel
theorem dX5_putSum_38 : decode cX5_putSum 38 = .ok (.bipush 8, 2) := by decide +kernel
theorem dX5_putSum_40 : decode cX5_putSum 40 = .ok (.iload 4, 2) := by decide +kernel
theorem dX5_putSum_42 : decode cX5_putSum 42 = .ok (.imul, 1) := by decide +kernel
theorem dX5_putSum_43 : decode cX5_putSum 43 = .ok (.bipush 26, 2) := by decide +kernel
theorem dX5_putSum_45 : decode cX5_putSum 45 = .ok (.irem, 1) := by decide +kernel
theorem dX5_putSum_46 : decode cX5_putSum 46 = .ok (.istore 6, 2) := by decide +kernel
theorem dX5_putSum_48 : decode cX5_putSum 48 = .ok (.iload 5, 2) := by decide +kernel
theorem dX5_putSum_50 : decode cX5_putSum 50 = .ok (.iconst 5, 1) := by decide +kernel
theorem dX5_putSum_51 : decode cX5_putSum 51 = .ok (.if_icmp .ge 16, 3) := by decide +kernel
theorem dX5_putSum_54 : decode cX5_putSum 54 = .ok (.aload_n 0, 1) := by decide +kernel
theorem dX5_putSum_55 : decode cX5_putSum 55 = .ok (.getfield 13, 3) := by decide +kernel
theorem dX5_putSum_58 : decode cX5_putSum 58 = .ok (.iload 5, 2) := by decide +kernel
theorem dX5_putSum_60 : decode cX5_putSum 60 = .ok (.laload, 1) := by decide +kernel
theorem dX5_putSum_61 : decode cX5_putSum 61 = .ok (.iload 6, 2) := by decide +kernel
theorem dX5_putSum_63 : decode cX5_putSum 63 = .ok (.lushr, 1) := by decide +kernel
theorem dX5_putSum_64 : decode cX5_putSum 64 = .ok (.goto 4, 3) := by decide +kernel
theorem dX5_putSum_67 : decode cX5_putSum 67 = .ok (.lconst 0, 1) := by decide +kernel
theorem dX5_putSum_68 : decode cX5_putSum 68 = .ok (.lstore 7, 2) := by decide +kernel
theorem dX5_putSum_70 : decode cX5_putSum 70 = .ok (.iload 5, 2) := by decide +kernel
theorem dX5_putSum_72 : decode cX5_putSum 72 = .ok (.iconst 1, 1) := by decide +kernel
theorem dX5_putSum_73 : decode cX5_putSum 73 = .ok (.iadd, 1) := by decide +kernel
theorem dX5_putSum_74 : decode cX5_putSum 74 = .ok (.iconst 5, 1) := by decide +kernel
theorem dX5_putSum_75 : decode cX5_putSum 75 = .ok (.if_icmp .ge 23, 3) := by decide +kernel
theorem dX5_putSum_78 : decode cX5_putSum 78 = .ok (.lload 7, 2) := by decide +kernel
theorem dX5_putSum_80 : decode cX5_putSum 80 = .ok (.aload_n 0, 1) := by decide +kernel
theorem dX5_putSum_81 : decode cX5_putSum 81 = .ok (.getfield 13, 3) := by decide +kernel
theorem dX5_putSum_84 : decode cX5_putSum 84 = .ok (.iload 5, 2) := by decide +kernel
theorem dX5_putSum_86 : decode cX5_putSum 86 = .ok (.iconst 1, 1) := by decide +kernel
theorem dX5_putSum_87 : decode cX5_putSum 87 = .ok (.iadd, 1) := by decide +kernel
theorem dX5_putSum_88 : decode cX5_putSum 88 = .ok (.laload, 1) := by decide +kernel
theorem dX5_putSum_89 : decode cX5_putSum 89 = .ok (.bipush 26, 2) := by decide +kernel
theorem dX5_putSum_91 : decode cX5_putSum 91 = .ok (.iload 6, 2) := by decide +kernel
theorem dX5_putSum_93 : decode cX5_putSum 93 = .ok (.isub, 1) := by decide +kernel
theorem dX5_putSum_94 : decode cX5_putSum 94 = .ok (.lshl, 1) := by decide +kernel
theorem dX5_putSum_95 : decode cX5_putSum 95 = .ok (.lor, 1) := by decide +kernel
theorem dX5_putSum_96 : decode cX5_putSum 96 = .ok (.lstore 7, 2) := by decide +kernel
theorem dX5_putSum_98 : decode cX5_putSum 98 = .ok (.iload_n 3, 1) := by decide +kernel
theorem dX5_putSum_99 : decode cX5_putSum 99 = .ok (.lload 7, 2) := by decide +kernel
theorem dX5_putSum_101 : decode cX5_putSum 101 = .ok (.ldc2_w 59, 3) := by decide +kernel
theorem dX5_putSum_104 : decode cX5_putSum 104 = .ok (.land, 1) := by decide +kernel
theorem dX5_putSum_105 : decode cX5_putSum 105 = .ok (.l2i, 1) := by decide +kernel
theorem dX5_putSum_106 : decode cX5_putSum 106 = .ok (.aload_n 1, 1) := by decide +kernel
theorem dX5_putSum_107 : decode cX5_putSum 107 = .ok (.getfield 25, 3) := by decide +kernel
theorem dX5_putSum_110 : decode cX5_putSum 110 = .ok (.bipush 16, 2) := by decide +kernel
theorem dX5_putSum_112 : decode cX5_putSum 112 = .ok (.iload 4, 2) := by decide +kernel
theorem dX5_putSum_114 : decode cX5_putSum 114 = .ok (.iadd, 1) := by decide +kernel
theorem dX5_putSum_115 : decode cX5_putSum 115 = .ok (.iaload, 1) := by decide +kernel
theorem dX5_putSum_116 : decode cX5_putSum 116 = .ok (.iadd, 1) := by decide +kernel
theorem dX5_putSum_117 : decode cX5_putSum 117 = .ok (.iadd, 1) := by decide +kernel
theorem dX5_putSum_118 : decode cX5_putSum 118 = .ok (.istore_n 3, 1) := by decide +kernel
theorem dX5_putSum_119 : decode cX5_putSum 119 = .ok (.aload_n 2, 1) := by decide +kernel
theorem dX5_putSum_120 : decode cX5_putSum 120 = .ok (.iload_n 3, 1) := by decide +kernel
theorem dX5_putSum_121 : decode cX5_putSum 121 = .ok (.invokevirtual 61, 3) := by decide +kernel
theorem dX5_putSum_124 : decode cX5_putSum 124 = .ok (.iload_n 3, 1) := by decide +kernel
theorem dX5_putSum_125 : decode cX5_putSum 125 = .ok (.bipush 8, 2) := by decide +kernel
theorem dX5_putSum_127 : decode cX5_putSum 127 = .ok (.iushr, 1) := by decide +kernel
theorem dX5_putSum_128 : decode cX5_putSum 128 = .ok (.istore_n 3, 1) := by decide +kernel
theorem dX5_putSum_129 : decode cX5_putSum 129 = .ok (.iinc 4 1, 3) := by decide +kernel
theorem dX5_putSum_132 : decode cX5_putSum 132 = .ok (.goto (-123), 3) := by decide +kernel
theorem dX5_putSum_135 : decode cX5_putSum 135 = .ok (.return_, 1) := by decide +kernel
theorem dX6_init_0 : decode cX6_init 0 = .ok (.aload_n 0, 1) := by decide +kernel
theorem dX6_init_1 : decode cX6_init 1 = .ok (.invokespecial 3, 3) := by decide +kernel
theorem dX6_init_4 : decode cX6_init 4 = .ok (.aload_n 0, 1) := by decide +kernel
theorem dX6_init_5 : decode cX6_init 5 = .ok (.iload_n 1, 1) := by decide +kernel
theorem dX6_init_6 : decode cX6_init 6 = .ok (.iconst 0, 1) := by decide +kernel
theorem dX6_init_7 : decode cX6_init 7 = .ok (.invokestatic 9, 3) := by decide +kernel
theorem dX6_init_10 : decode cX6_init 10 = .ok (.newarray .int, 2) := by decide +kernel
theorem dX6_init_12 : decode cX6_init 12 = .ok (.putfield 15, 3) := by decide +kernel
theorem dX6_init_15 : decode cX6_init 15 = .ok (.aload_n 0, 1) := by decide +kernel
theorem dX6_init_16 : decode cX6_init 16 = .ok (.iconst 0, 1) := by decide +kernel
theorem dX6_init_17 : decode cX6_init 17 = .ok (.putfield 21, 3) := by decide +kernel
theorem dX6_init_20 : decode cX6_init 20 = .ok (.return_, 1) := by decide +kernel
theorem dX6_clear_0 : decode cX6_clear 0 = .ok (.aload_n 0, 1) := by decide +kernel
theorem dX6_clear_1 : decode cX6_clear 1 = .ok (.iconst 0, 1) := by decide +kernel
theorem dX6_clear_2 : decode cX6_clear 2 = .ok (.putfield 21, 3) := by decide +kernel
theorem dX6_clear_5 : decode cX6_clear 5 = .ok (.return_, 1) := by decide +kernel
theorem dX6_cut_0 : decode cX6_cut 0 = .ok (.iload_n 1, 1) := by decide +kernel
theorem dX6_cut_1 : decode cX6_cut 1 = .ok (.ifCond .lt 16, 3) := by decide +kernel
theorem dX6_cut_4 : decode cX6_cut 4 = .ok (.iload_n 1, 1) := by decide +kernel
theorem dX6_cut_5 : decode cX6_cut 5 = .ok (.aload_n 0, 1) := by decide +kernel
theorem dX6_cut_6 : decode cX6_cut 6 = .ok (.getfield 21, 3) := by decide +kernel
theorem dX6_cut_9 : decode cX6_cut 9 = .ok (.if_icmp .ge 8, 3) := by decide +kernel
theorem dX6_cut_12 : decode cX6_cut 12 = .ok (.aload_n 0, 1) := by decide +kernel
theorem dX6_cut_13 : decode cX6_cut 13 = .ok (.iload_n 1, 1) := by decide +kernel
theorem dX6_cut_14 : decode cX6_cut 14 = .ok (.putfield 21, 3) := by decide +kernel
theorem dX6_cut_17 : decode cX6_cut 17 = .ok (.return_, 1) := by decide +kernel
theorem dX6_at_0 : decode cX6_at 0 = .ok (.iload_n 1, 1) := by decide +kernel
theorem dX6_at_1 : decode cX6_at 1 = .ok (.ifCond .lt 20, 3) := by decide +kernel
theorem dX6_at_4 : decode cX6_at 4 = .ok (.iload_n 1, 1) := by decide +kernel
theorem dX6_at_5 : decode cX6_at 5 = .ok (.aload_n 0, 1) := by decide +kernel
theorem dX6_at_6 : decode cX6_at 6 = .ok (.getfield 21, 3) := by decide +kernel
theorem dX6_at_9 : decode cX6_at 9 = .ok (.if_icmp .ge 12, 3) := by decide +kernel
theorem dX6_at_12 : decode cX6_at 12 = .ok (.aload_n 0, 1) := by decide +kernel
theorem dX6_at_13 : decode cX6_at 13 = .ok (.getfield 15, 3) := by decide +kernel
theorem dX6_at_16 : decode cX6_at 16 = .ok (.iload_n 1, 1) := by decide +kernel
theorem dX6_at_17 : decode cX6_at 17 = .ok (.iaload, 1) := by decide +kernel
theorem dX6_at_18 : decode cX6_at 18 = .ok (.goto 4, 3) := by decide +kernel
theorem dX6_at_21 : decode cX6_at 21 = .ok (.iconst (-1), 1) := by decide +kernel
theorem dX6_at_22 : decode cX6_at 22 = .ok (.ireturn, 1) := by decide +kernel
theorem dX6_twoAt_0 : decode cX6_twoAt 0 = .ok (.iload_n 1, 1) := by decide +kernel
theorem dX6_twoAt_1 : decode cX6_twoAt 1 = .ok (.ifCond .lt 34, 3) := by decide +kernel
theorem dX6_twoAt_4 : decode cX6_twoAt 4 = .ok (.iload_n 1, 1) := by decide +kernel
theorem dX6_twoAt_5 : decode cX6_twoAt 5 = .ok (.aload_n 0, 1) := by decide +kernel
theorem dX6_twoAt_6 : decode cX6_twoAt 6 = .ok (.getfield 21, 3) := by decide +kernel
theorem dX6_twoAt_9 : decode cX6_twoAt 9 = .ok (.iconst 1, 1) := by decide +kernel
theorem dX6_twoAt_10 : decode cX6_twoAt 10 = .ok (.isub, 1) := by decide +kernel
theorem dX6_twoAt_11 : decode cX6_twoAt 11 = .ok (.if_icmp .ge 24, 3) := by decide +kernel
theorem dX6_twoAt_14 : decode cX6_twoAt 14 = .ok (.aload_n 0, 1) := by decide +kernel
theorem dX6_twoAt_15 : decode cX6_twoAt 15 = .ok (.getfield 15, 3) := by decide +kernel
theorem dX6_twoAt_18 : decode cX6_twoAt 18 = .ok (.iload_n 1, 1) := by decide +kernel
theorem dX6_twoAt_19 : decode cX6_twoAt 19 = .ok (.iaload, 1) := by decide +kernel
theorem dX6_twoAt_20 : decode cX6_twoAt 20 = .ok (.bipush 8, 2) := by decide +kernel
theorem dX6_twoAt_22 : decode cX6_twoAt 22 = .ok (.ishl, 1) := by decide +kernel
theorem dX6_twoAt_23 : decode cX6_twoAt 23 = .ok (.aload_n 0, 1) := by decide +kernel
theorem dX6_twoAt_24 : decode cX6_twoAt 24 = .ok (.getfield 15, 3) := by decide +kernel
theorem dX6_twoAt_27 : decode cX6_twoAt 27 = .ok (.iload_n 1, 1) := by decide +kernel
theorem dX6_twoAt_28 : decode cX6_twoAt 28 = .ok (.iconst 1, 1) := by decide +kernel
theorem dX6_twoAt_29 : decode cX6_twoAt 29 = .ok (.iadd, 1) := by decide +kernel
theorem dX6_twoAt_30 : decode cX6_twoAt 30 = .ok (.iaload, 1) := by decide +kernel
theorem dX6_twoAt_31 : decode cX6_twoAt 31 = .ok (.ior, 1) := by decide +kernel
theorem dX6_twoAt_32 : decode cX6_twoAt 32 = .ok (.goto 4, 3) := by decide +kernel
theorem dX6_twoAt_35 : decode cX6_twoAt 35 = .ok (.iconst (-1), 1) := by decide +kernel
theorem dX6_twoAt_36 : decode cX6_twoAt 36 = .ok (.ireturn, 1) := by decide +kernel
theorem dX6_fourLowFirst_0 : decode cX6_fourLowFirst 0 = .ok (.iload_n 1, 1) := by decide +kernel
theorem dX6_fourLowFirst_1 : decode cX6_fourLowFirst 1 = .ok (.ifCond .lt 13, 3) := by decide +kernel
theorem dX6_fourLowFirst_4 : decode cX6_fourLowFirst 4 = .ok (.iload_n 1, 1) := by decide +kernel
theorem dX6_fourLowFirst_5 : decode cX6_fourLowFirst 5 = .ok (.aload_n 0, 1) := by decide +kernel
theorem dX6_fourLowFirst_6 : decode cX6_fourLowFirst 6 = .ok (.getfield 21, 3) := by decide +kernel
theorem dX6_fourLowFirst_9 : decode cX6_fourLowFirst 9 = .ok (.iconst 3, 1) := by decide +kernel
theorem dX6_fourLowFirst_10 : decode cX6_fourLowFirst 10 = .ok (.isub, 1) := by decide +kernel
theorem dX6_fourLowFirst_11 : decode cX6_fourLowFirst 11 = .ok (.if_icmp .lt 5, 3) := by decide +kernel
theorem dX6_fourLowFirst_14 : decode cX6_fourLowFirst 14 = .ok (.iconst 0, 1) := by decide +kernel
theorem dX6_fourLowFirst_15 : decode cX6_fourLowFirst 15 = .ok (.ireturn, 1) := by decide +kernel
theorem dX6_fourLowFirst_16 : decode cX6_fourLowFirst 16 = .ok (.aload_n 0, 1) := by decide +kernel
theorem dX6_fourLowFirst_17 : decode cX6_fourLowFirst 17 = .ok (.getfield 15, 3) := by decide +kernel
theorem dX6_fourLowFirst_20 : decode cX6_fourLowFirst 20 = .ok (.iload_n 1, 1) := by decide +kernel
theorem dX6_fourLowFirst_21 : decode cX6_fourLowFirst 21 = .ok (.iaload, 1) := by decide +kernel
theorem dX6_fourLowFirst_22 : decode cX6_fourLowFirst 22 = .ok (.aload_n 0, 1) := by decide +kernel
theorem dX6_fourLowFirst_23 : decode cX6_fourLowFirst 23 = .ok (.getfield 15, 3) := by decide +kernel
theorem dX6_fourLowFirst_26 : decode cX6_fourLowFirst 26 = .ok (.iload_n 1, 1) := by decide +kernel
theorem dX6_fourLowFirst_27 : decode cX6_fourLowFirst 27 = .ok (.iconst 1, 1) := by decide +kernel
theorem dX6_fourLowFirst_28 : decode cX6_fourLowFirst 28 = .ok (.iadd, 1) := by decide +kernel
theorem dX6_fourLowFirst_29 : decode cX6_fourLowFirst 29 = .ok (.iaload, 1) := by decide +kernel
theorem dX6_fourLowFirst_30 : decode cX6_fourLowFirst 30 = .ok (.bipush 8, 2) := by decide +kernel
theorem dX6_fourLowFirst_32 : decode cX6_fourLowFirst 32 = .ok (.ishl, 1) := by decide +kernel
theorem dX6_fourLowFirst_33 : decode cX6_fourLowFirst 33 = .ok (.ior, 1) := by decide +kernel
theorem dX6_fourLowFirst_34 : decode cX6_fourLowFirst 34 = .ok (.aload_n 0, 1) := by decide +kernel
theorem dX6_fourLowFirst_35 : decode cX6_fourLowFirst 35 = .ok (.getfield 15, 3) := by decide +kernel
theorem dX6_fourLowFirst_38 : decode cX6_fourLowFirst 38 = .ok (.iload_n 1, 1) := by decide +kernel
theorem dX6_fourLowFirst_39 : decode cX6_fourLowFirst 39 = .ok (.iconst 2, 1) := by decide +kernel
theorem dX6_fourLowFirst_40 : decode cX6_fourLowFirst 40 = .ok (.iadd, 1) := by decide +kernel
theorem dX6_fourLowFirst_41 : decode cX6_fourLowFirst 41 = .ok (.iaload, 1) := by decide +kernel
theorem dX6_fourLowFirst_42 : decode cX6_fourLowFirst 42 = .ok (.bipush 16, 2) := by decide +kernel
theorem dX6_fourLowFirst_44 : decode cX6_fourLowFirst 44 = .ok (.ishl, 1) := by decide +kernel
theorem dX6_fourLowFirst_45 : decode cX6_fourLowFirst 45 = .ok (.ior, 1) := by decide +kernel
theorem dX6_fourLowFirst_46 : decode cX6_fourLowFirst 46 = .ok (.aload_n 0, 1) := by decide +kernel
theorem dX6_fourLowFirst_47 : decode cX6_fourLowFirst 47 = .ok (.getfield 15, 3) := by decide +kernel
theorem dX6_fourLowFirst_50 : decode cX6_fourLowFirst 50 = .ok (.iload_n 1, 1) := by decide +kernel
theorem dX6_fourLowFirst_51 : decode cX6_fourLowFirst 51 = .ok (.iconst 3, 1) := by decide +kernel
theorem dX6_fourLowFirst_52 : decode cX6_fourLowFirst 52 = .ok (.iadd, 1) := by decide +kernel
theorem dX6_fourLowFirst_53 : decode cX6_fourLowFirst 53 = .ok (.iaload, 1) := by decide +kernel
theorem dX6_fourLowFirst_54 : decode cX6_fourLowFirst 54 = .ok (.bipush 24, 2) := by decide +kernel
theorem dX6_fourLowFirst_56 : decode cX6_fourLowFirst 56 = .ok (.ishl, 1) := by decide +kernel
theorem dX6_fourLowFirst_57 : decode cX6_fourLowFirst 57 = .ok (.ior, 1) := by decide +kernel
theorem dX6_fourLowFirst_58 : decode cX6_fourLowFirst 58 = .ok (.ireturn, 1) := by decide +kernel
theorem dX6_flip_0 : decode cX6_flip 0 = .ok (.iload_n 1, 1) := by decide +kernel
theorem dX6_flip_1 : decode cX6_flip 1 = .ok (.ifCond .lt 11, 3) := by decide +kernel
theorem dX6_flip_4 : decode cX6_flip 4 = .ok (.iload_n 1, 1) := by decide +kernel
theorem dX6_flip_5 : decode cX6_flip 5 = .ok (.aload_n 0, 1) := by decide +kernel
theorem dX6_flip_6 : decode cX6_flip 6 = .ok (.getfield 21, 3) := by decide +kernel
theorem dX6_flip_9 : decode cX6_flip 9 = .ok (.if_icmp .lt 5, 3) := by decide +kernel
theorem dX6_flip_12 : decode cX6_flip 12 = .ok (.iconst 0, 1) := by decide +kernel
theorem dX6_flip_13 : decode cX6_flip 13 = .ok (.ireturn, 1) := by decide +kernel
theorem dX6_flip_14 : decode cX6_flip 14 = .ok (.aload_n 0, 1) := by decide +kernel
theorem dX6_flip_15 : decode cX6_flip 15 = .ok (.getfield 15, 3) := by decide +kernel
theorem dX6_flip_18 : decode cX6_flip 18 = .ok (.iload_n 1, 1) := by decide +kernel
theorem dX6_flip_19 : decode cX6_flip 19 = .ok (.dup2, 1) := by decide +kernel
theorem dX6_flip_20 : decode cX6_flip 20 = .ok (.iaload, 1) := by decide +kernel
theorem dX6_flip_21 : decode cX6_flip 21 = .ok (.iload_n 2, 1) := by decide +kernel
theorem dX6_flip_22 : decode cX6_flip 22 = .ok (.ixor, 1) := by decide +kernel
theorem dX6_flip_23 : decode cX6_flip 23 = .ok (.iastore, 1) := by decide +kernel
theorem dX6_flip_24 : decode cX6_flip 24 = .ok (.iconst 1, 1) := by decide +kernel
theorem dX6_flip_25 : decode cX6_flip 25 = .ok (.ireturn, 1) := by decide +kernel
theorem dX6_put_0 : decode cX6_put 0 = .ok (.aload_n 0, 1) := by decide +kernel
theorem dX6_put_1 : decode cX6_put 1 = .ok (.getfield 21, 3) := by decide +kernel
theorem dX6_put_4 : decode cX6_put 4 = .ok (.aload_n 0, 1) := by decide +kernel
theorem dX6_put_5 : decode cX6_put 5 = .ok (.getfield 15, 3) := by decide +kernel
theorem dX6_put_8 : decode cX6_put 8 = .ok (.arraylength, 1) := by decide +kernel
theorem dX6_put_9 : decode cX6_put 9 = .ok (.if_icmp .ge 27, 3) := by decide +kernel
theorem dX6_put_12 : decode cX6_put 12 = .ok (.aload_n 0, 1) := by decide +kernel
theorem dX6_put_13 : decode cX6_put 13 = .ok (.getfield 15, 3) := by decide +kernel
theorem dX6_put_16 : decode cX6_put 16 = .ok (.aload_n 0, 1) := by decide +kernel
theorem dX6_put_17 : decode cX6_put 17 = .ok (.getfield 21, 3) := by decide +kernel
theorem dX6_put_20 : decode cX6_put 20 = .ok (.iload_n 1, 1) := by decide +kernel
theorem dX6_put_21 : decode cX6_put 21 = .ok (.sipush 255, 3) := by decide +kernel
theorem dX6_put_24 : decode cX6_put 24 = .ok (.iand, 1) := by decide +kernel
theorem dX6_put_25 : decode cX6_put 25 = .ok (.iastore, 1) := by decide +kernel
theorem dX6_put_26 : decode cX6_put 26 = .ok (.aload_n 0, 1) := by decide +kernel
theorem dX6_put_27 : decode cX6_put 27 = .ok (.dup, 1) := by decide +kernel
theorem dX6_put_28 : decode cX6_put 28 = .ok (.getfield 21, 3) := by decide +kernel
theorem dX6_put_31 : decode cX6_put 31 = .ok (.iconst 1, 1) := by decide +kernel
theorem dX6_put_32 : decode cX6_put 32 = .ok (.iadd, 1) := by decide +kernel
theorem dX6_put_33 : decode cX6_put 33 = .ok (.putfield 21, 3) := by decide +kernel
theorem dX6_put_36 : decode cX6_put 36 = .ok (.return_, 1) := by decide +kernel
theorem dX6_putNumber_0 : decode cX6_putNumber 0 = .ok (.iload_n 2, 1) := by decide +kernel
theorem dX6_putNumber_1 : decode cX6_putNumber 1 = .ok (.iconst 1, 1) := by decide +kernel
theorem dX6_putNumber_2 : decode cX6_putNumber 2 = .ok (.isub, 1) := by decide +kernel
theorem dX6_putNumber_3 : decode cX6_putNumber 3 = .ok (.istore_n 3, 1) := by decide +kernel
theorem dX6_putNumber_4 : decode cX6_putNumber 4 = .ok (.iload_n 3, 1) := by decide +kernel
theorem dX6_putNumber_5 : decode cX6_putNumber 5 = .ok (.ifCond .lt 50, 3) := by decide +kernel
theorem dX6_putNumber_8 : decode cX6_putNumber 8 = .ok (.aload_n 0, 1) := by decide +kernel
theorem dX6_putNumber_9 : decode cX6_putNumber 9 = .ok (.getfield 21, 3) := by decide +kernel
theorem dX6_putNumber_12 : decode cX6_putNumber 12 = .ok (.aload_n 0, 1) := by decide +kernel
theorem dX6_putNumber_13 : decode cX6_putNumber 13 = .ok (.getfield 15, 3) := by decide +kernel
theorem dX6_putNumber_16 : decode cX6_putNumber 16 = .ok (.arraylength, 1) := by decide +kernel
theorem dX6_putNumber_17 : decode cX6_putNumber 17 = .ok (.if_icmp .ge 38, 3) := by decide +kernel
theorem dX6_putNumber_20 : decode cX6_putNumber 20 = .ok (.aload_n 0, 1) := by decide +kernel
theorem dX6_putNumber_21 : decode cX6_putNumber 21 = .ok (.getfield 15, 3) := by decide +kernel
theorem dX6_putNumber_24 : decode cX6_putNumber 24 = .ok (.aload_n 0, 1) := by decide +kernel
theorem dX6_putNumber_25 : decode cX6_putNumber 25 = .ok (.getfield 21, 3) := by decide +kernel
theorem dX6_putNumber_28 : decode cX6_putNumber 28 = .ok (.iload_n 1, 1) := by decide +kernel
theorem dX6_putNumber_29 : decode cX6_putNumber 29 = .ok (.bipush 8, 2) := by decide +kernel
theorem dX6_putNumber_31 : decode cX6_putNumber 31 = .ok (.iload_n 3, 1) := by decide +kernel
theorem dX6_putNumber_32 : decode cX6_putNumber 32 = .ok (.imul, 1) := by decide +kernel
theorem dX6_putNumber_33 : decode cX6_putNumber 33 = .ok (.iushr, 1) := by decide +kernel
theorem dX6_putNumber_34 : decode cX6_putNumber 34 = .ok (.sipush 255, 3) := by decide +kernel
theorem dX6_putNumber_37 : decode cX6_putNumber 37 = .ok (.iand, 1) := by decide +kernel
theorem dX6_putNumber_38 : decode cX6_putNumber 38 = .ok (.iastore, 1) := by decide +kernel
theorem dX6_putNumber_39 : decode cX6_putNumber 39 = .ok (.aload_n 0, 1) := by decide +kernel
theorem dX6_putNumber_40 : decode cX6_putNumber 40 = .ok (.dup, 1) := by decide +kernel
theorem dX6_putNumber_41 : decode cX6_putNumber 41 = .ok (.getfield 21, 3) := by decide +kernel
theorem dX6_putNumber_44 : decode cX6_putNumber 44 = .ok (.iconst 1, 1) := by decide +kernel
theorem dX6_putNumber_45 : decode cX6_putNumber 45 = .ok (.iadd, 1) := by decide +kernel
theorem dX6_putNumber_46 : decode cX6_putNumber 46 = .ok (.putfield 21, 3) := by decide +kernel
theorem dX6_putNumber_49 : decode cX6_putNumber 49 = .ok (.iinc 3 (-1), 3) := by decide +kernel
theorem dX6_putNumber_52 : decode cX6_putNumber 52 = .ok (.goto (-48), 3) := by decide +kernel
theorem dX6_putNumber_55 : decode cX6_putNumber 55 = .ok (.return_, 1) := by decide +kernel
theorem dX6_putLowFirst_0 : decode cX6_putLowFirst 0 = .ok (.iconst 0, 1) := by decide +kernel
theorem dX6_putLowFirst_1 : decode cX6_putLowFirst 1 = .ok (.istore_n 3, 1) := by decide +kernel
theorem dX6_putLowFirst_2 : decode cX6_putLowFirst 2 = .ok (.iload_n 3, 1) := by decide +kernel
theorem dX6_putLowFirst_3 : decode cX6_putLowFirst 3 = .ok (.iload_n 2, 1) := by decide +kernel
theorem dX6_putLowFirst_4 : decode cX6_putLowFirst 4 = .ok (.if_icmp .ge 59, 3) := by decide +kernel
theorem dX6_putLowFirst_7 : decode cX6_putLowFirst 7 = .ok (.aload_n 0, 1) := by decide +kernel
theorem dX6_putLowFirst_8 : decode cX6_putLowFirst 8 = .ok (.getfield 21, 3) := by decide +kernel
theorem dX6_putLowFirst_11 : decode cX6_putLowFirst 11 = .ok (.aload_n 0, 1) := by decide +kernel
theorem dX6_putLowFirst_12 : decode cX6_putLowFirst 12 = .ok (.getfield 15, 3) := by decide +kernel
theorem dX6_putLowFirst_15 : decode cX6_putLowFirst 15 = .ok (.arraylength, 1) := by decide +kernel
theorem dX6_putLowFirst_16 : decode cX6_putLowFirst 16 = .ok (.if_icmp .ge 47, 3) := by decide +kernel
theorem dX6_putLowFirst_19 : decode cX6_putLowFirst 19 = .ok (.aload_n 0, 1) := by decide +kernel
theorem dX6_putLowFirst_20 : decode cX6_putLowFirst 20 = .ok (.getfield 15, 3) := by decide +kernel
theorem dX6_putLowFirst_23 : decode cX6_putLowFirst 23 = .ok (.aload_n 0, 1) := by decide +kernel
theorem dX6_putLowFirst_24 : decode cX6_putLowFirst 24 = .ok (.getfield 21, 3) := by decide +kernel
theorem dX6_putLowFirst_27 : decode cX6_putLowFirst 27 = .ok (.iload_n 3, 1) := by decide +kernel
theorem dX6_putLowFirst_28 : decode cX6_putLowFirst 28 = .ok (.iconst 4, 1) := by decide +kernel
theorem dX6_putLowFirst_29 : decode cX6_putLowFirst 29 = .ok (.if_icmp .ge 16, 3) := by decide +kernel
theorem dX6_putLowFirst_32 : decode cX6_putLowFirst 32 = .ok (.iload_n 1, 1) := by decide +kernel
theorem dX6_putLowFirst_33 : decode cX6_putLowFirst 33 = .ok (.bipush 8, 2) := by decide +kernel
theorem dX6_putLowFirst_35 : decode cX6_putLowFirst 35 = .ok (.iload_n 3, 1) := by decide +kernel
theorem dX6_putLowFirst_36 : decode cX6_putLowFirst 36 = .ok (.imul, 1) := by decide +kernel
theorem dX6_putLowFirst_37 : decode cX6_putLowFirst 37 = .ok (.iushr, 1) := by decide +kernel
theorem dX6_putLowFirst_38 : decode cX6_putLowFirst 38 = .ok (.sipush 255, 3) := by decide +kernel
theorem dX6_putLowFirst_41 : decode cX6_putLowFirst 41 = .ok (.iand, 1) := by decide +kernel
theorem dX6_putLowFirst_42 : decode cX6_putLowFirst 42 = .ok (.goto 4, 3) := by decide +kernel
theorem dX6_putLowFirst_45 : decode cX6_putLowFirst 45 = .ok (.iconst 0, 1) := by decide +kernel
theorem dX6_putLowFirst_46 : decode cX6_putLowFirst 46 = .ok (.iastore, 1) := by decide +kernel
theorem dX6_putLowFirst_47 : decode cX6_putLowFirst 47 = .ok (.aload_n 0, 1) := by decide +kernel
theorem dX6_putLowFirst_48 : decode cX6_putLowFirst 48 = .ok (.dup, 1) := by decide +kernel
theorem dX6_putLowFirst_49 : decode cX6_putLowFirst 49 = .ok (.getfield 21, 3) := by decide +kernel
theorem dX6_putLowFirst_52 : decode cX6_putLowFirst 52 = .ok (.iconst 1, 1) := by decide +kernel
theorem dX6_putLowFirst_53 : decode cX6_putLowFirst 53 = .ok (.iadd, 1) := by decide +kernel
theorem dX6_putLowFirst_54 : decode cX6_putLowFirst 54 = .ok (.putfield 21, 3) := by decide +kernel
theorem dX6_putLowFirst_57 : decode cX6_putLowFirst 57 = .ok (.iinc 3 1, 3) := by decide +kernel
theorem dX6_putLowFirst_60 : decode cX6_putLowFirst 60 = .ok (.goto (-58), 3) := by decide +kernel
theorem dX6_putLowFirst_63 : decode cX6_putLowFirst 63 = .ok (.return_, 1) := by decide +kernel
theorem dX6_fillUp_0 : decode cX6_fillUp 0 = .ok (.iload_n 1, 1) := by decide +kernel
theorem dX6_fillUp_1 : decode cX6_fillUp 1 = .ok (.ifCond .le 47, 3) := by decide +kernel
theorem dX6_fillUp_4 : decode cX6_fillUp 4 = .ok (.aload_n 0, 1) := by decide +kernel
theorem dX6_fillUp_5 : decode cX6_fillUp 5 = .ok (.getfield 21, 3) := by decide +kernel
theorem dX6_fillUp_8 : decode cX6_fillUp 8 = .ok (.iload_n 1, 1) := by decide +kernel
theorem dX6_fillUp_9 : decode cX6_fillUp 9 = .ok (.irem, 1) := by decide +kernel
theorem dX6_fillUp_10 : decode cX6_fillUp 10 = .ok (.ifCond .eq 38, 3) := by decide +kernel
theorem dX6_fillUp_13 : decode cX6_fillUp 13 = .ok (.aload_n 0, 1) := by decide +kernel
theorem dX6_fillUp_14 : decode cX6_fillUp 14 = .ok (.getfield 21, 3) := by decide +kernel
theorem dX6_fillUp_17 : decode cX6_fillUp 17 = .ok (.aload_n 0, 1) := by decide +kernel
theorem dX6_fillUp_18 : decode cX6_fillUp 18 = .ok (.getfield 15, 3) := by decide +kernel
theorem dX6_fillUp_21 : decode cX6_fillUp 21 = .ok (.arraylength, 1) := by decide +kernel
theorem dX6_fillUp_22 : decode cX6_fillUp 22 = .ok (.if_icmp .ge 26, 3) := by decide +kernel
theorem dX6_fillUp_25 : decode cX6_fillUp 25 = .ok (.aload_n 0, 1) := by decide +kernel
theorem dX6_fillUp_26 : decode cX6_fillUp 26 = .ok (.getfield 15, 3) := by decide +kernel
theorem dX6_fillUp_29 : decode cX6_fillUp 29 = .ok (.aload_n 0, 1) := by decide +kernel
theorem dX6_fillUp_30 : decode cX6_fillUp 30 = .ok (.getfield 21, 3) := by decide +kernel
theorem dX6_fillUp_33 : decode cX6_fillUp 33 = .ok (.iconst 0, 1) := by decide +kernel
theorem dX6_fillUp_34 : decode cX6_fillUp 34 = .ok (.iastore, 1) := by decide +kernel
theorem dX6_fillUp_35 : decode cX6_fillUp 35 = .ok (.aload_n 0, 1) := by decide +kernel
theorem dX6_fillUp_36 : decode cX6_fillUp 36 = .ok (.dup, 1) := by decide +kernel
theorem dX6_fillUp_37 : decode cX6_fillUp 37 = .ok (.getfield 21, 3) := by decide +kernel
theorem dX6_fillUp_40 : decode cX6_fillUp 40 = .ok (.iconst 1, 1) := by decide +kernel
theorem dX6_fillUp_41 : decode cX6_fillUp 41 = .ok (.iadd, 1) := by decide +kernel
theorem dX6_fillUp_42 : decode cX6_fillUp 42 = .ok (.putfield 21, 3) := by decide +kernel
theorem dX6_fillUp_45 : decode cX6_fillUp 45 = .ok (.goto (-45), 3) := by decide +kernel
theorem dX6_fillUp_48 : decode cX6_fillUp 48 = .ok (.return_, 1) := by decide +kernel
theorem dX6_putAll_0 : decode cX6_putAll 0 = .ok (.iconst 0, 1) := by decide +kernel
theorem dX6_putAll_1 : decode cX6_putAll 1 = .ok (.istore_n 2, 1) := by decide +kernel
theorem dX6_putAll_2 : decode cX6_putAll 2 = .ok (.iload_n 2, 1) := by decide +kernel
theorem dX6_putAll_3 : decode cX6_putAll 3 = .ok (.aload_n 1, 1) := by decide +kernel
theorem dX6_putAll_4 : decode cX6_putAll 4 = .ok (.arraylength, 1) := by decide +kernel
theorem dX6_putAll_5 : decode cX6_putAll 5 = .ok (.if_icmp .ge 16, 3) := by decide +kernel
theorem dX6_putAll_8 : decode cX6_putAll 8 = .ok (.aload_n 0, 1) := by decide +kernel
theorem dX6_putAll_9 : decode cX6_putAll 9 = .ok (.aload_n 1, 1) := by decide +kernel
theorem dX6_putAll_10 : decode cX6_putAll 10 = .ok (.iload_n 2, 1) := by decide +kernel
theorem dX6_putAll_11 : decode cX6_putAll 11 = .ok (.iaload, 1) := by decide +kernel
theorem dX6_putAll_12 : decode cX6_putAll 12 = .ok (.invokevirtual 25, 3) := by decide +kernel
theorem dX6_putAll_15 : decode cX6_putAll 15 = .ok (.iinc 2 1, 3) := by decide +kernel
theorem dX6_putAll_18 : decode cX6_putAll 18 = .ok (.goto (-16), 3) := by decide +kernel
theorem dX6_putAll_21 : decode cX6_putAll 21 = .ok (.return_, 1) := by decide +kernel
theorem dX6_putText_0 : decode cX6_putText 0 = .ok (.iconst 0, 1) := by decide +kernel
theorem dX6_putText_1 : decode cX6_putText 1 = .ok (.istore_n 2, 1) := by decide +kernel
theorem dX6_putText_2 : decode cX6_putText 2 = .ok (.iload_n 2, 1) := by decide +kernel
theorem dX6_putText_3 : decode cX6_putText 3 = .ok (.aload_n 1, 1) := by decide +kernel
theorem dX6_putText_4 : decode cX6_putText 4 = .ok (.invokevirtual 29, 3) := by decide +kernel
theorem dX6_putText_7 : decode cX6_putText 7 = .ok (.if_icmp .ge 18, 3) := by decide +kernel
theorem dX6_putText_10 : decode cX6_putText 10 = .ok (.aload_n 0, 1) := by decide +kernel
theorem dX6_putText_11 : decode cX6_putText 11 = .ok (.aload_n 1, 1) := by decide +kernel
theorem dX6_putText_12 : decode cX6_putText 12 = .ok (.iload_n 2, 1) := by decide +kernel
theorem dX6_putText_13 : decode cX6_putText 13 = .ok (.invokevirtual 35, 3) := by decide +kernel
theorem dX6_putText_16 : decode cX6_putText 16 = .ok (.invokevirtual 25, 3) := by decide +kernel
theorem dX6_putText_19 : decode cX6_putText 19 = .ok (.iinc 2 1, 3) := by decide +kernel
theorem dX6_putText_22 : decode cX6_putText 22 = .ok (.goto (-20), 3) := by decide +kernel
theorem dX6_putText_25 : decode cX6_putText 25 = .ok (.return_, 1) := by decide +kernel
theorem dX6_append_0 : decode cX6_append 0 = .ok (.aload_n 0, 1) := by decide +kernel
theorem dX6_append_1 : decode cX6_append 1 = .ok (.aload_n 1, 1) := by decide +kernel
theorem dX6_append_2 : decode cX6_append 2 = .ok (.iconst 0, 1) := by decide +kernel
theorem dX6_append_3 : decode cX6_append 3 = .ok (.aload_n 1, 1) := by decide +kernel
theorem dX6_append_4 : decode cX6_append 4 = .ok (.getfield 21, 3) := by decide +kernel
theorem dX6_append_7 : decode cX6_append 7 = .ok (.invokevirtual 39, 3) := by decide +kernel
