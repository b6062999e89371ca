theorem dX6_append_10 : decode cX6_append 10 = .ok (.return_, 1) := by decide +kernel
theorem dX6_appendPart_0 : decode cX6_appendPart 0 = .ok (.iload_n 2, 1) := by decide +kernel
theorem dX6_appendPart_1 : decode cX6_appendPart 1 = .ok (.istore 4, 2) := by decide +kernel
theorem dX6_appendPart_3 : decode cX6_appendPart 3 = .ok (.iload 4, 2) := by decide +kernel
theorem dX6_appendPart_5 : decode cX6_appendPart 5 = .ok (.ifCond .lt 62, 3) := by decide +kernel
theorem dX6_appendPart_8 : decode cX6_appendPart 8 = .ok (.iload 4, 2) := by decide +kernel
theorem dX6_appendPart_10 : decode cX6_appendPart 10 = .ok (.iload_n 3, 1) := by decide +kernel
theorem dX6_appendPart_11 : decode cX6_appendPart 11 = .ok (.if_icmp .ge 56, 3) := by decide +kernel
theorem dX6_appendPart_14 : decode cX6_appendPart 14 = .ok (.iload 4, 2) := by decide +kernel
theorem dX6_appendPart_16 : decode cX6_appendPart 16 = .ok (.aload_n 1, 1) := by decide +kernel
theorem dX6_appendPart_17 : decode cX6_appendPart 17 = .ok (.getfield 21, 3) := by decide +kernel
theorem dX6_appendPart_20 : decode cX6_appendPart 20 = .ok (.if_icmp .ge 47, 3) := by decide +kernel
theorem dX6_appendPart_23 : decode cX6_appendPart 23 = .ok (.aload_n 0, 1) := by decide +kernel
theorem dX6_appendPart_24 : decode cX6_appendPart 24 = .ok (.getfield 21, 3) := by decide +kernel
theorem dX6_appendPart_27 : decode cX6_appendPart 27 = .ok (.aload_n 0, 1) := by decide +kernel
theorem dX6_appendPart_28 : decode cX6_appendPart 28 = .ok (.getfield 15, 3) := by decide +kernel
theorem dX6_appendPart_31 : decode cX6_appendPart 31 = .ok (.arraylength, 1) := by decide +kernel
theorem dX6_appendPart_32 : decode cX6_appendPart 32 = .ok (.if_icmp .ge 35, 3) := by decide +kernel
theorem dX6_appendPart_35 : decode cX6_appendPart 35 = .ok (.aload_n 0, 1) := by decide +kernel
theorem dX6_appendPart_36 : decode cX6_appendPart 36 = .ok (.getfield 15, 3) := by decide +kernel
theorem dX6_appendPart_39 : decode cX6_appendPart 39 = .ok (.aload_n 0, 1) := by decide +kernel
theorem dX6_appendPart_40 : decode cX6_appendPart 40 = .ok (.getfield 21, 3) := by decide +kernel
theorem dX6_appendPart_43 : decode cX6_appendPart 43 = .ok (.aload_n 1, 1) := by decide +kernel
theorem dX6_appendPart_44 : decode cX6_appendPart 44 = .ok (.getfield 15, 3) := by decide +kernel
theorem dX6_appendPart_47 : decode cX6_appendPart 47 = .ok (.iload 4, 2) := by decide +kernel
theorem dX6_appendPart_49 : decode cX6_appendPart 49 = .ok (.iaload, 1) := by decide +kernel
theorem dX6_appendPart_50 : decode cX6_appendPart 50 = .ok (.iastore, 1) := by decide +kernel
theorem dX6_appendPart_51 : decode cX6_appendPart 51 = .ok (.aload_n 0, 1) := by decide +kernel
theorem dX6_appendPart_52 : decode cX6_appendPart 52 = .ok (.dup, 1) := by decide +kernel
theorem dX6_appendPart_53 : decode cX6_appendPart 53 = .ok (.getfield 21, 3) := by decide +kernel
theorem dX6_appendPart_56 : decode cX6_appendPart 56 = .ok (.iconst 1, 1) := by decide +kernel
theorem dX6_appendPart_57 : decode cX6_appendPart 57 = .ok (.iadd, 1) := by decide +kernel
theorem dX6_appendPart_58 : decode cX6_appendPart 58 = .ok (.putfield 21, 3) := by decide +kernel
theorem dX6_appendPart_61 : decode cX6_appendPart 61 = .ok (.iinc 4 1, 3) := by decide +kernel
theorem dX6_appendPart_64 : decode cX6_appendPart 64 = .ok (.goto (-61), 3) := by decide +kernel
theorem dX6_appendPart_67 : decode cX6_appendPart 67 = .ok (.return_, 1) := by decide +kernel
theorem dX6_copy_0 : decode cX6_copy 0 = .ok (.aload_n 0, 1) := by decide +kernel
theorem dX6_copy_1 : decode cX6_copy 1 = .ok (.iconst 0, 1) := by decide +kernel
theorem dX6_copy_2 : decode cX6_copy 2 = .ok (.putfield 21, 3) := by decide +kernel
theorem dX6_copy_5 : decode cX6_copy 5 = .ok (.aload_n 0, 1) := by decide +kernel
theorem dX6_copy_6 : decode cX6_copy 6 = .ok (.aload_n 1, 1) := by decide +kernel
theorem dX6_copy_7 : decode cX6_copy 7 = .ok (.iconst 0, 1) := by decide +kernel
theorem dX6_copy_8 : decode cX6_copy 8 = .ok (.aload_n 1, 1) := by decide +kernel
theorem dX6_copy_9 : decode cX6_copy 9 = .ok (.getfield 21, 3) := by decide +kernel
theorem dX6_copy_12 : decode cX6_copy 12 = .ok (.invokevirtual 39, 3) := by decide +kernel
theorem dX6_copy_15 : decode cX6_copy 15 = .ok (.return_, 1) := by decide +kernel
theorem dX6_copyPart_0 : decode cX6_copyPart 0 = .ok (.aload_n 0, 1) := by decide +kernel
theorem dX6_copyPart_1 : decode cX6_copyPart 1 = .ok (.iconst 0, 1) := by decide +kernel
theorem dX6_copyPart_2 : decode cX6_copyPart 2 = .ok (.putfield 21, 3) := by decide +kernel
theorem dX6_copyPart_5 : decode cX6_copyPart 5 = .ok (.aload_n 0, 1) := by decide +kernel
theorem dX6_copyPart_6 : decode cX6_copyPart 6 = .ok (.aload_n 1, 1) := by decide +kernel
theorem dX6_copyPart_7 : decode cX6_copyPart 7 = .ok (.iload_n 2, 1) := by decide +kernel
theorem dX6_copyPart_8 : decode cX6_copyPart 8 = .ok (.iload_n 3, 1) := by decide +kernel
theorem dX6_copyPart_9 : decode cX6_copyPart 9 = .ok (.invokevirtual 39, 3) := by decide +kernel
theorem dX6_copyPart_12 : decode cX6_copyPart 12 = .ok (.return_, 1) := by decide +kernel
theorem dX6_same_0 : decode cX6_same 0 = .ok (.aload_n 0, 1) := by decide +kernel
theorem dX6_same_1 : decode cX6_same 1 = .ok (.getfield 21, 3) := by decide +kernel
theorem dX6_same_4 : decode cX6_same 4 = .ok (.aload_n 1, 1) := by decide +kernel
theorem dX6_same_5 : decode cX6_same 5 = .ok (.getfield 21, 3) := by decide +kernel
theorem dX6_same_8 : decode cX6_same 8 = .ok (.if_icmp .ne 16, 3) := by decide +kernel
theorem dX6_same_11 : decode cX6_same 11 = .ok (.aload_n 0, 1) := by decide +kernel
theorem dX6_same_12 : decode cX6_same 12 = .ok (.iconst 0, 1) := by decide +kernel
theorem dX6_same_13 : decode cX6_same 13 = .ok (.aload_n 1, 1) := by decide +kernel
theorem dX6_same_14 : decode cX6_same 14 = .ok (.invokevirtual 43, 3) := by decide +kernel
theorem dX6_same_17 : decode cX6_same 17 = .ok (.ifCond .eq 7, 3) := by decide +kernel
theorem dX6_same_20 : decode cX6_same 20 = .ok (.iconst 1, 1) := by decide +kernel
theorem dX6_same_21 : decode cX6_same 21 = .ok (.goto 4, 3) := by decide +kernel
theorem dX6_same_24 : decode cX6_same 24 = .ok (.iconst 0, 1) := by decide +kernel
theorem dX6_same_25 : decode cX6_same 25 = .ok (.ireturn, 1) := by decide +kernel
theorem dX6_hasAt_0 : decode cX6_hasAt 0 = .ok (.iload_n 1, 1) := by decide +kernel
theorem dX6_hasAt_1 : decode cX6_hasAt 1 = .ok (.ifCond .lt 16, 3) := by decide +kernel
theorem dX6_hasAt_4 : decode cX6_hasAt 4 = .ok (.iload_n 1, 1) := by decide +kernel
theorem dX6_hasAt_5 : decode cX6_hasAt 5 = .ok (.aload_n 0, 1) := by decide +kernel
theorem dX6_hasAt_6 : decode cX6_hasAt 6 = .ok (.getfield 21, 3) := by decide +kernel
theorem dX6_hasAt_9 : decode cX6_hasAt 9 = .ok (.aload_n 2, 1) := by decide +kernel
theorem dX6_hasAt_10 : decode cX6_hasAt 10 = .ok (.getfield 21, 3) := by decide +kernel
theorem dX6_hasAt_13 : decode cX6_hasAt 13 = .ok (.isub, 1) := by decide +kernel
theorem dX6_hasAt_14 : decode cX6_hasAt 14 = .ok (.if_icmp .le 5, 3) := by decide +kernel
theorem dX6_hasAt_17 : decode cX6_hasAt 17 = .ok (.iconst 0, 1) := by decide +kernel
theorem dX6_hasAt_18 : decode cX6_hasAt 18 = .ok (.ireturn, 1) := by decide +kernel
theorem dX6_hasAt_19 : decode cX6_hasAt 19 = .ok (.iconst 0, 1) := by decide +kernel
theorem dX6_hasAt_20 : decode cX6_hasAt 20 = .ok (.istore_n 3, 1) := by decide +kernel
theorem dX6_hasAt_21 : decode cX6_hasAt 21 = .ok (.iload_n 3, 1) := by decide +kernel
theorem dX6_hasAt_22 : decode cX6_hasAt 22 = .ok (.aload_n 2, 1) := by decide +kernel
theorem dX6_hasAt_23 : decode cX6_hasAt 23 = .ok (.getfield 21, 3) := by decide +kernel
theorem dX6_hasAt_26 : decode cX6_hasAt 26 = .ok (.if_icmp .ge 28, 3) := by decide +kernel
theorem dX6_hasAt_29 : decode cX6_hasAt 29 = .ok (.aload_n 0, 1) := by decide +kernel
theorem dX6_hasAt_30 : decode cX6_hasAt 30 = .ok (.getfield 15, 3) := by decide +kernel
theorem dX6_hasAt_33 : decode cX6_hasAt 33 = .ok (.iload_n 1, 1) := by decide +kernel
theorem dX6_hasAt_34 : decode cX6_hasAt 34 = .ok (.iload_n 3, 1) := by decide +kernel
theorem dX6_hasAt_35 : decode cX6_hasAt 35 = .ok (.iadd, 1) := by decide +kernel
theorem dX6_hasAt_36 : decode cX6_hasAt 36 = .ok (.iaload, 1) := by decide +kernel
theorem dX6_hasAt_37 : decode cX6_hasAt 37 = .ok (.aload_n 2, 1) := by decide +kernel
theorem dX6_hasAt_38 : decode cX6_hasAt 38 = .ok (.getfield 15, 3) := by decide +kernel
theorem dX6_hasAt_41 : decode cX6_hasAt 41 = .ok (.iload_n 3, 1) := by decide +kernel
theorem dX6_hasAt_42 : decode cX6_hasAt 42 = .ok (.iaload, 1) := by decide +kernel
theorem dX6_hasAt_43 : decode cX6_hasAt 43 = .ok (.if_icmp .eq 5, 3) := by decide +kernel
theorem dX6_hasAt_46 : decode cX6_hasAt 46 = .ok (.iconst 0, 1) := by decide +kernel
theorem dX6_hasAt_47 : decode cX6_hasAt 47 = .ok (.ireturn, 1) := by decide +kernel
theorem dX6_hasAt_48 : decode cX6_hasAt 48 = .ok (.iinc 3 1, 3) := by decide +kernel
theorem dX6_hasAt_51 : decode cX6_hasAt 51 = .ok (.goto (-30), 3) := by decide +kernel
theorem dX6_hasAt_54 : decode cX6_hasAt 54 = .ok (.iconst 1, 1) := by decide +kernel
theorem dX6_hasAt_55 : decode cX6_hasAt 55 = .ok (.ireturn, 1) := by decide +kernel
theorem dX7_init_0 : decode cX7_init 0 = .ok (.aload_n 0, 1) := by decide +kernel
theorem dX7_init_1 : decode cX7_init 1 = .ok (.invokespecial 3, 3) := by decide +kernel
theorem dX7_init_4 : decode cX7_init 4 = .ok (.aload_n 0, 1) := by decide +kernel
theorem dX7_init_5 : decode cX7_init 5 = .ok (.aload_n 1, 1) := by decide +kernel
theorem dX7_init_6 : decode cX7_init 6 = .ok (.putfield 9, 3) := by decide +kernel
theorem dX7_init_9 : decode cX7_init 9 = .ok (.aload_n 0, 1) := by decide +kernel
theorem dX7_init_10 : decode cX7_init 10 = .ok (.new 15, 3) := by decide +kernel
theorem dX7_init_13 : decode cX7_init 13 = .ok (.dup, 1) := by decide +kernel
theorem dX7_init_14 : decode cX7_init 14 = .ok (.bipush 32, 2) := by decide +kernel
theorem dX7_init_16 : decode cX7_init 16 = .ok (.invokespecial 17, 3) := by decide +kernel
theorem dX7_init_19 : decode cX7_init 19 = .ok (.putfield 20, 3) := by decide +kernel
theorem dX7_init_22 : decode cX7_init 22 = .ok (.aload_n 0, 1) := by decide +kernel
theorem dX7_init_23 : decode cX7_init 23 = .ok (.new 15, 3) := by decide +kernel
theorem dX7_init_26 : decode cX7_init 26 = .ok (.dup, 1) := by decide +kernel
theorem dX7_init_27 : decode cX7_init 27 = .ok (.bipush 32, 2) := by decide +kernel
theorem dX7_init_29 : decode cX7_init 29 = .ok (.invokespecial 17, 3) := by decide +kernel
theorem dX7_init_32 : decode cX7_init 32 = .ok (.putfield 24, 3) := by decide +kernel
theorem dX7_init_35 : decode cX7_init 35 = .ok (.aload_n 0, 1) := by decide +kernel
theorem dX7_init_36 : decode cX7_init 36 = .ok (.new 15, 3) := by decide +kernel
theorem dX7_init_39 : decode cX7_init 39 = .ok (.dup, 1) := by decide +kernel
theorem dX7_init_40 : decode cX7_init 40 = .ok (.bipush 32, 2) := by decide +kernel
theorem dX7_init_42 : decode cX7_init 42 = .ok (.invokespecial 17, 3) := by decide +kernel
theorem dX7_init_45 : decode cX7_init 45 = .ok (.putfield 27, 3) := by decide +kernel
theorem dX7_init_48 : decode cX7_init 48 = .ok (.aload_n 0, 1) := by decide +kernel
theorem dX7_init_49 : decode cX7_init 49 = .ok (.new 15, 3) := by decide +kernel
theorem dX7_init_52 : decode cX7_init 52 = .ok (.dup, 1) := by decide +kernel
theorem dX7_init_53 : decode cX7_init 53 = .ok (.bipush 32, 2) := by decide +kernel
theorem dX7_init_55 : decode cX7_init 55 = .ok (.invokespecial 17, 3) := by decide +kernel
theorem dX7_init_58 : decode cX7_init 58 = .ok (.putfield 30, 3) := by decide +kernel
theorem dX7_init_61 : decode cX7_init 61 = .ok (.aload_n 0, 1) := by decide +kernel
theorem dX7_init_62 : decode cX7_init 62 = .ok (.new 15, 3) := by decide +kernel
theorem dX7_init_65 : decode cX7_init 65 = .ok (.dup, 1) := by decide +kernel
theorem dX7_init_66 : decode cX7_init 66 = .ok (.bipush 32, 2) := by decide +kernel
theorem dX7_init_68 : decode cX7_init 68 = .ok (.invokespecial 17, 3) := by decide +kernel
theorem dX7_init_71 : decode cX7_init 71 = .ok (.putfield 33, 3) := by decide +kernel
theorem dX7_init_74 : decode cX7_init 74 = .ok (.return_, 1) := by decide +kernel
theorem dX7_prepare_0 : decode cX7_prepare 0 = .ok (.aload_n 0, 1) := by decide +kernel
theorem dX7_prepare_1 : decode cX7_prepare 1 = .ok (.getfield 30, 3) := by decide +kernel
theorem dX7_prepare_4 : decode cX7_prepare 4 = .ok (.astore_n 2, 1) := by decide +kernel
theorem dX7_prepare_5 : decode cX7_prepare 5 = .ok (.aload_n 0, 1) := by decide +kernel
theorem dX7_prepare_6 : decode cX7_prepare 6 = .ok (.getfield 9, 3) := by decide +kernel
theorem dX7_prepare_9 : decode cX7_prepare 9 = .ok (.getfield 36, 3) := by decide +kernel
theorem dX7_prepare_12 : decode cX7_prepare 12 = .ok (.aload_n 0, 1) := by decide +kernel
theorem dX7_prepare_13 : decode cX7_prepare 13 = .ok (.getfield 9, 3) := by decide +kernel
theorem dX7_prepare_16 : decode cX7_prepare 16 = .ok (.getfield 42, 3) := by decide +kernel
theorem dX7_prepare_19 : decode cX7_prepare 19 = .ok (.aload_n 0, 1) := by decide +kernel
theorem dX7_prepare_20 : decode cX7_prepare 20 = .ok (.getfield 33, 3) := by decide +kernel
theorem dX7_prepare_23 : decode cX7_prepare 23 = .ok (.invokevirtual 45, 3) := by decide +kernel
theorem dX7_prepare_26 : decode cX7_prepare 26 = .ok (.aload_n 0, 1) := by decide +kernel
theorem dX7_prepare_27 : decode cX7_prepare 27 = .ok (.getfield 9, 3) := by decide +kernel
theorem dX7_prepare_30 : decode cX7_prepare 30 = .ok (.aload_n 0, 1) := by decide +kernel
theorem dX7_prepare_31 : decode cX7_prepare 31 = .ok (.getfield 9, 3) := by decide +kernel
theorem dX7_prepare_34 : decode cX7_prepare 34 = .ok (.getfield 51, 3) := by decide +kernel
theorem dX7_prepare_37 : decode cX7_prepare 37 = .ok (.aload_n 1, 1) := by decide +kernel
theorem dX7_prepare_38 : decode cX7_prepare 38 = .ok (.aload_n 2, 1) := by decide +kernel
theorem dX7_prepare_39 : decode cX7_prepare 39 = .ok (.invokevirtual 54, 3) := by decide +kernel
theorem dX7_prepare_42 : decode cX7_prepare 42 = .ok (.aload_n 0, 1) := by decide +kernel
theorem dX7_prepare_43 : decode cX7_prepare 43 = .ok (.getfield 9, 3) := by decide +kernel
theorem dX7_prepare_46 : decode cX7_prepare 46 = .ok (.aload_n 2, 1) := by decide +kernel
theorem dX7_prepare_47 : decode cX7_prepare 47 = .ok (.ldc 58, 2) := by decide +kernel
theorem dX7_prepare_49 : decode cX7_prepare 49 = .ok (.aload_n 0, 1) := by decide +kernel
theorem dX7_prepare_50 : decode cX7_prepare 50 = .ok (.getfield 33, 3) := by decide +kernel
theorem dX7_prepare_53 : decode cX7_prepare 53 = .ok (.bipush 32, 2) := by decide +kernel
theorem dX7_prepare_55 : decode cX7_prepare 55 = .ok (.aload_n 0, 1) := by decide +kernel
theorem dX7_prepare_56 : decode cX7_prepare 56 = .ok (.getfield 20, 3) := by decide +kernel
theorem dX7_prepare_59 : decode cX7_prepare 59 = .ok (.invokevirtual 60, 3) := by decide +kernel
theorem dX7_prepare_62 : decode cX7_prepare 62 = .ok (.aload_n 0, 1) := by decide +kernel
theorem dX7_prepare_63 : decode cX7_prepare 63 = .ok (.getfield 9, 3) := by decide +kernel
theorem dX7_prepare_66 : decode cX7_prepare 66 = .ok (.aload_n 2, 1) := by decide +kernel
theorem dX7_prepare_67 : decode cX7_prepare 67 = .ok (.ldc 64, 2) := by decide +kernel
theorem dX7_prepare_69 : decode cX7_prepare 69 = .ok (.aload_n 0, 1) := by decide +kernel
theorem dX7_prepare_70 : decode cX7_prepare 70 = .ok (.getfield 33, 3) := by decide +kernel
theorem dX7_prepare_73 : decode cX7_prepare 73 = .ok (.bipush 32, 2) := by decide +kernel
theorem dX7_prepare_75 : decode cX7_prepare 75 = .ok (.aload_n 0, 1) := by decide +kernel
theorem dX7_prepare_76 : decode cX7_prepare 76 = .ok (.getfield 24, 3) := by decide +kernel
theorem dX7_prepare_79 : decode cX7_prepare 79 = .ok (.invokevirtual 60, 3) := by decide +kernel
theorem dX7_prepare_82 : decode cX7_prepare 82 = .ok (.aload_n 0, 1) := by decide +kernel
theorem dX7_prepare_83 : decode cX7_prepare 83 = .ok (.getfield 9, 3) := by decide +kernel
theorem dX7_prepare_86 : decode cX7_prepare 86 = .ok (.aload_n 0, 1) := by decide +kernel
theorem dX7_prepare_87 : decode cX7_prepare 87 = .ok (.getfield 24, 3) := by decide +kernel
theorem dX7_prepare_90 : decode cX7_prepare 90 = .ok (.aload_n 0, 1) := by decide +kernel
theorem dX7_prepare_91 : decode cX7_prepare 91 = .ok (.getfield 9, 3) := by decide +kernel
theorem dX7_prepare_94 : decode cX7_prepare 94 = .ok (.getfield 51, 3) := by decide +kernel
theorem dX7_prepare_97 : decode cX7_prepare 97 = .ok (.aload_n 0, 1) := by decide +kernel
theorem dX7_prepare_98 : decode cX7_prepare 98 = .ok (.getfield 24, 3) := by decide +kernel
theorem dX7_prepare_101 : decode cX7_prepare 101 = .ok (.invokevirtual 54, 3) := by decide +kernel
theorem dX7_prepare_104 : decode cX7_prepare 104 = .ok (.aload_n 0, 1) := by decide +kernel
theorem dX7_prepare_105 : decode cX7_prepare 105 = .ok (.getfield 9, 3) := by decide +kernel
theorem dX7_prepare_108 : decode cX7_prepare 108 = .ok (.aload_n 0, 1) := by decide +kernel
theorem dX7_prepare_109 : decode cX7_prepare 109 = .ok (.getfield 24, 3) := by decide +kernel
theorem dX7_prepare_112 : decode cX7_prepare 112 = .ok (.ldc 64, 2) := by decide +kernel
theorem dX7_prepare_114 : decode cX7_prepare 114 = .ok (.aload_n 0, 1) := by decide +kernel
theorem dX7_prepare_115 : decode cX7_prepare 115 = .ok (.getfield 33, 3) := by decide +kernel
theorem dX7_prepare_118 : decode cX7_prepare 118 = .ok (.bipush 32, 2) := by decide +kernel
theorem dX7_prepare_120 : decode cX7_prepare 120 = .ok (.aload_n 0, 1) := by decide +kernel
theorem dX7_prepare_121 : decode cX7_prepare 121 = .ok (.getfield 27, 3) := by decide +kernel
theorem dX7_prepare_124 : decode cX7_prepare 124 = .ok (.invokevirtual 60, 3) := by decide +kernel
theorem dX7_prepare_127 : decode cX7_prepare 127 = .ok (.aload_n 0, 1) := by decide +kernel
theorem dX7_prepare_128 : decode cX7_prepare 128 = .ok (.getfield 9, 3) := by decide +kernel
theorem dX7_prepare_131 : decode cX7_prepare 131 = .ok (.aload_n 0, 1) := by decide +kernel
theorem dX7_prepare_132 : decode cX7_prepare 132 = .ok (.getfield 27, 3) := by decide +kernel
theorem dX7_prepare_135 : decode cX7_prepare 135 = .ok (.aload_n 0, 1) := by decide +kernel
theorem dX7_prepare_136 : decode cX7_prepare 136 = .ok (.getfield 9, 3) := by decide +kernel
theorem dX7_prepare_139 : decode cX7_prepare 139 = .ok (.getfield 51, 3) := by decide +kernel
theorem dX7_prepare_142 : decode cX7_prepare 142 = .ok (.aload_n 0, 1) := by decide +kernel
theorem dX7_prepare_143 : decode cX7_prepare 143 = .ok (.getfield 27, 3) := by decide +kernel
theorem dX7_prepare_146 : decode cX7_prepare 146 = .ok (.invokevirtual 54, 3) := by decide +kernel
theorem dX7_prepare_149 : decode cX7_prepare 149 = .ok (.return_, 1) := by decide +kernel
theorem dX7_prove_0 : decode cX7_prove 0 = .ok (.aload_n 0, 1) := by decide +kernel
theorem dX7_prove_1 : decode cX7_prove 1 = .ok (.getfield 9, 3) := by decide +kernel
theorem dX7_prove_4 : decode cX7_prove 4 = .ok (.aload_n 1, 1) := by decide +kernel
theorem dX7_prove_5 : decode cX7_prove 5 = .ok (.ldc 66, 2) := by decide +kernel
theorem dX7_prove_7 : decode cX7_prove 7 = .ok (.aload_n 0, 1) := by decide +kernel
theorem dX7_prove_8 : decode cX7_prove 8 = .ok (.getfield 9, 3) := by decide +kernel
theorem dX7_prove_11 : decode cX7_prove 11 = .ok (.getfield 42, 3) := by decide +kernel
theorem dX7_prove_14 : decode cX7_prove 14 = .ok (.bipush 32, 2) := by decide +kernel
theorem dX7_prove_16 : decode cX7_prove 16 = .ok (.aload_n 0, 1) := by decide +kernel
theorem dX7_prove_17 : decode cX7_prove 17 = .ok (.getfield 30, 3) := by decide +kernel
theorem dX7_prove_20 : decode cX7_prove 20 = .ok (.invokevirtual 60, 3) := by decide +kernel
theorem dX7_prove_23 : decode cX7_prove 23 = .ok (.aload_n 0, 1) := by decide +kernel
theorem dX7_prove_24 : decode cX7_prove 24 = .ok (.getfield 9, 3) := by decide +kernel
theorem dX7_prove_27 : decode cX7_prove 27 = .ok (.getfield 36, 3) := by decide +kernel
theorem dX7_prove_30 : decode cX7_prove 30 = .ok (.aload_n 2, 1) := by decide +kernel
theorem dX7_prove_31 : decode cX7_prove 31 = .ok (.aload_n 0, 1) := by decide +kernel
theorem dX7_prove_32 : decode cX7_prove 32 = .ok (.getfield 33, 3) := by decide +kernel
theorem dX7_prove_35 : decode cX7_prove 35 = .ok (.invokevirtual 45, 3) := by decide +kernel
theorem dX7_prove_38 : decode cX7_prove 38 = .ok (.aload_n 0, 1) := by decide +kernel
theorem dX7_prove_39 : decode cX7_prove 39 = .ok (.getfield 9, 3) := by decide +kernel
theorem dX7_prove_42 : decode cX7_prove 42 = .ok (.aload_n 0, 1) := by decide +kernel
theorem dX7_prove_43 : decode cX7_prove 43 = .ok (.getfield 30, 3) := by decide +kernel
theorem dX7_prove_46 : decode cX7_prove 46 = .ok (.aload_n 0, 1) := by decide +kernel
theorem dX7_prove_47 : decode cX7_prove 47 = .ok (.getfield 33, 3) := by decide +kernel
theorem dX7_prove_50 : decode cX7_prove 50 = .ok (.aload_n 3, 1) := by decide +kernel
theorem dX7_prove_51 : decode cX7_prove 51 = .ok (.invokevirtual 54, 3) := by decide +kernel
theorem dX7_prove_54 : decode cX7_prove 54 = .ok (.return_, 1) := by decide +kernel
theorem dX8_init_0 : decode cX8_init 0 = .ok (.aload_n 0, 1) := by decide +kernel
theorem dX8_init_1 : decode cX8_init 1 = .ok (.invokespecial 5, 3) := by decide +kernel
theorem dX8_init_4 : decode cX8_init 4 = .ok (.aload_n 0, 1) := by decide +kernel
theorem dX8_init_5 : decode cX8_init 5 = .ok (.new 11, 3) := by decide +kernel
theorem dX8_init_8 : decode cX8_init 8 = .ok (.dup, 1) := by decide +kernel
theorem dX8_init_9 : decode cX8_init 9 = .ok (.invokespecial 13, 3) := by decide +kernel
theorem dX8_init_12 : decode cX8_init 12 = .ok (.putfield 14, 3) := by decide +kernel
theorem dX8_init_15 : decode cX8_init 15 = .ok (.aload_n 0, 1) := by decide +kernel
theorem dX8_init_16 : decode cX8_init 16 = .ok (.bipush 16, 2) := by decide +kernel
theorem dX8_init_18 : decode cX8_init 18 = .ok (.newarray .int, 2) := by decide +kernel
theorem dX8_init_20 : decode cX8_init 20 = .ok (.putfield 18, 3) := by decide +kernel
theorem dX8_init_23 : decode cX8_init 23 = .ok (.aload_n 0, 1) := by decide +kernel
theorem dX8_init_24 : decode cX8_init 24 = .ok (.bipush 16, 2) := by decide +kernel
theorem dX8_init_26 : decode cX8_init 26 = .ok (.newarray .int, 2) := by decide +kernel
theorem dX8_init_28 : decode cX8_init 28 = .ok (.putfield 22, 3) := by decide +kernel
theorem dX8_init_31 : decode cX8_init 31 = .ok (.aload_n 0, 1) := by decide +kernel
theorem dX8_init_32 : decode cX8_init 32 = .ok (.new 25, 3) := by decide +kernel
theorem dX8_init_35 : decode cX8_init 35 = .ok (.dup, 1) := by decide +kernel
theorem dX8_init_36 : decode cX8_init 36 = .ok (.bipush 32, 2) := by decide +kernel
theorem dX8_init_38 : decode cX8_init 38 = .ok (.invokespecial 27, 3) := by decide +kernel
theorem dX8_init_41 : decode cX8_init 41 = .ok (.putfield 30, 3) := by decide +kernel
theorem dX8_init_44 : decode cX8_init 44 = .ok (.aload_n 0, 1) := by decide +kernel
theorem dX8_init_45 : decode cX8_init 45 = .ok (.new 25, 3) := by decide +kernel
theorem dX8_init_48 : decode cX8_init 48 = .ok (.dup, 1) := by decide +kernel
theorem dX8_init_49 : decode cX8_init 49 = .ok (.sipush 664, 3) := by decide +kernel
theorem dX8_init_52 : decode cX8_init 52 = .ok (.invokespecial 27, 3) := by decide +kernel
theorem dX8_init_55 : decode cX8_init 55 = .ok (.putfield 34, 3) := by decide +kernel
theorem dX8_init_58 : decode cX8_init 58 = .ok (.aload_n 0, 1) := by decide +kernel
theorem dX8_init_59 : decode cX8_init 59 = .ok (.new 25, 3) := by decide +kernel
theorem dX8_init_62 : decode cX8_init 62 = .ok (.dup, 1) := by decide +kernel
theorem dX8_init_63 : decode cX8_init 63 = .ok (.bipush 16, 2) := by decide +kernel
theorem dX8_init_65 : decode cX8_init 65 = .ok (.invokespecial 27, 3) := by decide +kernel
theorem dX8_init_68 : decode cX8_init 68 = .ok (.putfield 37, 3) := by decide +kernel
theorem dX8_init_71 : decode cX8_init 71 = .ok (.return_, 1) := by decide +kernel
theorem dX8_seal_0 : decode cX8_seal 0 = .ok (.aload_n 0, 1) := by decide +kernel
theorem dX8_seal_1 : decode cX8_seal 1 = .ok (.aload_n 1, 1) := by decide +kernel
theorem dX8_seal_2 : decode cX8_seal 2 = .ok (.invokevirtual 40, 3) := by decide +kernel
theorem dX8_seal_5 : decode cX8_seal 5 = .ok (.aload_n 0, 1) := by decide +kernel
theorem dX8_seal_6 : decode cX8_seal 6 = .ok (.aload_n 2, 1) := by decide +kernel
theorem dX8_seal_7 : decode cX8_seal 7 = .ok (.iconst 5, 1) := by decide +kernel
theorem dX8_seal_8 : decode cX8_seal 8 = .ok (.invokevirtual 46, 3) := by decide +kernel
theorem dX8_seal_11 : decode cX8_seal 11 = .ok (.aload_n 0, 1) := by decide +kernel
theorem dX8_seal_12 : decode cX8_seal 12 = .ok (.aload_n 2, 1) := by decide +kernel
theorem dX8_seal_13 : decode cX8_seal 13 = .ok (.aload_n 2, 1) := by decide +kernel
theorem dX8_seal_14 : decode cX8_seal 14 = .ok (.getfield 50, 3) := by decide +kernel
theorem dX8_seal_17 : decode cX8_seal 17 = .ok (.invokevirtual 54, 3) := by decide +kernel
theorem dX8_seal_20 : decode cX8_seal 20 = .ok (.aload_n 0, 1) := by decide +kernel
theorem dX8_seal_21 : decode cX8_seal 21 = .ok (.getfield 14, 3) := by decide +kernel
theorem dX8_seal_24 : decode cX8_seal 24 = .ok (.aload_n 0, 1) := by decide +kernel
theorem dX8_seal_25 : decode cX8_seal 25 = .ok (.getfield 30, 3) := by decide +kernel
theorem dX8_seal_28 : decode cX8_seal 28 = .ok (.aload_n 0, 1) := by decide +kernel
theorem dX8_seal_29 : decode cX8_seal 29 = .ok (.getfield 34, 3) := by decide +kernel
theorem dX8_seal_32 : decode cX8_seal 32 = .ok (.aload_n 0, 1) := by decide +kernel
theorem dX8_seal_33 : decode cX8_seal 33 = .ok (.getfield 37, 3) := by decide +kernel
theorem dX8_seal_36 : decode cX8_seal 36 = .ok (.invokevirtual 57, 3) := by decide +kernel
theorem dX8_seal_39 : decode cX8_seal 39 = .ok (.aload_n 2, 1) := by decide +kernel
theorem dX8_seal_40 : decode cX8_seal 40 = .ok (.aload_n 0, 1) := by decide +kernel
theorem dX8_seal_41 : decode cX8_seal 41 = .ok (.getfield 37, 3) := by decide +kernel
theorem dX8_seal_44 : decode cX8_seal 44 = .ok (.invokevirtual 60, 3) := by decide +kernel
theorem dX8_seal_47 : decode cX8_seal 47 = .ok (.aload_n 1, 1) := by decide +kernel
theorem dX8_seal_48 : decode cX8_seal 48 = .ok (.dup, 1) := by decide +kernel
theorem dX8_seal_49 : decode cX8_seal 49 = .ok (.getfield 64, 3) := by decide +kernel
theorem dX8_seal_52 : decode cX8_seal 52 = .ok (.iconst 1, 1) := by decide +kernel
theorem dX8_seal_53 : decode cX8_seal 53 = .ok (.iadd, 1) := by decide +kernel
theorem dX8_seal_54 : decode cX8_seal 54 = .ok (.putfield 64, 3) := by decide +kernel
theorem dX8_seal_57 : decode cX8_seal 57 = .ok (.return_, 1) := by decide +kernel
theorem dX8_open_0 : decode cX8_open 0 = .ok (.aload_n 2, 1) := by decide +kernel
theorem dX8_open_1 : decode cX8_open 1 = .ok (.getfield 50, 3) := by decide +kernel
theorem dX8_open_4 : decode cX8_open 4 = .ok (.bipush 16, 2) := by decide +kernel
theorem dX8_open_6 : decode cX8_open 6 = .ok (.isub, 1) := by decide +kernel
theorem dX8_open_7 : decode cX8_open 7 = .ok (.istore 4, 2) := by decide +kernel
theorem dX8_open_9 : decode cX8_open 9 = .ok (.iload 4, 2) := by decide +kernel
theorem dX8_open_11 : decode cX8_open 11 = .ok (.iconst 5, 1) := by decide +kernel
theorem dX8_open_12 : decode cX8_open 12 = .ok (.if_icmp .gt 5, 3) := by decide +kernel
theorem dX8_open_15 : decode cX8_open 15 = .ok (.iconst 0, 1) := by decide +kernel
theorem dX8_open_16 : decode cX8_open 16 = .ok (.ireturn, 1) := by decide +kernel
theorem dX8_open_17 : decode cX8_open 17 = .ok (.aload_n 0, 1) := by decide +kernel
theorem dX8_open_18 : decode cX8_open 18 = .ok (.aload_n 1, 1) := by decide +kernel
theorem dX8_open_19 : decode cX8_open 19 = .ok (.invokevirtual 40, 3) := by decide +kernel
theorem dX8_open_22 : decode cX8_open 22 = .ok (.aload_n 0, 1) := by decide +kernel
theorem dX8_open_23 : decode cX8_open 23 = .ok (.aload_n 2, 1) := by decide +kernel
theorem dX8_open_24 : decode cX8_open 24 = .ok (.iload 4, 2) := by decide +kernel
theorem dX8_open_26 : decode cX8_open 26 = .ok (.invokevirtual 54, 3) := by decide +kernel
theorem dX8_open_29 : decode cX8_open 29 = .ok (.aload_n 0, 1) := by decide +kernel
theorem dX8_open_30 : decode cX8_open 30 = .ok (.getfield 14, 3) := by decide +kernel
theorem dX8_open_33 : decode cX8_open 33 = .ok (.aload_n 0, 1) := by decide +kernel
theorem dX8_open_34 : decode cX8_open 34 = .ok (.getfield 30, 3) := by decide +kernel
theorem dX8_open_37 : decode cX8_open 37 = .ok (.aload_n 0, 1) := by decide +kernel
theorem dX8_open_38 : decode cX8_open 38 = .ok (.getfield 34, 3) := by decide +kernel
theorem dX8_open_41 : decode cX8_open 41 = .ok (.aload_n 0, 1) := by decide +kernel
theorem dX8_open_42 : decode cX8_open 42 = .ok (.getfield 37, 3) := by decide +kernel
theorem dX8_open_45 : decode cX8_open 45 = .ok (.invokevirtual 57, 3) := by decide +kernel
theorem dX8_open_48 : decode cX8_open 48 = .ok (.aload_n 2, 1) := by decide +kernel
theorem dX8_open_49 : decode cX8_open 49 = .ok (.iload 4, 2) := by decide +kernel
theorem dX8_open_51 : decode cX8_open 51 = .ok (.aload_n 0, 1) := by decide +kernel
theorem dX8_open_52 : decode cX8_open 52 = .ok (.getfield 37, 3) := by decide +kernel
theorem dX8_open_55 : decode cX8_open 55 = .ok (.invokevirtual 69, 3) := by decide +kernel
theorem dX8_open_58 : decode cX8_open 58 = .ok (.ifCond .ne 5, 3) := by decide +kernel
theorem dX8_open_61 : decode cX8_open 61 = .ok (.iconst 0, 1) := by decide +kernel
theorem dX8_open_62 : decode cX8_open 62 = .ok (.ireturn, 1) := by decide +kernel
theorem dX8_open_63 : decode cX8_open 63 = .ok (.aload_n 3, 1) := by decide +kernel
theorem dX8_open_64 : decode cX8_open 64 = .ok (.aload_n 2, 1) := by decide +kernel
theorem dX8_open_65 : decode cX8_open 65 = .ok (.iconst 5, 1) := by decide +kernel
theorem dX8_open_66 : decode cX8_open 66 = .ok (.iload 4, 2) := by decide +kernel
theorem dX8_open_68 : decode cX8_open 68 = .ok (.invokevirtual 73, 3) := by decide +kernel
theorem dX8_open_71 : decode cX8_open 71 = .ok (.aload_n 0, 1) := by decide +kernel
theorem dX8_open_72 : decode cX8_open 72 = .ok (.aload_n 3, 1) := by decide +kernel
theorem dX8_open_73 : decode cX8_open 73 = .ok (.iconst 0, 1) := by decide +kernel
theorem dX8_open_74 : decode cX8_open 74 = .ok (.invokevirtual 46, 3) := by decide +kernel
theorem dX8_open_77 : decode cX8_open 77 = .ok (.aload_n 1, 1) := by decide +kernel
theorem dX8_open_78 : decode cX8_open 78 = .ok (.dup, 1) := by decide +kernel
theorem dX8_open_79 : decode cX8_open 79 = .ok (.getfield 64, 3) := by decide +kernel
theorem dX8_open_82 : decode cX8_open 82 = .ok (.iconst 1, 1) := by decide +kernel
theorem dX8_open_83 : decode cX8_open 83 = .ok (.iadd, 1) := by decide +kernel
theorem dX8_open_84 : decode cX8_open 84 = .ok (.putfield 64, 3) := by decide +kernel
theorem dX8_open_87 : decode cX8_open 87 = .ok (.iconst 1, 1) := by decide +kernel
theorem dX8_open_88 : decode cX8_open 88 = .ok (.ireturn, 1) := by decide +kernel
theorem dX8_aim_0 : decode cX8_aim 0 = .ok (.iconst 0, 1) := by decide +kernel
theorem dX8_aim_1 : decode cX8_aim 1 = .ok (.istore_n 2, 1) := by decide +kernel
theorem dX8_aim_2 : decode cX8_aim 2 = .ok (.iload_n 2, 1) := by decide +kernel
theorem dX8_aim_3 : decode cX8_aim 3 = .ok (.getstatic 77, 3) := by decide +kernel
theorem dX8_aim_6 : decode cX8_aim 6 = .ok (.arraylength, 1) := by decide +kernel
theorem dX8_aim_7 : decode cX8_aim 7 = .ok (.if_icmp .ge 20, 3) := by decide +kernel
theorem dX8_aim_10 : decode cX8_aim 10 = .ok (.aload_n 0, 1) := by decide +kernel
theorem dX8_aim_11 : decode cX8_aim 11 = .ok (.getfield 18, 3) := by decide +kernel
theorem dX8_aim_14 : decode cX8_aim 14 = .ok (.iload_n 2, 1) := by decide +kernel
theorem dX8_aim_15 : decode cX8_aim 15 = .ok (.getstatic 77, 3) := by decide +kernel
theorem dX8_aim_18 : decode cX8_aim 18 = .ok (.iload_n 2, 1) := by decide +kernel
theorem dX8_aim_19 : decode cX8_aim 19 = .ok (.iaload, 1) := by decide +kernel
theorem dX8_aim_20 : decode cX8_aim 20 = .ok (.iastore, 1) := by decide +kernel
theorem dX8_aim_21 : decode cX8_aim 21 = .ok (.iinc 2 1, 3) := by decide +kernel
theorem dX8_aim_24 : decode cX8_aim 24 = .ok (.goto (-22), 3) := by decide +kernel
theorem dX8_aim_27 : decode cX8_aim 27 = .ok (.iconst 0, 1) := by decide +kernel
theorem dX8_aim_28 : decode cX8_aim 28 = .ok (.istore_n 2, 1) := by decide +kernel
theorem dX8_aim_29 : decode cX8_aim 29 = .ok (.iload_n 2, 1) := by decide +kernel
theorem dX8_aim_30 : decode cX8_aim 30 = .ok (.bipush 8, 2) := by decide +kernel
theorem dX8_aim_32 : decode cX8_aim 32 = .ok (.if_icmp .ge 27, 3) := by decide +kernel
theorem dX8_aim_35 : decode cX8_aim 35 = .ok (.aload_n 0, 1) := by decide +kernel
theorem dX8_aim_36 : decode cX8_aim 36 = .ok (.getfield 18, 3) := by decide +kernel
theorem dX8_aim_39 : decode cX8_aim 39 = .ok (.iconst 4, 1) := by decide +kernel
theorem dX8_aim_40 : decode cX8_aim 40 = .ok (.iload_n 2, 1) := by decide +kernel
theorem dX8_aim_41 : decode cX8_aim 41 = .ok (.iadd, 1) := by decide +kernel
theorem dX8_aim_42 : decode cX8_aim 42 = .ok (.aload_n 1, 1) := by decide +kernel
theorem dX8_aim_43 : decode cX8_aim 43 = .ok (.getfield 80, 3) := by decide +kernel
theorem dX8_aim_46 : decode cX8_aim 46 = .ok (.iconst 4, 1) := by decide +kernel
theorem dX8_aim_47 : decode cX8_aim 47 = .ok (.iload_n 2, 1) := by decide +kernel
theorem dX8_aim_48 : decode cX8_aim 48 = .ok (.imul, 1) := by decide +kernel
theorem dX8_aim_49 : decode cX8_aim 49 = .ok (.invokevirtual 83, 3) := by decide +kernel
theorem dX8_aim_52 : decode cX8_aim 52 = .ok (.iastore, 1) := by decide +kernel
theorem dX8_aim_53 : decode cX8_aim 53 = .ok (.iinc 2 1, 3) := by decide +kernel
theorem dX8_aim_56 : decode cX8_aim 56 = .ok (.goto (-27), 3) := by decide +kernel
theorem dX8_aim_59 : decode cX8_aim 59 = .ok (.aload_n 0, 1) := by decide +kernel
theorem dX8_aim_60 : decode cX8_aim 60 = .ok (.getfield 18, 3) := by decide +kernel
theorem dX8_aim_63 : decode cX8_aim 63 = .ok (.bipush 13, 2) := by decide +kernel
theorem dX8_aim_65 : decode cX8_aim 65 = .ok (.aload_n 1, 1) := by decide +kernel
theorem dX8_aim_66 : decode cX8_aim 66 = .ok (.getfield 87, 3) := by decide +kernel
theorem dX8_aim_69 : decode cX8_aim 69 = .ok (.iconst 0, 1) := by decide +kernel
theorem dX8_aim_70 : decode cX8_aim 70 = .ok (.invokevirtual 83, 3) := by decide +kernel
theorem dX8_aim_73 : decode cX8_aim 73 = .ok (.iastore, 1) := by decide +kernel
theorem dX8_aim_74 : decode cX8_aim 74 = .ok (.aload_n 0, 1) := by decide +kernel
theorem dX8_aim_75 : decode cX8_aim 75 = .ok (.getfield 18, 3) := by decide +kernel
theorem dX8_aim_78 : decode cX8_aim 78 = .ok (.bipush 14, 2) := by decide +kernel
theorem dX8_aim_80 : decode cX8_aim 80 = .ok (.aload_n 1, 1) := by decide +kernel
theorem dX8_aim_81 : decode cX8_aim 81 = .ok (.getfield 87, 3) := by decide +kernel
theorem dX8_aim_84 : decode cX8_aim 84 = .ok (.iconst 4, 1) := by decide +kernel
theorem dX8_aim_85 : decode cX8_aim 85 = .ok (.invokevirtual 83, 3) := by decide +kernel
theorem dX8_aim_88 : decode cX8_aim 88 = .ok (.iastore, 1) := by decide +kernel
theorem dX8_aim_89 : decode cX8_aim 89 = .ok (.aload_n 0, 1) := by decide +kernel
theorem dX8_aim_90 : decode cX8_aim 90 = .ok (.getfield 18, 3) := by decide +kernel
theorem dX8_aim_93 : decode cX8_aim 93 = .ok (.bipush 15, 2) := by decide +kernel
theorem dX8_aim_95 : decode cX8_aim 95 = .ok (.aload_n 1, 1) := by decide +kernel
theorem dX8_aim_96 : decode cX8_aim 96 = .ok (.getfield 87, 3) := by decide +kernel
theorem dX8_aim_99 : decode cX8_aim 99 = .ok (.bipush 8, 2) := by decide +kernel
theorem dX8_aim_101 : decode cX8_aim 101 = .ok (.invokevirtual 83, 3) := by decide +kernel
theorem dX8_aim_104 : decode cX8_aim 104 = .ok (.aload_n 1, 1) := by decide +kernel
theorem dX8_aim_105 : decode cX8_aim 105 = .ok (.getfield 64, 3) := by decide +kernel
theorem dX8_aim_108 : decode cX8_aim 108 = .ok (.invokestatic 90, 3) := by decide +kernel
theorem dX8_aim_111 : decode cX8_aim 111 = .ok (.ixor, 1) := by decide +kernel
theorem dX8_aim_112 : decode cX8_aim 112 = .ok (.iastore, 1) := by decide +kernel
theorem dX8_aim_113 : decode cX8_aim 113 = .ok (.aload_n 0, 1) := by decide +kernel
theorem dX8_aim_114 : decode cX8_aim 114 = .ok (.iconst 0, 1) := by decide +kernel
theorem dX8_aim_115 : decode cX8_aim 115 = .ok (.invokevirtual 93, 3) := by decide +kernel
theorem dX8_aim_118 : decode cX8_aim 118 = .ok (.aload_n 0, 1) := by decide +kernel
theorem dX8_aim_119 : decode cX8_aim 119 = .ok (.getfield 30, 3) := by decide +kernel
theorem dX8_aim_122 : decode cX8_aim 122 = .ok (.invokevirtual 96, 3) := by decide +kernel
theorem dX8_aim_125 : decode cX8_aim 125 = .ok (.iconst 0, 1) := by decide +kernel
theorem dX8_aim_126 : decode cX8_aim 126 = .ok (.istore_n 2, 1) := by decide +kernel
theorem dX8_aim_127 : decode cX8_aim 127 = .ok (.iload_n 2, 1) := by decide +kernel
theorem dX8_aim_128 : decode cX8_aim 128 = .ok (.bipush 32, 2) := by decide +kernel
theorem dX8_aim_130 : decode cX8_aim 130 = .ok (.if_icmp .ge 31, 3) := by decide +kernel
theorem dX8_aim_133 : decode cX8_aim 133 = .ok (.aload_n 0, 1) := by decide +kernel
theorem dX8_aim_134 : decode cX8_aim 134 = .ok (.getfield 30, 3) := by decide +kernel
theorem dX8_aim_137 : decode cX8_aim 137 = .ok (.aload_n 0, 1) := by decide +kernel
theorem dX8_aim_138 : decode cX8_aim 138 = .ok (.getfield 22, 3) := by decide +kernel
theorem dX8_aim_141 : decode cX8_aim 141 = .ok (.iload_n 2, 1) := by decide +kernel
theorem dX8_aim_142 : decode cX8_aim 142 = .ok (.iconst 4, 1) := by decide +kernel
theorem dX8_aim_143 : decode cX8_aim 143 = .ok (.idiv, 1) := by decide +kernel
theorem dX8_aim_144 : decode cX8_aim 144 = .ok (.iaload, 1) := by decide +kernel
theorem dX8_aim_145 : decode cX8_aim 145 = .ok (.bipush 8, 2) := by decide +kernel
theorem dX8_aim_147 : decode cX8_aim 147 = .ok (.iload_n 2, 1) := by decide +kernel
theorem dX8_aim_148 : decode cX8_aim 148 = .ok (.iconst 4, 1) := by decide +kernel
theorem dX8_aim_149 : decode cX8_aim 149 = .ok (.irem, 1) := by decide +kernel
theorem dX8_aim_150 : decode cX8_aim 150 = .ok (.imul, 1) := by decide +kernel
theorem dX8_aim_151 : decode cX8_aim 151 = .ok (.iushr, 1) := by decide +kernel
theorem dX8_aim_152 : decode cX8_aim 152 = .ok (.invokevirtual 99, 3) := by decide +kernel
theorem dX8_aim_155 : decode cX8_aim 155 = .ok (.iinc 2 1, 3) := by decide +kernel
theorem dX8_aim_158 : decode cX8_aim 158 = .ok (.goto (-31), 3) := by decide +kernel
theorem dX8_aim_161 : decode cX8_aim 161 = .ok (.return_, 1) := by decide +kernel
theorem dX8_turned_0 : decode cX8_turned 0 = .ok (.iload_n 0, 1) := by decide +kernel
theorem dX8_turned_1 : decode cX8_turned 1 = .ok (.bipush 24, 2) := by decide +kernel
theorem dX8_turned_3 : decode cX8_turned 3 = .ok (.iushr, 1) := by decide +kernel
theorem dX8_turned_4 : decode cX8_turned 4 = .ok (.iload_n 0, 1) := by decide +kernel
theorem dX8_turned_5 : decode cX8_turned 5 = .ok (.bipush 8, 2) := by decide +kernel
theorem dX8_turned_7 : decode cX8_turned 7 = .ok (.iushr, 1) := by decide +kernel
theorem dX8_turned_8 : decode cX8_turned 8 = .ok (.ldc 102, 2) := by decide +kernel
theorem dX8_turned_10 : decode cX8_turned 10 = .ok (.iand, 1) := by decide +kernel
theorem dX8_turned_11 : decode cX8_turned 11 = .ok (.ior, 1) := by decide +kernel
theorem dX8_turned_12 : decode cX8_turned 12 = .ok (.iload_n 0, 1) := by decide +kernel
theorem dX8_turned_13 : decode cX8_turned 13 = .ok (.bipush 8, 2) := by decide +kernel
theorem dX8_turned_15 : decode cX8_turned 15 = .ok (.ishl, 1) := by decide +kernel
theorem dX8_turned_16 : decode cX8_turned 16 = .ok (.ldc 103, 2) := by decide +kernel
theorem dX8_turned_18 : decode cX8_turned 18 = .ok (.iand, 1) := by decide +kernel
theorem dX8_turned_19 : decode cX8_turned 19 = .ok (.ior, 1) := by decide +kernel
theorem dX8_turned_20 : decode cX8_turned 20 = .ok (.iload_n 0, 1) := by decide +kernel
theorem dX8_turned_21 : decode cX8_turned 21 = .ok (.bipush 24, 2) := by decide +kernel
theorem dX8_turned_23 : decode cX8_turned 23 = .ok (.ishl, 1) := by decide +kernel
theorem dX8_turned_24 : decode cX8_turned 24 = .ok (.ior, 1) := by decide +kernel
theorem dX8_turned_25 : decode cX8_turned 25 = .ok (.ireturn, 1) := by decide +kernel
theorem dX8_mix_0 : decode cX8_mix 0 = .ok (.iconst 0, 1) := by decide +kernel
theorem dX8_mix_1 : decode cX8_mix 1 = .ok (.istore_n 3, 1) := by decide +kernel
theorem dX8_mix_2 : decode cX8_mix 2 = .ok (.iload_n 2, 1) := by decide +kernel
theorem dX8_mix_3 : decode cX8_mix 3 = .ok (.istore 4, 2) := by decide +kernel
theorem dX8_mix_5 : decode cX8_mix 5 = .ok (.iload 4, 2) := by decide +kernel
theorem dX8_mix_7 : decode cX8_mix 7 = .ok (.aload_n 1, 1) := by decide +kernel
theorem dX8_mix_8 : decode cX8_mix 8 = .ok (.getfield 50, 3) := by decide +kernel
theorem dX8_mix_11 : decode cX8_mix 11 = .ok (.if_icmp .ge 79, 3) := by decide +kernel
theorem dX8_mix_14 : decode cX8_mix 14 = .ok (.iinc 3 1, 3) := by decide +kernel
theorem dX8_mix_17 : decode cX8_mix 17 = .ok (.aload_n 0, 1) := by decide +kernel
theorem dX8_mix_18 : decode cX8_mix 18 = .ok (.iload_n 3, 1) := by decide +kernel
theorem dX8_mix_19 : decode cX8_mix 19 = .ok (.invokevirtual 93, 3) := by decide +kernel
theorem dX8_mix_22 : decode cX8_mix 22 = .ok (.iconst 0, 1) := by decide +kernel
theorem dX8_mix_23 : decode cX8_mix 23 = .ok (.istore 5, 2) := by decide +kernel
theorem dX8_mix_25 : decode cX8_mix 25 = .ok (.iload 5, 2) := by decide +kernel
theorem dX8_mix_27 : decode cX8_mix 27 = .ok (.bipush 64, 2) := by decide +kernel
theorem dX8_mix_29 : decode cX8_mix 29 = .ok (.if_icmp .ge 55, 3) := by decide +kernel
theorem dX8_mix_32 : decode cX8_mix 32 = .ok (.iload 4, 2) := by decide +kernel
theorem dX8_mix_34 : decode cX8_mix 34 = .ok (.iload 5, 2) := by decide +kernel
theorem dX8_mix_36 : decode cX8_mix 36 = .ok (.iadd, 1) := by decide +kernel
theorem dX8_mix_37 : decode cX8_mix 37 = .ok (.aload_n 1, 1) := by decide +kernel
theorem dX8_mix_38 : decode cX8_mix 38 = .ok (.getfield 50, 3) := by decide +kernel
theorem dX8_mix_41 : decode cX8_mix 41 = .ok (.if_icmp .ge 43, 3) := by decide +kernel
theorem dX8_mix_44 : decode cX8_mix 44 = .ok (.aload_n 1, 1) := by decide +kernel
theorem dX8_mix_45 : decode cX8_mix 45 = .ok (.getfield 104, 3) := by decide +kernel
theorem dX8_mix_48 : decode cX8_mix 48 = .ok (.iload 4, 2) := by decide +kernel
theorem dX8_mix_50 : decode cX8_mix 50 = .ok (.iload 5, 2) := by decide +kernel
theorem dX8_mix_52 : decode cX8_mix 52 = .ok (.iadd, 1) := by decide +kernel
theorem dX8_mix_53 : decode cX8_mix 53 = .ok (.dup2, 1) := by decide +kernel
theorem dX8_mix_54 : decode cX8_mix 54 = .ok (.iaload, 1) := by decide +kernel
theorem dX8_mix_55 : decode cX8_mix 55 = .ok (.aload_n 0, 1) := by decide +kernel
theorem dX8_mix_56 : decode cX8_mix 56 = .ok (.getfield 22, 3) := by decide +kernel
theorem dX8_mix_59 : decode cX8_mix 59 = .ok (.iload 5, 2) := by decide +kernel
theorem dX8_mix_61 : decode cX8_mix 61 = .ok (.iconst 4, 1) := by decide +kernel
theorem dX8_mix_62 : decode cX8_mix 62 = .ok (.idiv, 1) := by decide +kernel
theorem dX8_mix_63 : decode cX8_mix 63 = .ok (.iaload, 1) := by decide +kernel
theorem dX8_mix_64 : decode cX8_mix 64 = .ok (.bipush 8, 2) := by decide +kernel
theorem dX8_mix_66 : decode cX8_mix 66 = .ok (.iload 5, 2) := by decide +kernel
theorem dX8_mix_68 : decode cX8_mix 68 = .ok (.iconst 4, 1) := by decide +kernel
theorem dX8_mix_69 : decode cX8_mix 69 = .ok (.irem, 1) := by decide +kernel
theorem dX8_mix_70 : decode cX8_mix 70 = .ok (.imul, 1) := by decide +kernel
theorem dX8_mix_71 : decode cX8_mix 71 = .ok (.iushr, 1) := by decide +kernel
theorem dX8_mix_72 : decode cX8_mix 72 = .ok (.sipush 255, 3) := by decide +kernel
theorem dX8_mix_75 : decode cX8_mix 75 = .ok (.iand, 1) := by decide +kernel
theorem dX8_mix_76 : decode cX8_mix 76 = .ok (.ixor, 1) := by decide +kernel
theorem dX8_mix_77 : decode cX8_mix 77 = .ok (.iastore, 1) := by decide +kernel
theorem dX8_mix_78 : decode cX8_mix 78 = .ok (.iinc 5 1, 3) := by decide +kernel
theorem dX8_mix_81 : decode cX8_mix 81 = .ok (.goto (-56), 3) := by decide +kernel
theorem dX8_mix_84 : decode cX8_mix 84 = .ok (.iinc 4 64, 3) := by decide +kernel
theorem dX8_mix_87 : decode cX8_mix 87 = .ok (.goto (-82), 3) := by decide +kernel
theorem dX8_mix_90 : decode cX8_mix 90 = .ok (.return_, 1) := by decide +kernel
theorem dX8_turnBlock_0 : decode cX8_turnBlock 0 = .ok (.aload_n 0, 1) := by decide +kernel
theorem dX8_turnBlock_1 : decode cX8_turnBlock 1 = .ok (.getfield 18, 3) := by decide +kernel
theorem dX8_turnBlock_4 : decode cX8_turnBlock 4 = .ok (.bipush 12, 2) := by decide +kernel
theorem dX8_turnBlock_6 : decode cX8_turnBlock 6 = .ok (.iload_n 1, 1) := by decide +kernel
theorem dX8_turnBlock_7 : decode cX8_turnBlock 7 = .ok (.iastore, 1) := by decide +kernel
theorem dX8_turnBlock_8 : decode cX8_turnBlock 8 = .ok (.iconst 0, 1) := by decide +kernel
theorem dX8_turnBlock_9 : decode cX8_turnBlock 9 = .ok (.istore_n 2, 1) := by decide +kernel
theorem dX8_turnBlock_10 : decode cX8_turnBlock 10 = .ok (.iload_n 2, 1) := by decide +kernel
theorem dX8_turnBlock_11 : decode cX8_turnBlock 11 = .ok (.bipush 16, 2) := by decide +kernel
theorem dX8_turnBlock_13 : decode cX8_turnBlock 13 = .ok (.if_icmp .ge 21, 3) := by decide +kernel
theorem dX8_turnBlock_16 : decode cX8_turnBlock 16 = .ok (.aload_n 0, 1) := by decide +kernel
theorem dX8_turnBlock_17 : decode cX8_turnBlock 17 = .ok (.getfield 22, 3) := by decide +kernel
theorem dX8_turnBlock_20 : decode cX8_turnBlock 20 = .ok (.iload_n 2, 1) := by decide +kernel
theorem dX8_turnBlock_21 : decode cX8_turnBlock 21 = .ok (.aload_n 0, 1) := by decide +kernel
theorem dX8_turnBlock_22 : decode cX8_turnBlock 22 = .ok (.getfield 18, 3) := by decide +kernel
theorem dX8_turnBlock_25 : decode cX8_turnBlock 25 = .ok (.iload_n 2, 1) := by decide +kernel
theorem dX8_turnBlock_26 : decode cX8_turnBlock 26 = .ok (.iaload, 1) := by decide +kernel
theorem dX8_turnBlock_27 : decode cX8_turnBlock 27 = .ok (.iastore, 1) := by decide +kernel
theorem dX8_turnBlock_28 : decode cX8_turnBlock 28 = .ok (.iinc 2 1, 3) := by decide +kernel
theorem dX8_turnBlock_31 : decode cX8_turnBlock 31 = .ok (.goto (-21), 3) := by decide +kernel
theorem dX8_turnBlock_34 : decode cX8_turnBlock 34 = .ok (.iconst 0, 1) := by decide +kernel
theorem dX8_turnBlock_35 : decode cX8_turnBlock 35 = .ok (.istore_n 2, 1) := by decide +kernel
theorem dX8_turnBlock_36 : decode cX8_turnBlock 36 = .ok (.iload_n 2, 1) := by decide +kernel
theorem dX8_turnBlock_37 : decode cX8_turnBlock 37 = .ok (.bipush 10, 2) := by decide +kernel
theorem dX8_turnBlock_39 : decode cX8_turnBlock 39 = .ok (.getstatic 107, 3) := by decide +kernel
theorem dX8_turnBlock_42 : decode cX8_turnBlock 42 = .ok (.arraylength, 1) := by decide +kernel
theorem dX8_turnBlock_43 : decode cX8_turnBlock 43 = .ok (.imul, 1) := by decide +kernel
theorem dX8_turnBlock_44 : decode cX8_turnBlock 44 = .ok (.if_icmp .ge 215, 3) := by decide +kernel
theorem dX8_turnBlock_47 : decode cX8_turnBlock 47 = .ok (.iload_n 2, 1) := by decide +kernel
theorem dX8_turnBlock_48 : decode cX8_turnBlock 48 = .ok (.getstatic 107, 3) := by decide +kernel
theorem dX8_turnBlock_51 : decode cX8_turnBlock 51 = .ok (.arraylength, 1) := by decide +kernel
theorem dX8_turnBlock_52 : decode cX8_turnBlock 52 = .ok (.irem, 1) := by decide +kernel
theorem dX8_turnBlock_53 : decode cX8_turnBlock 53 = .ok (.istore_n 3, 1) := by decide +kernel
theorem dX8_turnBlock_54 : decode cX8_turnBlock 54 = .ok (.getstatic 107, 3) := by decide +kernel
theorem dX8_turnBlock_57 : decode cX8_turnBlock 57 = .ok (.iload_n 3, 1) := by decide +kernel
theorem dX8_turnBlock_58 : decode cX8_turnBlock 58 = .ok (.iaload, 1) := by decide +kernel
theorem dX8_turnBlock_59 : decode cX8_turnBlock 59 = .ok (.istore 4, 2) := by decide +kernel
theorem dX8_turnBlock_61 : decode cX8_turnBlock 61 = .ok (.getstatic 107, 3) := by decide +kernel
theorem dX8_turnBlock_64 : decode cX8_turnBlock 64 = .ok (.iload_n 3, 1) := by decide +kernel
theorem dX8_turnBlock_65 : decode cX8_turnBlock 65 = .ok (.iconst 1, 1) := by decide +kernel
theorem dX8_turnBlock_66 : decode cX8_turnBlock 66 = .ok (.iadd, 1) := by decide +kernel
theorem dX8_turnBlock_67 : decode cX8_turnBlock 67 = .ok (.iaload, 1) := by decide +kernel
theorem dX8_turnBlock_68 : decode cX8_turnBlock 68 = .ok (.istore 5, 2) := by decide +kernel
theorem dX8_turnBlock_70 : decode cX8_turnBlock 70 = .ok (.getstatic 107, 3) := by decide +kernel
theorem dX8_turnBlock_73 : decode cX8_turnBlock 73 = .ok (.iload_n 3, 1) := by decide +kernel
theorem dX8_turnBlock_74 : decode cX8_turnBlock 74 = .ok (.iconst 2, 1) := by decide +kernel
theorem dX8_turnBlock_75 : decode cX8_turnBlock 75 = .ok (.iadd, 1) := by decide +kernel
theorem dX8_turnBlock_76 : decode cX8_turnBlock 76 = .ok (.iaload, 1) := by decide +kernel
theorem dX8_turnBlock_77 : decode cX8_turnBlock 77 = .ok (.istore 6, 2) := by decide +kernel
theorem dX8_turnBlock_79 : decode cX8_turnBlock 79 = .ok (.getstatic 107, 3) := by decide +kernel
theorem dX8_turnBlock_82 : decode cX8_turnBlock 82 = .ok (.iload_n 3, 1) := by decide +kernel
theorem dX8_turnBlock_83 : decode cX8_turnBlock 83 = .ok (.iconst 3, 1) := by decide +kernel
theorem dX8_turnBlock_84 : decode cX8_turnBlock 84 = .ok (.iadd, 1) := by decide +kernel
theorem dX8_turnBlock_85 : decode cX8_turnBlock 85 = .ok (.iaload, 1) := by decide +kernel
theorem dX8_turnBlock_86 : decode cX8_turnBlock 86 = .ok (.istore 7, 2) := by decide +kernel
theorem dX8_turnBlock_88 : decode cX8_turnBlock 88 = .ok (.aload_n 0, 1) := by decide +kernel
theorem dX8_turnBlock_89 : decode cX8_turnBlock 89 = .ok (.getfield 22, 3) := by decide +kernel
theorem dX8_turnBlock_92 : decode cX8_turnBlock 92 = .ok (.iload 4, 2) := by decide +kernel
theorem dX8_turnBlock_94 : decode cX8_turnBlock 94 = .ok (.iaload, 1) := by decide +kernel
theorem dX8_turnBlock_95 : decode cX8_turnBlock 95 = .ok (.aload_n 0, 1) := by decide +kernel
theorem dX8_turnBlock_96 : decode cX8_turnBlock 96 = .ok (.getfield 22, 3) := by decide +kernel
theorem dX8_turnBlock_99 : decode cX8_turnBlock 99 = .ok (.iload 5, 2) := by decide +kernel
theorem dX8_turnBlock_101 : decode cX8_turnBlock 101 = .ok (.iaload, 1) := by decide +kernel
theorem dX8_turnBlock_102 : decode cX8_turnBlock 102 = .ok (.iadd, 1) := by decide +kernel
theorem dX8_turnBlock_103 : decode cX8_turnBlock 103 = .ok (.istore 8, 2) := by decide +kernel
theorem dX8_turnBlock_105 : decode cX8_turnBlock 105 = .ok (.aload_n 0, 1) := by decide +kernel
theorem dX8_turnBlock_106 : decode cX8_turnBlock 106 = .ok (.getfield 22, 3) := by decide +kernel
theorem dX8_turnBlock_109 : decode cX8_turnBlock 109 = .ok (.iload 7, 2) := by decide +kernel
theorem dX8_turnBlock_111 : decode cX8_turnBlock 111 = .ok (.iaload, 1) := by decide +kernel
theorem dX8_turnBlock_112 : decode cX8_turnBlock 112 = .ok (.iload 8, 2) := by decide +kernel
theorem dX8_turnBlock_114 : decode cX8_turnBlock 114 = .ok (.ixor, 1) := by decide +kernel
theorem dX8_turnBlock_115 : decode cX8_turnBlock 115 = .ok (.istore 9, 2) := by decide +kernel
theorem dX8_turnBlock_117 : decode cX8_turnBlock 117 = .ok (.iload 9, 2) := by decide +kernel
theorem dX8_turnBlock_119 : decode cX8_turnBlock 119 = .ok (.bipush 16, 2) := by decide +kernel
theorem dX8_turnBlock_121 : decode cX8_turnBlock 121 = .ok (.ishl, 1) := by decide +kernel
theorem dX8_turnBlock_122 : decode cX8_turnBlock 122 = .ok (.iload 9, 2) := by decide +kernel
theorem dX8_turnBlock_124 : decode cX8_turnBlock 124 = .ok (.bipush 16, 2) := by decide +kernel
theorem dX8_turnBlock_126 : decode cX8_turnBlock 126 = .ok (.iushr, 1) := by decide +kernel
theorem dX8_turnBlock_127 : decode cX8_turnBlock 127 = .ok (.ior, 1) := by decide +kernel
theorem dX8_turnBlock_128 : decode cX8_turnBlock 128 = .ok (.istore 9, 2) := by decide +kernel
theorem dX8_turnBlock_130 : decode cX8_turnBlock 130 = .ok (.aload_n 0, 1) := by decide +kernel
theorem dX8_turnBlock_131 : decode cX8_turnBlock 131 = .ok (.getfield 22, 3) := by decide +kernel
theorem dX8_turnBlock_134 : decode cX8_turnBlock 134 = .ok (.iload 6, 2) := by decide +kernel
theorem dX8_turnBlock_136 : decode cX8_turnBlock 136 = .ok (.iaload, 1) := by decide +kernel
theorem dX8_turnBlock_137 : decode cX8_turnBlock 137 = .ok (.iload 9, 2) := by decide +kernel
theorem dX8_turnBlock_139 : decode cX8_turnBlock 139 = .ok (.iadd, 1) := by decide +kernel
theorem dX8_turnBlock_140 : decode cX8_turnBlock 140 = .ok (.istore 10, 2) := by decide +kernel
theorem dX8_turnBlock_142 : decode cX8_turnBlock 142 = .ok (.aload_n 0, 1) := by decide +kernel
theorem dX8_turnBlock_143 : decode cX8_turnBlock 143 = .ok (.getfield 22, 3) := by decide +kernel
theorem dX8_turnBlock_146 : decode cX8_turnBlock 146 = .ok (.iload 5, 2) := by decide +kernel
theorem dX8_turnBlock_148 : decode cX8_turnBlock 148 = .ok (.iaload, 1) := by decide +kernel
theorem dX8_turnBlock_149 : decode cX8_turnBlock 149 = .ok (.iload 10, 2) := by decide +kernel
theorem dX8_turnBlock_151 : decode cX8_turnBlock 151 = .ok (.ixor, 1) := by decide +kernel
theorem dX8_turnBlock_152 : decode cX8_turnBlock 152 = .ok (.istore 11, 2) := by decide +kernel
theorem dX8_turnBlock_154 : decode cX8_turnBlock 154 = .ok (.iload 11, 2) := by decide +kernel
theorem dX8_turnBlock_156 : decode cX8_turnBlock 156 = .ok (.bipush 12, 2) := by decide +kernel
theorem dX8_turnBlock_158 : decode cX8_turnBlock 158 = .ok (.ishl, 1) := by decide +kernel
theorem dX8_turnBlock_159 : decode cX8_turnBlock 159 = .ok (.iload 11, 2) := by decide +kernel
theorem dX8_turnBlock_161 : decode cX8_turnBlock 161 = .ok (.bipush 20, 2) := by decide +kernel
theorem dX8_turnBlock_163 : decode cX8_turnBlock 163 = .ok (.iushr, 1) := by decide +kernel
theorem dX8_turnBlock_164 : decode cX8_turnBlock 164 = .ok (.ior, 1) := by decide +kernel
theorem dX8_turnBlock_165 : decode cX8_turnBlock 165 = .ok (.istore 11, 2) := by decide +kernel
theorem dX8_turnBlock_167 : decode cX8_turnBlock 167 = .ok (.iload 8, 2) := by decide +kernel
theorem dX8_turnBlock_169 : decode cX8_turnBlock 169 = .ok (.iload 11, 2) := by decide +kernel
theorem dX8_turnBlock_171 : decode cX8_turnBlock 171 = .ok (.iadd, 1) := by decide +kernel
theorem dX8_turnBlock_172 : decode cX8_turnBlock 172 = .ok (.istore 8, 2) := by decide +kernel
theorem dX8_turnBlock_174 : decode cX8_turnBlock 174 = .ok (.iload 9, 2) := by decide +kernel
theorem dX8_turnBlock_176 : decode cX8_turnBlock 176 = .ok (.iload 8, 2) := by decide +kernel
theorem dX8_turnBlock_178 : decode cX8_turnBlock 178 = .ok (.ixor, 1) := by decide +kernel
theorem dX8_turnBlock_179 : decode cX8_turnBlock 179 = .ok (.istore 9, 2) := by decide +kernel
theorem dX8_turnBlock_181 : decode cX8_turnBlock 181 = .ok (.iload 9, 2) := by decide +kernel
theorem dX8_turnBlock_183 : decode cX8_turnBlock 183 = .ok (.bipush 8, 2) := by decide +kernel
theorem dX8_turnBlock_185 : decode cX8_turnBlock 185 = .ok (.ishl, 1) := by decide +kernel
theorem dX8_turnBlock_186 : decode cX8_turnBlock 186 = .ok (.iload 9, 2) := by decide +kernel
theorem dX8_turnBlock_188 : decode cX8_turnBlock 188 = .ok (.bipush 24, 2) := by decide +kernel
theorem dX8_turnBlock_190 : decode cX8_turnBlock 190 = .ok (.iushr, 1) := by decide +kernel
theorem dX8_turnBlock_191 : decode cX8_turnBlock 191 = .ok (.ior, 1) := by decide +kernel
theorem dX8_turnBlock_192 : decode cX8_turnBlock 192 = .ok (.istore 9, 2) := by decide +kernel
theorem dX8_turnBlock_194 : decode cX8_turnBlock 194 = .ok (.iload 10, 2) := by decide +kernel
theorem dX8_turnBlock_196 : decode cX8_turnBlock 196 = .ok (.iload 9, 2) := by decide +kernel
theorem dX8_turnBlock_198 : decode cX8_turnBlock 198 = .ok (.iadd, 1) := by decide +kernel
theorem dX8_turnBlock_199 : decode cX8_turnBlock 199 = .ok (.istore 10, 2) := by decide +kernel
theorem dX8_turnBlock_201 : decode cX8_turnBlock 201 = .ok (.iload 11, 2) := by decide +kernel
theorem dX8_turnBlock_203 : decode cX8_turnBlock 203 = .ok (.iload 10, 2) := by decide +kernel
theorem dX8_turnBlock_205 : decode cX8_turnBlock 205 = .ok (.ixor, 1) := by decide +kernel
theorem dX8_turnBlock_206 : decode cX8_turnBlock 206 = .ok (.istore 11, 2) := by decide +kernel
theorem dX8_turnBlock_208 : decode cX8_turnBlock 208 = .ok (.aload_n 0, 1) := by decide +kernel
theorem dX8_turnBlock_209 : decode cX8_turnBlock 209 = .ok (.getfield 22, 3) := by decide +kernel
theorem dX8_turnBlock_212 : decode cX8_turnBlock 212 = .ok (.iload 4, 2) := by decide +kernel
theorem dX8_turnBlock_214 : decode cX8_turnBlock 214 = .ok (.iload 8, 2) := by decide +kernel
theorem dX8_turnBlock_216 : decode cX8_turnBlock 216 = .ok (.iastore, 1) := by decide +kernel
theorem dX8_turnBlock_217 : decode cX8_turnBlock 217 = .ok (.aload_n 0, 1) := by decide +kernel
theorem dX8_turnBlock_218 : decode cX8_turnBlock 218 = .ok (.getfield 22, 3) := by decide +kernel
theorem dX8_turnBlock_221 : decode cX8_turnBlock 221 = .ok (.iload 5, 2) := by decide +kernel
theorem dX8_turnBlock_223 : decode cX8_turnBlock 223 = .ok (.iload 11, 2) := by decide +kernel
theorem dX8_turnBlock_225 : decode cX8_turnBlock 225 = .ok (.bipush 7, 2) := by decide +kernel
theorem dX8_turnBlock_227 : decode cX8_turnBlock 227 = .ok (.ishl, 1) := by decide +kernel
theorem dX8_turnBlock_228 : decode cX8_turnBlock 228 = .ok (.iload 11, 2) := by decide +kernel
theorem dX8_turnBlock_230 : decode cX8_turnBlock 230 = .ok (.bipush 25, 2) := by decide +kernel
theorem dX8_turnBlock_232 : decode cX8_turnBlock 232 = .ok (.iushr, 1) := by decide +kernel
theorem dX8_turnBlock_233 : decode cX8_turnBlock 233 = .ok (.ior, 1) := by decide +kernel
theorem dX8_turnBlock_234 : decode cX8_turnBlock 234 = .ok (.iastore, 1) := by decide +kernel
theorem dX8_turnBlock_235 : decode cX8_turnBlock 235 = .ok (.aload_n 0, 1) := by decide +kernel
theorem dX8_turnBlock_236 : decode cX8_turnBlock 236 = .ok (.getfield 22, 3) := by decide +kernel
theorem dX8_turnBlock_239 : decode cX8_turnBlock 239 = .ok (.iload 6, 2) := by decide +kernel
theorem dX8_turnBlock_241 : decode cX8_turnBlock 241 = .ok (.iload 10, 2) := by decide +kernel
theorem dX8_turnBlock_243 : decode cX8_turnBlock 243 = .ok (.iastore, 1) := by decide +kernel
theorem dX8_turnBlock_244 : decode cX8_turnBlock 244 = .ok (.aload_n 0, 1) := by decide +kernel
theorem dX8_turnBlock_245 : decode cX8_turnBlock 245 = .ok (.getfield 22, 3) := by decide +kernel
theorem dX8_turnBlock_248 : decode cX8_turnBlock 248 = .ok (.iload 7, 2) := by decide +kernel
theorem dX8_turnBlock_250 : decode cX8_turnBlock 250 = .ok (.iload 9, 2) := by decide +kernel
theorem dX8_turnBlock_252 : decode cX8_turnBlock 252 = .ok (.iastore, 1) := by decide +kernel
theorem dX8_turnBlock_253 : decode cX8_turnBlock 253 = .ok (.iinc 2 4, 3) := by decide +kernel
theorem dX8_turnBlock_256 : decode cX8_turnBlock 256 = .ok (.goto (-220), 3) := by decide +kernel
theorem dX8_turnBlock_259 : decode cX8_turnBlock 259 = .ok (.iconst 0, 1) := by decide +kernel
theorem dX8_turnBlock_260 : decode cX8_turnBlock 260 = .ok (.istore_n 2, 1) := by decide +kernel
theorem dX8_turnBlock_261 : decode cX8_turnBlock 261 = .ok (.iload_n 2, 1) := by decide +kernel
theorem dX8_turnBlock_262 : decode cX8_turnBlock 262 = .ok (.bipush 16, 2) := by decide +kernel
theorem dX8_turnBlock_264 : decode cX8_turnBlock 264 = .ok (.if_icmp .ge 24, 3) := by decide +kernel
theorem dX8_turnBlock_267 : decode cX8_turnBlock 267 = .ok (.aload_n 0, 1) := by decide +kernel
theorem dX8_turnBlock_268 : decode cX8_turnBlock 268 = .ok (.getfield 22, 3) := by decide +kernel
theorem dX8_turnBlock_271 : decode cX8_turnBlock 271 = .ok (.iload_n 2, 1) := by decide +kernel
theorem dX8_turnBlock_272 : decode cX8_turnBlock 272 = .ok (.dup2, 1) := by decide +kernel
theorem dX8_turnBlock_273 : decode cX8_turnBlock 273 = .ok (.iaload, 1) := by decide +kernel
theorem dX8_turnBlock_274 : decode cX8_turnBlock 274 = .ok (.aload_n 0, 1) := by decide +kernel
theorem dX8_turnBlock_275 : decode cX8_turnBlock 275 = .ok (.getfield 18, 3) := by decide +kernel
theorem dX8_turnBlock_278 : decode cX8_turnBlock 278 = .ok (.iload_n 2, 1) := by decide +kernel
theorem dX8_turnBlock_279 : decode cX8_turnBlock 279 = .ok (.iaload, 1) := by decide +kernel
theorem dX8_turnBlock_280 : decode cX8_turnBlock 280 = .ok (.iadd, 1) := by decide +kernel
theorem dX8_turnBlock_281 : decode cX8_turnBlock 281 = .ok (.iastore, 1) := by decide +kernel
theorem dX8_turnBlock_282 : decode cX8_turnBlock 282 = .ok (.iinc 2 1, 3) := by decide +kernel
theorem dX8_turnBlock_285 : decode cX8_turnBlock 285 = .ok (.goto (-24), 3) := by decide +kernel
theorem dX8_turnBlock_288 : decode cX8_turnBlock 288 = .ok (.return_, 1) := by decide +kernel
theorem dX8_gather_0 : decode cX8_gather 0 = .ok (.aload_n 0, 1) := by decide +kernel
theorem dX8_gather_1 : decode cX8_gather 1 = .ok (.getfield 34, 3) := by decide +kernel
theorem dX8_gather_4 : decode cX8_gather 4 = .ok (.invokevirtual 96, 3) := by decide +kernel
theorem dX8_gather_7 : decode cX8_gather 7 = .ok (.aload_n 0, 1) := by decide +kernel
theorem dX8_gather_8 : decode cX8_gather 8 = .ok (.getfield 34, 3) := by decide +kernel
theorem dX8_gather_11 : decode cX8_gather 11 = .ok (.aload_n 1, 1) := by decide +kernel
theorem dX8_gather_12 : decode cX8_gather 12 = .ok (.iconst 0, 1) := by decide +kernel
theorem dX8_gather_13 : decode cX8_gather 13 = .ok (.iconst 5, 1) := by decide +kernel
theorem dX8_gather_14 : decode cX8_gather 14 = .ok (.invokevirtual 110, 3) := by decide +kernel
theorem dX8_gather_17 : decode cX8_gather 17 = .ok (.aload_n 0, 1) := by decide +kernel
theorem dX8_gather_18 : decode cX8_gather 18 = .ok (.getfield 34, 3) := by decide +kernel
theorem dX8_gather_21 : decode cX8_gather 21 = .ok (.bipush 16, 2) := by decide +kernel
theorem dX8_gather_23 : decode cX8_gather 23 = .ok (.invokevirtual 113, 3) := by decide +kernel
theorem dX8_gather_26 : decode cX8_gather 26 = .ok (.aload_n 0, 1) := by decide +kernel
theorem dX8_gather_27 : decode cX8_gather 27 = .ok (.getfield 34, 3) := by decide +kernel
theorem dX8_gather_30 : decode cX8_gather 30 = .ok (.aload_n 1, 1) := by decide +kernel
theorem dX8_gather_31 : decode cX8_gather 31 = .ok (.iconst 5, 1) := by decide +kernel
theorem dX8_gather_32 : decode cX8_gather 32 = .ok (.iload_n 2, 1) := by decide +kernel
theorem dX8_gather_33 : decode cX8_gather 33 = .ok (.invokevirtual 110, 3) := by decide +kernel
theorem dX8_gather_36 : decode cX8_gather 36 = .ok (.aload_n 0, 1) := by decide +kernel
theorem dX8_gather_37 : decode cX8_gather 37 = .ok (.getfield 34, 3) := by decide +kernel
theorem dX8_gather_40 : decode cX8_gather 40 = .ok (.bipush 16, 2) := by decide +kernel
theorem dX8_gather_42 : decode cX8_gather 42 = .ok (.invokevirtual 113, 3) := by decide +kernel
theorem dX8_gather_45 : decode cX8_gather 45 = .ok (.aload_n 0, 1) := by decide +kernel
theorem dX8_gather_46 : decode cX8_gather 46 = .ok (.getfield 34, 3) := by decide +kernel
theorem dX8_gather_49 : decode cX8_gather 49 = .ok (.iconst 5, 1) := by decide +kernel
theorem dX8_gather_50 : decode cX8_gather 50 = .ok (.bipush 8, 2) := by decide +kernel
theorem dX8_gather_52 : decode cX8_gather 52 = .ok (.invokevirtual 116, 3) := by decide +kernel
theorem dX8_gather_55 : decode cX8_gather 55 = .ok (.aload_n 0, 1) := by decide +kernel
theorem dX8_gather_56 : decode cX8_gather 56 = .ok (.getfield 34, 3) := by decide +kernel
theorem dX8_gather_59 : decode cX8_gather 59 = .ok (.iload_n 2, 1) := by decide +kernel
theorem dX8_gather_60 : decode cX8_gather 60 = .ok (.iconst 5, 1) := by decide +kernel
theorem dX8_gather_61 : decode cX8_gather 61 = .ok (.isub, 1) := by decide +kernel
theorem dX8_gather_62 : decode cX8_gather 62 = .ok (.bipush 8, 2) := by decide +kernel
theorem dX8_gather_64 : decode cX8_gather 64 = .ok (.invokevirtual 116, 3) := by decide +kernel
theorem dX8_gather_67 : decode cX8_gather 67 = .ok (.return_, 1) := by decide +kernel
theorem dX9_init_0 : decode cX9_init 0 = .ok (.aload_n 0, 1) := by decide +kernel
theorem dX9_init_1 : decode cX9_init 1 = .ok (.invokespecial 1, 3) := by decide +kernel
theorem dX9_init_4 : decode cX9_init 4 = .ok (.aload_n 0, 1) := by decide +kernel
theorem dX9_init_5 : decode cX9_init 5 = .ok (.getstatic 7, 3) := by decide +kernel
theorem dX9_init_8 : decode cX9_init 8 = .ok (.arraylength, 1) := by decide +kernel
theorem dX9_init_9 : decode cX9_init 9 = .ok (.newarray .int, 2) := by decide +kernel
theorem dX9_init_11 : decode cX9_init 11 = .ok (.putfield 13, 3) := by decide +kernel
theorem dX9_init_14 : decode cX9_init 14 = .ok (.aload_n 0, 1) := by decide +kernel
theorem dX9_init_15 : decode cX9_init 15 = .ok (.getstatic 16, 3) := by decide +kernel
theorem dX9_init_18 : decode cX9_init 18 = .ok (.arraylength, 1) := by decide +kernel
theorem dX9_init_19 : decode cX9_init 19 = .ok (.newarray .int, 2) := by decide +kernel
theorem dX9_init_21 : decode cX9_init 21 = .ok (.putfield 19, 3) := by decide +kernel
theorem dX9_init_24 : decode cX9_init 24 = .ok (.return_, 1) := by decide +kernel
theorem dX9_digest_0 : decode cX9_digest 0 = .ok (.iconst 0, 1) := by decide +kernel
theorem dX9_digest_1 : decode cX9_digest 1 = .ok (.istore_n 3, 1) := by decide +kernel
theorem dX9_digest_2 : decode cX9_digest 2 = .ok (.iload_n 3, 1) := by decide +kernel
theorem dX9_digest_3 : decode cX9_digest 3 = .ok (.getstatic 7, 3) := by decide +kernel
theorem dX9_digest_6 : decode cX9_digest 6 = .ok (.arraylength, 1) := by decide +kernel
theorem dX9_digest_7 : decode cX9_digest 7 = .ok (.if_icmp .ge 20, 3) := by decide +kernel
theorem dX9_digest_10 : decode cX9_digest 10 = .ok (.aload_n 0, 1) := by decide +kernel
theorem dX9_digest_11 : decode cX9_digest 11 = .ok (.getfield 13, 3) := by decide +kernel
theorem dX9_digest_14 : decode cX9_digest 14 = .ok (.iload_n 3, 1) := by decide +kernel
theorem dX9_digest_15 : decode cX9_digest 15 = .ok (.getstatic 7, 3) := by decide +kernel
theorem dX9_digest_18 : decode cX9_digest 18 = .ok (.iload_n 3, 1) := by decide +kernel
theorem dX9_digest_19 : decode cX9_digest 19 = .ok (.iaload, 1) := by decide +kernel
theorem dX9_digest_20 : decode cX9_digest 20 = .ok (.iastore, 1) := by decide +kernel
theorem dX9_digest_21 : decode cX9_digest 21 = .ok (.iinc 3 1, 3) := by decide +kernel
theorem dX9_digest_24 : decode cX9_digest 24 = .ok (.goto (-22), 3) := by decide +kernel
theorem dX9_digest_27 : decode cX9_digest 27 = .ok (.aload_n 1, 1) := by decide +kernel
theorem dX9_digest_28 : decode cX9_digest 28 = .ok (.getfield 22, 3) := by decide +kernel
theorem dX9_digest_31 : decode cX9_digest 31 = .ok (.bipush 9, 2) := by decide +kernel
theorem dX9_digest_33 : decode cX9_digest 33 = .ok (.iadd, 1) := by decide +kernel
theorem dX9_digest_34 : decode cX9_digest 34 = .ok (.bipush 64, 2) := by decide +kernel
theorem dX9_digest_36 : decode cX9_digest 36 = .ok (.iadd, 1) := by decide +kernel
theorem dX9_digest_37 : decode cX9_digest 37 = .ok (.iconst 1, 1) := by decide +kernel
theorem dX9_digest_38 : decode cX9_digest 38 = .ok (.isub, 1) := by decide +kernel
theorem dX9_digest_39 : decode cX9_digest 39 = .ok (.bipush 64, 2) := by decide +kernel
theorem dX9_digest_41 : decode cX9_digest 41 = .ok (.idiv, 1) := by decide +kernel
theorem dX9_digest_42 : decode cX9_digest 42 = .ok (.bipush 64, 2) := by decide +kernel
theorem dX9_digest_44 : decode cX9_digest 44 = .ok (.imul, 1) := by decide +kernel
theorem dX9_digest_45 : decode cX9_digest 45 = .ok (.istore_n 3, 1) := by decide +kernel
theorem dX9_digest_46 : decode cX9_digest 46 = .ok (.iconst 0, 1) := by decide +kernel
theorem dX9_digest_47 : decode cX9_digest 47 = .ok (.istore 4, 2) := by decide +kernel
theorem dX9_digest_49 : decode cX9_digest 49 = .ok (.iload 4, 2) := by decide +kernel
theorem dX9_digest_51 : decode cX9_digest 51 = .ok (.iload_n 3, 1) := by decide +kernel
theorem dX9_digest_52 : decode cX9_digest 52 = .ok (.if_icmp .ge 21, 3) := by decide +kernel
theorem dX9_digest_55 : decode cX9_digest 55 = .ok (.aload_n 0, 1) := by decide +kernel
theorem dX9_digest_56 : decode cX9_digest 56 = .ok (.aload_n 1, 1) := by decide +kernel
theorem dX9_digest_57 : decode cX9_digest 57 = .ok (.iload 4, 2) := by decide +kernel
theorem dX9_digest_59 : decode cX9_digest 59 = .ok (.iload_n 3, 1) := by decide +kernel
theorem dX9_digest_60 : decode cX9_digest 60 = .ok (.invokevirtual 28, 3) := by decide +kernel
theorem dX9_digest_63 : decode cX9_digest 63 = .ok (.aload_n 0, 1) := by decide +kernel
theorem dX9_digest_64 : decode cX9_digest 64 = .ok (.invokevirtual 32, 3) := by decide +kernel
theorem dX9_digest_67 : decode cX9_digest 67 = .ok (.iinc 4 64, 3) := by decide +kernel
theorem dX9_digest_70 : decode cX9_digest 70 = .ok (.goto (-21), 3) := by decide +kernel
theorem dX9_digest_73 : decode cX9_digest 73 = .ok (.aload_n 2, 1) := by decide +kernel
theorem dX9_digest_74 : decode cX9_digest 74 = .ok (.invokevirtual 35, 3) := by decide +kernel
theorem dX9_digest_77 : decode cX9_digest 77 = .ok (.iconst 0, 1) := by decide +kernel
theorem dX9_digest_78 : decode cX9_digest 78 = .ok (.istore 4, 2) := by decide +kernel
theorem dX9_digest_80 : decode cX9_digest 80 = .ok (.iload 4, 2) := by decide +kernel
theorem dX9_digest_82 : decode cX9_digest 82 = .ok (.aload_n 0, 1) := by decide +kernel
theorem dX9_digest_83 : decode cX9_digest 83 = .ok (.getfield 13, 3) := by decide +kernel
theorem dX9_digest_86 : decode cX9_digest 86 = .ok (.arraylength, 1) := by decide +kernel
theorem dX9_digest_87 : decode cX9_digest 87 = .ok (.if_icmp .ge 21, 3) := by decide +kernel
theorem dX9_digest_90 : decode cX9_digest 90 = .ok (.aload_n 2, 1) := by decide +kernel
theorem dX9_digest_91 : decode cX9_digest 91 = .ok (.aload_n 0, 1) := by decide +kernel
theorem dX9_digest_92 : decode cX9_digest 92 = .ok (.getfield 13, 3) := by decide +kernel
theorem dX9_digest_95 : decode cX9_digest 95 = .ok (.iload 4, 2) := by decide +kernel
theorem dX9_digest_97 : decode cX9_digest 97 = .ok (.iaload, 1) := by decide +kernel
theorem dX9_digest_98 : decode cX9_digest 98 = .ok (.iconst 4, 1) := by decide +kernel
theorem dX9_digest_99 : decode cX9_digest 99 = .ok (.invokevirtual 38, 3) := by decide +kernel
theorem dX9_digest_102 : decode cX9_digest 102 = .ok (.iinc 4 1, 3) := by decide +kernel
theorem dX9_digest_105 : decode cX9_digest 105 = .ok (.goto (-25), 3) := by decide +kernel
theorem dX9_digest_108 : decode cX9_digest 108 = .ok (.return_, 1) := by decide +kernel
theorem dX9_load_0 : decode cX9_load 0 = .ok (.iconst 0, 1) := by decide +kernel
theorem dX9_load_1 : decode cX9_load 1 = .ok (.istore 4, 2) := by decide +kernel
theorem dX9_load_3 : decode cX9_load 3 = .ok (.iload 4, 2) := by decide +kernel
theorem dX9_load_5 : decode cX9_load 5 = .ok (.bipush 16, 2) := by decide +kernel
theorem dX9_load_7 : decode cX9_load 7 = .ok (.if_icmp .ge 94, 3) := by decide +kernel
theorem dX9_load_10 : decode cX9_load 10 = .ok (.iconst 0, 1) := by decide +kernel
theorem dX9_load_11 : decode cX9_load 11 = .ok (.istore 5, 2) := by decide +kernel
theorem dX9_load_13 : decode cX9_load 13 = .ok (.iconst 0, 1) := by decide +kernel
theorem dX9_load_14 : decode cX9_load 14 = .ok (.istore 6, 2) := by decide +kernel
theorem dX9_load_16 : decode cX9_load 16 = .ok (.iload 6, 2) := by decide +kernel
theorem dX9_load_18 : decode cX9_load 18 = .ok (.iconst 4, 1) := by decide +kernel
theorem dX9_load_19 : decode cX9_load 19 = .ok (.if_icmp .ge 67, 3) := by decide +kernel
theorem dX9_load_22 : decode cX9_load 22 = .ok (.iload_n 2, 1) := by decide +kernel
theorem dX9_load_23 : decode cX9_load 23 = .ok (.iconst 4, 1) := by decide +kernel
theorem dX9_load_24 : decode cX9_load 24 = .ok (.iload 4, 2) := by decide +kernel
theorem dX9_load_26 : decode cX9_load 26 = .ok (.imul, 1) := by decide +kernel
theorem dX9_load_27 : decode cX9_load 27 = .ok (.iadd, 1) := by decide +kernel
theorem dX9_load_28 : decode cX9_load 28 = .ok (.iload 6, 2) := by decide +kernel
theorem dX9_load_30 : decode cX9_load 30 = .ok (.iadd, 1) := by decide +kernel
theorem dX9_load_31 : decode cX9_load 31 = .ok (.istore 7, 2) := by decide +kernel
theorem dX9_load_33 : decode cX9_load 33 = .ok (.iload 7, 2) := by decide +kernel
theorem dX9_load_35 : decode cX9_load 35 = .ok (.aload_n 1, 1) := by decide +kernel
theorem dX9_load_36 : decode cX9_load 36 = .ok (.getfield 22, 3) := by decide +kernel
theorem dX9_load_39 : decode cX9_load 39 = .ok (.if_icmp .ge 13, 3) := by decide +kernel
theorem dX9_load_42 : decode cX9_load 42 = .ok (.aload_n 1, 1) := by decide +kernel
theorem dX9_load_43 : decode cX9_load 43 = .ok (.getfield 42, 3) := by decide +kernel
theorem dX9_load_46 : decode cX9_load 46 = .ok (.iload 7, 2) := by decide +kernel
theorem dX9_load_48 : decode cX9_load 48 = .ok (.iaload, 1) := by decide +kernel
theorem dX9_load_49 : decode cX9_load 49 = .ok (.goto 19, 3) := by decide +kernel
theorem dX9_load_52 : decode cX9_load 52 = .ok (.iload 7, 2) := by decide +kernel
theorem dX9_load_54 : decode cX9_load 54 = .ok (.aload_n 1, 1) := by decide +kernel
theorem dX9_load_55 : decode cX9_load 55 = .ok (.getfield 22, 3) := by decide +kernel
theorem dX9_load_58 : decode cX9_load 58 = .ok (.if_icmp .ne 9, 3) := by decide +kernel
theorem dX9_load_61 : decode cX9_load 61 = .ok (.sipush 128, 3) := by decide +kernel
theorem dX9_load_64 : decode cX9_load 64 = .ok (.goto 4, 3) := by decide +kernel
theorem dX9_load_67 : decode cX9_load 67 = .ok (.iconst 0, 1) := by decide +kernel
theorem dX9_load_68 : decode cX9_load 68 = .ok (.istore 8, 2) := by decide +kernel
theorem dX9_load_70 : decode cX9_load 70 = .ok (.iload 5, 2) := by decide +kernel
theorem dX9_load_72 : decode cX9_load 72 = .ok (.bipush 8, 2) := by decide +kernel
theorem dX9_load_74 : decode cX9_load 74 = .ok (.ishl, 1) := by decide +kernel
theorem dX9_load_75 : decode cX9_load 75 = .ok (.iload 8, 2) := by decide +kernel
theorem dX9_load_77 : decode cX9_load 77 = .ok (.ior, 1) := by decide +kernel
theorem dX9_load_78 : decode cX9_load 78 = .ok (.istore 5, 2) := by decide +kernel
theorem dX9_load_80 : decode cX9_load 80 = .ok (.iinc 6 1, 3) := by decide +kernel
theorem dX9_load_83 : decode cX9_load 83 = .ok (.goto (-67), 3) := by decide +kernel
theorem dX9_load_86 : decode cX9_load 86 = .ok (.aload_n 0, 1) := by decide +kernel
theorem dX9_load_87 : decode cX9_load 87 = .ok (.getfield 19, 3) := by decide +kernel
theorem dX9_load_90 : decode cX9_load 90 = .ok (.iload 4, 2) := by decide +kernel
theorem dX9_load_92 : decode cX9_load 92 = .ok (.iload 5, 2) := by decide +kernel
theorem dX9_load_94 : decode cX9_load 94 = .ok (.iastore, 1) := by decide +kernel
theorem dX9_load_95 : decode cX9_load 95 = .ok (.iinc 4 1, 3) := by decide +kernel
theorem dX9_load_98 : decode cX9_load 98 = .ok (.goto (-95), 3) := by decide +kernel
theorem dX9_load_101 : decode cX9_load 101 = .ok (.iload_n 2, 1) := by decide +kernel
theorem dX9_load_102 : decode cX9_load 102 = .ok (.bipush 64, 2) := by decide +kernel
theorem dX9_load_104 : decode cX9_load 104 = .ok (.iadd, 1) := by decide +kernel
theorem dX9_load_105 : decode cX9_load 105 = .ok (.iload_n 3, 1) := by decide +kernel
theorem dX9_load_106 : decode cX9_load 106 = .ok (.if_icmp .ne 17, 3) := by decide +kernel
theorem dX9_load_109 : decode cX9_load 109 = .ok (.aload_n 0, 1) := by decide +kernel
theorem dX9_load_110 : decode cX9_load 110 = .ok (.getfield 19, 3) := by decide +kernel
theorem dX9_load_113 : decode cX9_load 113 = .ok (.bipush 15, 2) := by decide +kernel
theorem dX9_load_115 : decode cX9_load 115 = .ok (.bipush 8, 2) := by decide +kernel
theorem dX9_load_117 : decode cX9_load 117 = .ok (.aload_n 1, 1) := by decide +kernel
theorem dX9_load_118 : decode cX9_load 118 = .ok (.getfield 22, 3) := by decide +kernel
theorem dX9_load_121 : decode cX9_load 121 = .ok (.imul, 1) := by decide +kernel
theorem dX9_load_122 : decode cX9_load 122 = .ok (.iastore, 1) := by decide +kernel
theorem dX9_load_123 : decode cX9_load 123 = .ok (.return_, 1) := by decide +kernel
theorem dX9_compress_0 : decode cX9_compress 0 = .ok (.bipush 16, 2) := by decide +kernel
theorem dX9_compress_2 : decode cX9_compress 2 = .ok (.istore_n 1, 1) := by decide +kernel
theorem dX9_compress_3 : decode cX9_compress 3 = .ok (.iload_n 1, 1) := by decide +kernel
theorem dX9_compress_4 : decode cX9_compress 4 = .ok (.aload_n 0, 1) := by decide +kernel
theorem dX9_compress_5 : decode cX9_compress 5 = .ok (.getfield 19, 3) := by decide +kernel
theorem dX9_compress_8 : decode cX9_compress 8 = .ok (.arraylength, 1) := by decide +kernel
theorem dX9_compress_9 : decode cX9_compress 9 = .ok (.if_icmp .ge 110, 3) := by decide +kernel
theorem dX9_compress_12 : decode cX9_compress 12 = .ok (.aload_n 0, 1) := by decide +kernel
theorem dX9_compress_13 : decode cX9_compress 13 = .ok (.getfield 19, 3) := by decide +kernel
theorem dX9_compress_16 : decode cX9_compress 16 = .ok (.iload_n 1, 1) := by decide +kernel
theorem dX9_compress_17 : decode cX9_compress 17 = .ok (.bipush 15, 2) := by decide +kernel
theorem dX9_compress_19 : decode cX9_compress 19 = .ok (.isub, 1) := by decide +kernel
theorem dX9_compress_20 : decode cX9_compress 20 = .ok (.iaload, 1) := by decide +kernel
theorem dX9_compress_21 : decode cX9_compress 21 = .ok (.istore_n 2, 1) := by decide +kernel
theorem dX9_compress_22 : decode cX9_compress 22 = .ok (.aload_n 0, 1) := by decide +kernel
theorem dX9_compress_23 : decode cX9_compress 23 = .ok (.getfield 19, 3) := by decide +kernel
theorem dX9_compress_26 : decode cX9_compress 26 = .ok (.iload_n 1, 1) := by decide +kernel
theorem dX9_compress_27 : decode cX9_compress 27 = .ok (.iconst 2, 1) := by decide +kernel
theorem dX9_compress_28 : decode cX9_compress 28 = .ok (.isub, 1) := by decide +kernel
theorem dX9_compress_29 : decode cX9_compress 29 = .ok (.iaload, 1) := by decide +kernel
theorem dX9_compress_30 : decode cX9_compress 30 = .ok (.istore_n 3, 1) := by decide +kernel
theorem dX9_compress_31 : decode cX9_compress 31 = .ok (.iload_n 2, 1) := by decide +kernel
theorem dX9_compress_32 : decode cX9_compress 32 = .ok (.bipush 7, 2) := by decide +kernel
theorem dX9_compress_34 : decode cX9_compress 34 = .ok (.iushr, 1) := by decide +kernel
theorem dX9_compress_35 : decode cX9_compress 35 = .ok (.iload_n 2, 1) := by decide +kernel
theorem dX9_compress_36 : decode cX9_compress 36 = .ok (.bipush 25, 2) := by decide +kernel
theorem dX9_compress_38 : decode cX9_compress 38 = .ok (.ishl, 1) := by decide +kernel
theorem dX9_compress_39 : decode cX9_compress 39 = .ok (.ior, 1) := by decide +kernel
theorem dX9_compress_40 : decode cX9_compress 40 = .ok (.iload_n 2, 1) := by decide +kernel
theorem dX9_compress_41 : decode cX9_compress 41 = .ok (.bipush 18, 2) := by decide +kernel
theorem dX9_compress_43 : decode cX9_compress 43 = .ok (.iushr, 1) := by decide +kernel
theorem dX9_compress_44 : decode cX9_compress 44 = .ok (.iload_n 2, 1) := by decide +kernel
theorem dX9_compress_45 : decode cX9_compress 45 = .ok (.bipush 14, 2) := by decide +kernel
theorem dX9_compress_47 : decode cX9_compress 47 = .ok (.ishl, 1) := by decide +kernel
theorem dX9_compress_48 : decode cX9_compress 48 = .ok (.ior, 1) := by decide +kernel
theorem dX9_compress_49 : decode cX9_compress 49 = .ok (.ixor, 1) := by decide +kernel
theorem dX9_compress_50 : decode cX9_compress 50 = .ok (.iload_n 2, 1) := by decide +kernel
theorem dX9_compress_51 : decode cX9_compress 51 = .ok (.iconst 3, 1) := by decide +kernel
theorem dX9_compress_52 : decode cX9_compress 52 = .ok (.iushr, 1) := by decide +kernel
theorem dX9_compress_53 : decode cX9_compress 53 = .ok (.ixor, 1) := by decide +kernel
theorem dX9_compress_54 : decode cX9_compress 54 = .ok (.istore 4, 2) := by decide +kernel
theorem dX9_compress_56 : decode cX9_compress 56 = .ok (.iload_n 3, 1) := by decide +kernel
theorem dX9_compress_57 : decode cX9_compress 57 = .ok (.bipush 17, 2) := by decide +kernel
theorem dX9_compress_59 : decode cX9_compress 59 = .ok (.iushr, 1) := by decide +kernel
theorem dX9_compress_60 : decode cX9_compress 60 = .ok (.iload_n 3, 1) := by decide +kernel
theorem dX9_compress_61 : decode cX9_compress 61 = .ok (.bipush 15, 2) := by decide +kernel
theorem dX9_compress_63 : decode cX9_compress 63 = .ok (.ishl, 1) := by decide +kernel
theorem dX9_compress_64 : decode cX9_compress 64 = .ok (.ior, 1) := by decide +kernel
theorem dX9_compress_65 : decode cX9_compress 65 = .ok (.iload_n 3, 1) := by decide +kernel
theorem dX9_compress_66 : decode cX9_compress 66 = .ok (.bipush 19, 2) := by decide +kernel
theorem dX9_compress_68 : decode cX9_compress 68 = .ok (.iushr, 1) := by decide +kernel
theorem dX9_compress_69 : decode cX9_compress 69 = .ok (.iload_n 3, 1) := by decide +kernel
theorem dX9_compress_70 : decode cX9_compress 70 = .ok (.bipush 13, 2) := by decide +kernel
theorem dX9_compress_72 : decode cX9_compress 72 = .ok (.ishl, 1) := by decide +kernel
theorem dX9_compress_73 : decode cX9_compress 73 = .ok (.ior, 1) := by decide +kernel
theorem dX9_compress_74 : decode cX9_compress 74 = .ok (.ixor, 1) := by decide +kernel
theorem dX9_compress_75 : decode cX9_compress 75 = .ok (.iload_n 3, 1) := by decide +kernel
theorem dX9_compress_76 : decode cX9_compress 76 = .ok (.bipush 10, 2) := by decide +kernel
theorem dX9_compress_78 : decode cX9_compress 78 = .ok (.iushr, 1) := by decide +kernel
theorem dX9_compress_79 : decode cX9_compress 79 = .ok (.ixor, 1) := by decide +kernel
theorem dX9_compress_80 : decode cX9_compress 80 = .ok (.istore 5, 2) := by decide +kernel
theorem dX9_compress_82 : decode cX9_compress 82 = .ok (.aload_n 0, 1) := by decide +kernel
theorem dX9_compress_83 : decode cX9_compress 83 = .ok (.getfield 19, 3) := by decide +kernel
theorem dX9_compress_86 : decode cX9_compress 86 = .ok (.iload_n 1, 1) := by decide +kernel
theorem dX9_compress_87 : decode cX9_compress 87 = .ok (.aload_n 0, 1) := by decide +kernel
theorem dX9_compress_88 : decode cX9_compress 88 = .ok (.getfield 19, 3) := by decide +kernel
theorem dX9_compress_91 : decode cX9_compress 91 = .ok (.iload_n 1, 1) := by decide +kernel
theorem dX9_compress_92 : decode cX9_compress 92 = .ok (.bipush 16, 2) := by decide +kernel
theorem dX9_compress_94 : decode cX9_compress 94 = .ok (.isub, 1) := by decide +kernel
theorem dX9_compress_95 : decode cX9_compress 95 = .ok (.iaload, 1) := by decide +kernel
theorem dX9_compress_96 : decode cX9_compress 96 = .ok (.iload 4, 2) := by decide +kernel
theorem dX9_compress_98 : decode cX9_compress 98 = .ok (.iadd, 1) := by decide +kernel
theorem dX9_compress_99 : decode cX9_compress 99 = .ok (.aload_n 0, 1) := by decide +kernel
theorem dX9_compress_100 : decode cX9_compress 100 = .ok (.getfield 19, 3) := by decide +kernel
theorem dX9_compress_103 : decode cX9_compress 103 = .ok (.iload_n 1, 1) := by decide +kernel
theorem dX9_compress_104 : decode cX9_compress 104 = .ok (.bipush 7, 2) := by decide +kernel
theorem dX9_compress_106 : decode cX9_compress 106 = .ok (.isub, 1) := by decide +kernel
theorem dX9_compress_107 : decode cX9_compress 107 = .ok (.iaload, 1) := by decide +kernel
theorem dX9_compress_108 : decode cX9_compress 108 = .ok (.iadd, 1) := by decide +kernel
theorem dX9_compress_109 : decode cX9_compress 109 = .ok (.iload 5, 2) := by decide +kernel
theorem dX9_compress_111 : decode cX9_compress 111 = .ok (.iadd, 1) := by decide +kernel
theorem dX9_compress_112 : decode cX9_compress 112 = .ok (.iastore, 1) := by decide +kernel
theorem dX9_compress_113 : decode cX9_compress 113 = .ok (.iinc 1 1, 3) := by decide +kernel
theorem dX9_compress_116 : decode cX9_compress 116 = .ok (.goto (-113), 3) := by decide +kernel
theorem dX9_compress_119 : decode cX9_compress 119 = .ok (.aload_n 0, 1) := by decide +kernel
theorem dX9_compress_120 : decode cX9_compress 120 = .ok (.getfield 13, 3) := by decide +kernel
theorem dX9_compress_123 : decode cX9_compress 123 = .ok (.iconst 0, 1) := by decide +kernel
theorem dX9_compress_124 : decode cX9_compress 124 = .ok (.iaload, 1) := by decide +kernel
theorem dX9_compress_125 : decode cX9_compress 125 = .ok (.istore_n 1, 1) := by decide +kernel
theorem dX9_compress_126 : decode cX9_compress 126 = .ok (.aload_n 0, 1) := by decide +kernel
theorem dX9_compress_127 : decode cX9_compress 127 = .ok (.getfield 13, 3) := by decide +kernel
theorem dX9_compress_130 : decode cX9_compress 130 = .ok (.iconst 1, 1) := by decide +kernel
theorem dX9_compress_131 : decode cX9_compress 131 = .ok (.iaload, 1) := by decide +kernel
theorem dX9_compress_132 : decode cX9_compress 132 = .ok (.istore_n 2, 1) := by decide +kernel
theorem dX9_compress_133 : decode cX9_compress 133 = .ok (.aload_n 0, 1) := by decide +kernel
theorem dX9_compress_134 : decode cX9_compress 134 = .ok (.getfield 13, 3) := by decide +kernel
theorem dX9_compress_137 : decode cX9_compress 137 = .ok (.iconst 2, 1) := by decide +kernel
theorem dX9_compress_138 : decode cX9_compress 138 = .ok (.iaload, 1) := by decide +kernel
theorem dX9_compress_139 : decode cX9_compress 139 = .ok (.istore_n 3, 1) := by decide +kernel
theorem dX9_compress_140 : decode cX9_compress 140 = .ok (.aload_n 0, 1) := by decide +kernel
theorem dX9_compress_141 : decode cX9_compress 141 = .ok (.getfield 13, 3) := by decide +kernel
theorem dX9_compress_144 : decode cX9_compress 144 = .ok (.iconst 3, 1) := by decide +kernel
theorem dX9_compress_145 : decode cX9_compress 145 = .ok (.iaload, 1) := by decide +kernel
theorem dX9_compress_146 : decode cX9_compress 146 = .ok (.istore 4, 2) := by decide +kernel
theorem dX9_compress_148 : decode cX9_compress 148 = .ok (.aload_n 0, 1) := by decide +kernel
theorem dX9_compress_149 : decode cX9_compress 149 = .ok (.getfield 13, 3) := by decide +kernel
theorem dX9_compress_152 : decode cX9_compress 152 = .ok (.iconst 4, 1) := by decide +kernel
theorem dX9_compress_153 : decode cX9_compress 153 = .ok (.iaload, 1) := by decide +kernel
theorem dX9_compress_154 : decode cX9_compress 154 = .ok (.istore 5, 2) := by decide +kernel
theorem dX9_compress_156 : decode cX9_compress 156 = .ok (.aload_n 0, 1) := by decide +kernel
theorem dX9_compress_157 : decode cX9_compress 157 = .ok (.getfield 13, 3) := by decide +kernel
theorem dX9_compress_160 : decode cX9_compress 160 = .ok (.iconst 5, 1) := by decide +kernel
theorem dX9_compress_161 : decode cX9_compress 161 = .ok (.iaload, 1) := by decide +kernel
theorem dX9_compress_162 : decode cX9_compress 162 = .ok (.istore 6, 2) := by decide +kernel
theorem dX9_compress_164 : decode cX9_compress 164 = .ok (.aload_n 0, 1) := by decide +kernel
theorem dX9_compress_165 : decode cX9_compress 165 = .ok (.getfield 13, 3) := by decide +kernel
theorem dX9_compress_168 : decode cX9_compress 168 = .ok (.bipush 6, 2) := by decide +kernel
theorem dX9_compress_170 : decode cX9_compress 170 = .ok (.iaload, 1) := by decide +kernel
theorem dX9_compress_171 : decode cX9_compress 171 = .ok (.istore 7, 2) := by decide +kernel
theorem dX9_compress_173 : decode cX9_compress 173 = .ok (.aload_n 0, 1) := by decide +kernel
theorem dX9_compress_174 : decode cX9_compress 174 = .ok (.getfield 13, 3) := by decide +kernel
theorem dX9_compress_177 : decode cX9_compress 177 = .ok (.bipush 7, 2) := by decide +kernel
theorem dX9_compress_179 : decode cX9_compress 179 = .ok (.iaload, 1) := by decide +kernel
theorem dX9_compress_180 : decode cX9_compress 180 = .ok (.istore 8, 2) := by decide +kernel
theorem dX9_compress_182 : decode cX9_compress 182 = .ok (.iconst 0, 1) := by decide +kernel
theorem dX9_compress_183 : decode cX9_compress 183 = .ok (.istore 9, 2) := by decide +kernel
theorem dX9_compress_185 : decode cX9_compress 185 = .ok (.iload 9, 2) := by decide +kernel
theorem dX9_compress_187 : decode cX9_compress 187 = .ok (.aload_n 0, 1) := by decide +kernel
theorem dX9_compress_188 : decode cX9_compress 188 = .ok (.getfield 19, 3) := by decide +kernel
theorem dX9_compress_191 : decode cX9_compress 191 = .ok (.arraylength, 1) := by decide +kernel
theorem dX9_compress_192 : decode cX9_compress 192 = .ok (.if_icmp .ge 160, 3) := by decide +kernel
theorem dX9_compress_195 : decode cX9_compress 195 = .ok (.iload 5, 2) := by decide +kernel
theorem dX9_compress_197 : decode cX9_compress 197 = .ok (.bipush 6, 2) := by decide +kernel
theorem dX9_compress_199 : decode cX9_compress 199 = .ok (.iushr, 1) := by decide +kernel
theorem dX9_compress_200 : decode cX9_compress 200 = .ok (.iload 5, 2) := by decide +kernel
theorem dX9_compress_202 : decode cX9_compress 202 = .ok (.bipush 26, 2) := by decide +kernel
theorem dX9_compress_204 : decode cX9_compress 204 = .ok (.ishl, 1) := by decide +kernel
theorem dX9_compress_205 : decode cX9_compress 205 = .ok (.ior, 1) := by decide +kernel
theorem dX9_compress_206 : decode cX9_compress 206 = .ok (.iload 5, 2) := by decide +kernel
theorem dX9_compress_208 : decode cX9_compress 208 = .ok (.bipush 11, 2) := by decide +kernel
theorem dX9_compress_210 : decode cX9_compress 210 = .ok (.iushr, 1) := by decide +kernel
theorem dX9_compress_211 : decode cX9_compress 211 = .ok (.iload 5, 2) := by decide +kernel
theorem dX9_compress_213 : decode cX9_compress 213 = .ok (.bipush 21, 2) := by decide +kernel
theorem dX9_compress_215 : decode cX9_compress 215 = .ok (.ishl, 1) := by decide +kernel
theorem dX9_compress_216 : decode cX9_compress 216 = .ok (.ior, 1) := by decide +kernel
theorem dX9_compress_217 : decode cX9_compress 217 = .ok (.ixor, 1) := by decide +kernel
theorem dX9_compress_218 : decode cX9_compress 218 = .ok (.iload 5, 2) := by decide +kernel
theorem dX9_compress_220 : decode cX9_compress 220 = .ok (.bipush 25, 2) := by decide +kernel
theorem dX9_compress_222 : decode cX9_compress 222 = .ok (.iushr, 1) := by decide +kernel
theorem dX9_compress_223 : decode cX9_compress 223 = .ok (.iload 5, 2) := by decide +kernel
theorem dX9_compress_225 : decode cX9_compress 225 = .ok (.bipush 7, 2) := by decide +kernel
theorem dX9_compress_227 : decode cX9_compress 227 = .ok (.ishl, 1) := by decide +kernel
theorem dX9_compress_228 : decode cX9_compress 228 = .ok (.ior, 1) := by decide +kernel
theorem dX9_compress_229 : decode cX9_compress 229 = .ok (.ixor, 1) := by decide +kernel
theorem dX9_compress_230 : decode cX9_compress 230 = .ok (.istore 10, 2) := by decide +kernel
theorem dX9_compress_232 : decode cX9_compress 232 = .ok (.iload_n 1, 1) := by decide +kernel
theorem dX9_compress_233 : decode cX9_compress 233 = .ok (.iconst 2, 1) := by decide +kernel
theorem dX9_compress_234 : decode cX9_compress 234 = .ok (.iushr, 1) := by decide +kernel
theorem dX9_compress_235 : decode cX9_compress 235 = .ok (.iload_n 1, 1) := by decide +kernel
theorem dX9_compress_236 : decode cX9_compress 236 = .ok (.bipush 30, 2) := by decide +kernel
theorem dX9_compress_238 : decode cX9_compress 238 = .ok (.ishl, 1) := by decide +kernel
theorem dX9_compress_239 : decode cX9_compress 239 = .ok (.ior, 1) := by decide +kernel
theorem dX9_compress_240 : decode cX9_compress 240 = .ok (.iload_n 1, 1) := by decide +kernel
theorem dX9_compress_241 : decode cX9_compress 241 = .ok (.bipush 13, 2) := by decide +kernel
theorem dX9_compress_243 : decode cX9_compress 243 = .ok (.iushr, 1) := by decide +kernel
theorem dX9_compress_244 : decode cX9_compress 244 = .ok (.iload_n 1, 1) := by decide +kernel
theorem dX9_compress_245 : decode cX9_compress 245 = .ok (.bipush 19, 2) := by decide +kernel
theorem dX9_compress_247 : decode cX9_compress 247 = .ok (.ishl, 1) := by decide +kernel
theorem dX9_compress_248 : decode cX9_compress 248 = .ok (.ior, 1) := by decide +kernel
theorem dX9_compress_249 : decode cX9_compress 249 = .ok (.ixor, 1) := by decide +kernel
theorem dX9_compress_250 : decode cX9_compress 250 = .ok (.iload_n 1, 1) := by decide +kernel
theorem dX9_compress_251 : decode cX9_compress 251 = .ok (.bipush 22, 2) := by decide +kernel
theorem dX9_compress_253 : decode cX9_compress 253 = .ok (.iushr, 1) := by decide +kernel
theorem dX9_compress_254 : decode cX9_compress 254 = .ok (.iload_n 1, 1) := by decide +kernel
theorem dX9_compress_255 : decode cX9_compress 255 = .ok (.bipush 10, 2) := by decide +kernel
theorem dX9_compress_257 : decode cX9_compress 257 = .ok (.ishl, 1) := by decide +kernel
theorem dX9_compress_258 : decode cX9_compress 258 = .ok (.ior, 1) := by decide +kernel
theorem dX9_compress_259 : decode cX9_compress 259 = .ok (.ixor, 1) := by decide +kernel
theorem dX9_compress_260 : decode cX9_compress 260 = .ok (.istore 11, 2) := by decide +kernel
theorem dX9_compress_262 : decode cX9_compress 262 = .ok (.iload 8, 2) := by decide +kernel
theorem dX9_compress_264 : decode cX9_compress 264 = .ok (.iload 10, 2) := by decide +kernel
theorem dX9_compress_266 : decode cX9_compress 266 = .ok (.iadd, 1) := by decide +kernel
theorem dX9_compress_267 : decode cX9_compress 267 = .ok (.iload 5, 2) := by decide +kernel
theorem dX9_compress_269 : decode cX9_compress 269 = .ok (.iload 6, 2) := by decide +kernel
theorem dX9_compress_271 : decode cX9_compress 271 = .ok (.iand, 1) := by decide +kernel
theorem dX9_compress_272 : decode cX9_compress 272 = .ok (.iload 5, 2) := by decide +kernel
theorem dX9_compress_274 : decode cX9_compress 274 = .ok (.iconst (-1), 1) := by decide +kernel
theorem dX9_compress_275 : decode cX9_compress 275 = .ok (.ixor, 1) := by decide +kernel
theorem dX9_compress_276 : decode cX9_compress 276 = .ok (.iload 7, 2) := by decide +kernel
theorem dX9_compress_278 : decode cX9_compress 278 = .ok (.iand, 1) := by decide +kernel
theorem dX9_compress_279 : decode cX9_compress 279 = .ok (.ixor, 1) := by decide +kernel
theorem dX9_compress_280 : decode cX9_compress 280 = .ok (.iadd, 1) := by decide +kernel
theorem dX9_compress_281 : decode cX9_compress 281 = .ok (.getstatic 16, 3) := by decide +kernel
theorem dX9_compress_284 : decode cX9_compress 284 = .ok (.iload 9, 2) := by decide +kernel
theorem dX9_compress_286 : decode cX9_compress 286 = .ok (.iaload, 1) := by decide +kernel
theorem dX9_compress_287 : decode cX9_compress 287 = .ok (.iadd, 1) := by decide +kernel
theorem dX9_compress_288 : decode cX9_compress 288 = .ok (.aload_n 0, 1) := by decide +kernel
theorem dX9_compress_289 : decode cX9_compress 289 = .ok (.getfield 19, 3) := by decide +kernel
theorem dX9_compress_292 : decode cX9_compress 292 = .ok (.iload 9, 2) := by decide +kernel
theorem dX9_compress_294 : decode cX9_compress 294 = .ok (.iaload, 1) := by decide +kernel
theorem dX9_compress_295 : decode cX9_compress 295 = .ok (.iadd, 1) := by decide +kernel
theorem dX9_compress_296 : decode cX9_compress 296 = .ok (.istore 12, 2) := by decide +kernel
theorem dX9_compress_298 : decode cX9_compress 298 = .ok (.iload 11, 2) := by decide +kernel
theorem dX9_compress_300 : decode cX9_compress 300 = .ok (.iload_n 1, 1) := by decide +kernel
theorem dX9_compress_301 : decode cX9_compress 301 = .ok (.iload_n 2, 1) := by decide +kernel
theorem dX9_compress_302 : decode cX9_compress 302 = .ok (.iand, 1) := by decide +kernel
theorem dX9_compress_303 : decode cX9_compress 303 = .ok (.iload_n 1, 1) := by decide +kernel
theorem dX9_compress_304 : decode cX9_compress 304 = .ok (.iload_n 3, 1) := by decide +kernel
theorem dX9_compress_305 : decode cX9_compress 305 = .ok (.iand, 1) := by decide +kernel
theorem dX9_compress_306 : decode cX9_compress 306 = .ok (.ixor, 1) := by decide +kernel
theorem dX9_compress_307 : decode cX9_compress 307 = .ok (.iload_n 2, 1) := by decide +kernel
theorem dX9_compress_308 : decode cX9_compress 308 = .ok (.iload_n 3, 1) := by decide +kernel
theorem dX9_compress_309 : decode cX9_compress 309 = .ok (.iand, 1) := by decide +kernel
theorem dX9_compress_310 : decode cX9_compress 310 = .ok (.ixor, 1) := by decide +kernel
theorem dX9_compress_311 : decode cX9_compress 311 = .ok (.iadd, 1) := by decide +kernel
theorem dX9_compress_312 : decode cX9_compress 312 = .ok (.istore 13, 2) := by decide +kernel
theorem dX9_compress_314 : decode cX9_compress 314 = .ok (.iload 7, 2) := by decide +kernel
theorem dX9_compress_316 : decode cX9_compress 316 = .ok (.istore 8, 2) := by decide +kernel
theorem dX9_compress_318 : decode cX9_compress 318 = .ok (.iload 6, 2) := by decide +kernel
theorem dX9_compress_320 : decode cX9_compress 320 = .ok (.istore 7, 2) := by decide +kernel
theorem dX9_compress_322 : decode cX9_compress 322 = .ok (.iload 5, 2) := by decide +kernel
theorem dX9_compress_324 : decode cX9_compress 324 = .ok (.istore 6, 2) := by decide +kernel
theorem dX9_compress_326 : decode cX9_compress 326 = .ok (.iload 4, 2) := by decide +kernel
theorem dX9_compress_328 : decode cX9_compress 328 = .ok (.iload 12, 2) := by decide +kernel
theorem dX9_compress_330 : decode cX9_compress 330 = .ok (.iadd, 1) := by decide +kernel
theorem dX9_compress_331 : decode cX9_compress 331 = .ok (.istore 5, 2) := by decide +kernel
theorem dX9_compress_333 : decode cX9_compress 333 = .ok (.iload_n 3, 1) := by decide +kernel
theorem dX9_compress_334 : decode cX9_compress 334 = .ok (.istore 4, 2) := by decide +kernel
theorem dX9_compress_336 : decode cX9_compress 336 = .ok (.iload_n 2, 1) := by decide +kernel
theorem dX9_compress_337 : decode cX9_compress 337 = .ok (.istore_n 3, 1) := by decide +kernel
theorem dX9_compress_338 : decode cX9_compress 338 = .ok (.iload_n 1, 1) := by decide +kernel
theorem dX9_compress_339 : decode cX9_compress 339 = .ok (.istore_n 2, 1) := by decide +kernel
theorem dX9_compress_340 : decode cX9_compress 340 = .ok (.iload 12, 2) := by decide +kernel
theorem dX9_compress_342 : decode cX9_compress 342 = .ok (.iload 13, 2) := by decide +kernel
theorem dX9_compress_344 : decode cX9_compress 344 = .ok (.iadd, 1) := by decide +kernel
theorem dX9_compress_345 : decode cX9_compress 345 = .ok (.istore_n 1, 1) := by decide +kernel
theorem dX9_compress_346 : decode cX9_compress 346 = .ok (.iinc 9 1, 3) := by decide +kernel
theorem dX9_compress_349 : decode cX9_compress 349 = .ok (.goto (-164), 3) := by decide +kernel
theorem dX9_compress_352 : decode cX9_compress 352 = .ok (.aload_n 0, 1) := by decide +kernel
theorem dX9_compress_353 : decode cX9_compress 353 = .ok (.getfield 13, 3) := by decide +kernel
theorem dX9_compress_356 : decode cX9_compress 356 = .ok (.iconst 0, 1) := by decide +kernel
theorem dX9_compress_357 : decode cX9_compress 357 = .ok (.dup2, 1) := by decide +kernel
theorem dX9_compress_358 : decode cX9_compress 358 = .ok (.iaload, 1) := by decide +kernel
theorem dX9_compress_359 : decode cX9_compress 359 = .ok (.iload_n 1, 1) := by decide +kernel
theorem dX9_compress_360 : decode cX9_compress 360 = .ok (.iadd, 1) := by decide +kernel
theorem dX9_compress_361 : decode cX9_compress 361 = .ok (.iastore, 1) := by decide +kernel
theorem dX9_compress_362 : decode cX9_compress 362 = .ok (.aload_n 0, 1) := by decide +kernel
theorem dX9_compress_363 : decode cX9_compress 363 = .ok (.getfield 13, 3) := by decide +kernel
theorem dX9_compress_366 : decode cX9_compress 366 = .ok (.iconst 1, 1) := by decide +kernel
theorem dX9_compress_367 : decode cX9_compress 367 = .ok (.dup2, 1) := by decide +kernel
theorem dX9_compress_368 : decode cX9_compress 368 = .ok (.iaload, 1) := by decide +kernel
theorem dX9_compress_369 : decode cX9_compress 369 = .ok (.iload_n 2, 1) := by decide +kernel
theorem dX9_compress_370 : decode cX9_compress 370 = .ok (.iadd, 1) := by decide +kernel
theorem dX9_compress_371 : decode cX9_compress 371 = .ok (.iastore, 1) := by decide +kernel
theorem dX9_compress_372 : decode cX9_compress 372 = .ok (.aload_n 0, 1) := by decide +kernel
theorem dX9_compress_373 : decode cX9_compress 373 = .ok (.getfield 13, 3) := by decide +kernel
theorem dX9_compress_376 : decode cX9_compress 376 = .ok (.iconst 2, 1) := by decide +kernel
theorem dX9_compress_377 : decode cX9_compress 377 = .ok (.dup2, 1) := by decide +kernel
theorem dX9_compress_378 : decode cX9_compress 378 = .ok (.iaload, 1) := by decide +kernel
theorem dX9_compress_379 : decode cX9_compress 379 = .ok (.iload_n 3, 1) := by decide +kernel
theorem dX9_compress_380 : decode cX9_compress 380 = .ok (.iadd, 1) := by decide +kernel
theorem dX9_compress_381 : decode cX9_compress 381 = .ok (.iastore, 1) := by decide +kernel
theorem dX9_compress_382 : decode cX9_compress 382 = .ok (.aload_n 0, 1) := by decide +kernel
theorem dX9_compress_383 : decode cX9_compress 383 = .ok (.getfield 13, 3) := by decide +kernel
theorem dX9_compress_386 : decode cX9_compress 386 = .ok (.iconst 3, 1) := by decide +kernel
theorem dX9_compress_387 : decode cX9_compress 387 = .ok (.dup2, 1) := by decide +kernel
theorem dX9_compress_388 : decode cX9_compress 388 = .ok (.iaload, 1) := by decide +kernel
theorem dX9_compress_389 : decode cX9_compress 389 = .ok (.iload 4, 2) := by decide +kernel
theorem dX9_compress_391 : decode cX9_compress 391 = .ok (.iadd, 1) := by decide +kernel
theorem dX9_compress_392 : decode cX9_compress 392 = .ok (.iastore, 1) := by decide +kernel
theorem dX9_compress_393 : decode cX9_compress 393 = .ok (.aload_n 0, 1) := by decide +kernel
theorem dX9_compress_394 : decode cX9_compress 394 = .ok (.getfield 13, 3) := by decide +kernel
theorem dX9_compress_397 : decode cX9_compress 397 = .ok (.iconst 4, 1) := by decide +kernel
theorem dX9_compress_398 : decode cX9_compress 398 = .ok (.dup2, 1) := by decide +kernel
theorem dX9_compress_399 : decode cX9_compress 399 = .ok (.iaload, 1) := by decide +kernel
theorem dX9_compress_400 : decode cX9_compress 400 = .ok (.iload 5, 2) := by decide +kernel
theorem dX9_compress_402 : decode cX9_compress 402 = .ok (.iadd, 1) := by decide +kernel
theorem dX9_compress_403 : decode cX9_compress 403 = .ok (.iastore, 1) := by decide +kernel
theorem dX9_compress_404 : decode cX9_compress 404 = .ok (.aload_n 0, 1) := by decide +kernel
theorem dX9_compress_405 : decode cX9_compress 405 = .ok (.getfield 13, 3) := by decide +kernel
theorem dX9_compress_408 : decode cX9_compress 408 = .ok (.iconst 5, 1) := by decide +kernel
theorem dX9_compress_409 : decode cX9_compress 409 = .ok (.dup2, 1) := by decide +kernel
theorem dX9_compress_410 : decode cX9_compress 410 = .ok (.iaload, 1) := by decide +kernel
theorem dX9_compress_411 : decode cX9_compress 411 = .ok (.iload 6, 2) := by decide +kernel
theorem dX9_compress_413 : decode cX9_compress 413 = .ok (.iadd, 1) := by decide +kernel
theorem dX9_compress_414 : decode cX9_compress 414 = .ok (.iastore, 1) := by decide +kernel
theorem dX9_compress_415 : decode cX9_compress 415 = .ok (.aload_n 0, 1) := by decide +kernel
theorem dX9_compress_416 : decode cX9_compress 416 = .ok (.getfield 13, 3) := by decide +kernel
theorem dX9_compress_419 : decode cX9_compress 419 = .ok (.bipush 6, 2) := by decide +kernel
theorem dX9_compress_421 : decode cX9_compress 421 = .ok (.dup2, 1) := by decide +kernel
theorem dX9_compress_422 : decode cX9_compress 422 = .ok (.iaload, 1) := by decide +kernel
theorem dX9_compress_423 : decode cX9_compress 423 = .ok (.iload 7, 2) := by decide +kernel
theorem dX9_compress_425 : decode cX9_compress 425 = .ok (.iadd, 1) := by decide +kernel
theorem dX9_compress_426 : decode cX9_compress 426 = .ok (.iastore, 1) := by decide +kernel
theorem dX9_compress_427 : decode cX9_compress 427 = .ok (.aload_n 0, 1) := by decide +kernel
theorem dX9_compress_428 : decode cX9_compress 428 = .ok (.getfield 13, 3) := by decide +kernel
theorem dX9_compress_431 : decode cX9_compress 431 = .ok (.bipush 7, 2) := by decide +kernel
theorem dX9_compress_433 : decode cX9_compress 433 = .ok (.dup2, 1) := by decide +kernel
theorem dX9_compress_434 : decode cX9_compress 434 = .ok (.iaload, 1) := by decide +kernel
theorem dX9_compress_435 : decode cX9_compress 435 = .ok (.iload 8, 2) := by decide +kernel
theorem dX9_compress_437 : decode cX9_compress 437 = .ok (.iadd, 1) := by decide +kernel
theorem dX9_compress_438 : decode cX9_compress 438 = .ok (.iastore, 1) := by decide +kernel
theorem dX9_compress_439 : decode cX9_compress 439 = .ok (.return_, 1) := by decide +kernel
theorem dX10_init_0 : decode cX10_init 0 = .ok (.aload_n 0, 1) := by decide +kernel
theorem dX10_init_1 : decode cX10_init 1 = .ok (.invokespecial 3, 3) := by decide +kernel
theorem dX10_init_4 : decode cX10_init 4 = .ok (.aload_n 0, 1) := by decide +kernel
theorem dX10_init_5 : decode cX10_init 5 = .ok (.new 9, 3) := by decide +kernel
theorem dX10_init_8 : decode cX10_init 8 = .ok (.dup, 1) := by decide +kernel
theorem dX10_init_9 : decode cX10_init 9 = .ok (.invokespecial 11, 3) := by decide +kernel
theorem dX10_init_12 : decode cX10_init 12 = .ok (.putfield 12, 3) := by decide +kernel
theorem dX10_init_15 : decode cX10_init 15 = .ok (.aload_n 0, 1) := by decide +kernel
theorem dX10_init_16 : decode cX10_init 16 = .ok (.new 18, 3) := by decide +kernel
theorem dX10_init_19 : decode cX10_init 19 = .ok (.dup, 1) := by decide +kernel
theorem dX10_init_20 : decode cX10_init 20 = .ok (.aload_n 0, 1) := by decide +kernel
theorem dX10_init_21 : decode cX10_init 21 = .ok (.getfield 12, 3) := by decide +kernel
theorem dX10_init_24 : decode cX10_init 24 = .ok (.invokespecial 20, 3) := by decide +kernel
theorem dX10_init_27 : decode cX10_init 27 = .ok (.putfield 23, 3) := by decide +kernel
theorem dX10_init_30 : decode cX10_init 30 = .ok (.aload_n 0, 1) := by decide +kernel
theorem dX10_init_31 : decode cX10_init 31 = .ok (.new 27, 3) := by decide +kernel
theorem dX10_init_34 : decode cX10_init 34 = .ok (.dup, 1) := by decide +kernel
theorem dX10_init_35 : decode cX10_init 35 = .ok (.invokespecial 29, 3) := by decide +kernel
theorem dX10_init_38 : decode cX10_init 38 = .ok (.putfield 30, 3) := by decide +kernel
theorem dX10_init_41 : decode cX10_init 41 = .ok (.aload_n 0, 1) := by decide +kernel
theorem dX10_init_42 : decode cX10_init 42 = .ok (.new 34, 3) := by decide +kernel
theorem dX10_init_45 : decode cX10_init 45 = .ok (.dup, 1) := by decide +kernel
theorem dX10_init_46 : decode cX10_init 46 = .ok (.sipush 600, 3) := by decide +kernel
theorem dX10_init_49 : decode cX10_init 49 = .ok (.invokespecial 36, 3) := by decide +kernel
theorem dX10_init_52 : decode cX10_init 52 = .ok (.putfield 39, 3) := by decide +kernel
theorem dX10_init_55 : decode cX10_init 55 = .ok (.aload_n 0, 1) := by decide +kernel
theorem dX10_init_56 : decode cX10_init 56 = .ok (.new 34, 3) := by decide +kernel
theorem dX10_init_59 : decode cX10_init 59 = .ok (.dup, 1) := by decide +kernel
theorem dX10_init_60 : decode cX10_init 60 = .ok (.sipush 600, 3) := by decide +kernel
theorem dX10_init_63 : decode cX10_init 63 = .ok (.invokespecial 36, 3) := by decide +kernel
theorem dX10_init_66 : decode cX10_init 66 = .ok (.putfield 43, 3) := by decide +kernel
theorem dX10_init_69 : decode cX10_init 69 = .ok (.aload_n 0, 1) := by decide +kernel
theorem dX10_init_70 : decode cX10_init 70 = .ok (.new 34, 3) := by decide +kernel
theorem dX10_init_73 : decode cX10_init 73 = .ok (.dup, 1) := by decide +kernel
theorem dX10_init_74 : decode cX10_init 74 = .ok (.bipush 123, 2) := by decide +kernel
theorem dX10_init_76 : decode cX10_init 76 = .ok (.invokespecial 36, 3) := by decide +kernel
theorem dX10_init_79 : decode cX10_init 79 = .ok (.putfield 48, 3) := by decide +kernel
theorem dX10_init_82 : decode cX10_init 82 = .ok (.aload_n 0, 1) := by decide +kernel
theorem dX10_init_83 : decode cX10_init 83 = .ok (.new 34, 3) := by decide +kernel
theorem dX10_init_86 : decode cX10_init 86 = .ok (.dup, 1) := by decide +kernel
theorem dX10_init_87 : decode cX10_init 87 = .ok (.bipush 123, 2) := by decide +kernel
theorem dX10_init_89 : decode cX10_init 89 = .ok (.invokespecial 36, 3) := by decide +kernel
theorem dX10_init_92 : decode cX10_init 92 = .ok (.putfield 51, 3) := by decide +kernel
theorem dX10_init_95 : decode cX10_init 95 = .ok (.aload_n 0, 1) := by decide +kernel
theorem dX10_init_96 : decode cX10_init 96 = .ok (.new 34, 3) := by decide +kernel
theorem dX10_init_99 : decode cX10_init 99 = .ok (.dup, 1) := by decide +kernel
theorem dX10_init_100 : decode cX10_init 100 = .ok (.bipush 32, 2) := by decide +kernel
theorem dX10_init_102 : decode cX10_init 102 = .ok (.invokespecial 36, 3) := by decide +kernel
theorem dX10_init_105 : decode cX10_init 105 = .ok (.putfield 54, 3) := by decide +kernel
theorem dX10_init_108 : decode cX10_init 108 = .ok (.aload_n 0, 1) := by decide +kernel
theorem dX10_init_109 : decode cX10_init 109 = .ok (.new 34, 3) := by decide +kernel
theorem dX10_init_112 : decode cX10_init 112 = .ok (.dup, 1) := by decide +kernel
theorem dX10_init_113 : decode cX10_init 113 = .ok (.bipush 32, 2) := by decide +kernel
theorem dX10_init_115 : decode cX10_init 115 = .ok (.invokespecial 36, 3) := by decide +kernel
theorem dX10_init_118 : decode cX10_init 118 = .ok (.putfield 57, 3) := by decide +kernel
theorem dX10_init_121 : decode cX10_init 121 = .ok (.aload_n 0, 1) := by decide +kernel
theorem dX10_init_122 : decode cX10_init 122 = .ok (.new 34, 3) := by decide +kernel
theorem dX10_init_125 : decode cX10_init 125 = .ok (.dup, 1) := by decide +kernel
theorem dX10_init_126 : decode cX10_init 126 = .ok (.bipush 32, 2) := by decide +kernel
theorem dX10_init_128 : decode cX10_init 128 = .ok (.invokespecial 36, 3) := by decide +kernel
theorem dX10_init_131 : decode cX10_init 131 = .ok (.putfield 60, 3) := by decide +kernel
theorem dX10_init_134 : decode cX10_init 134 = .ok (.aload_n 0, 1) := by decide +kernel
theorem dX10_init_135 : decode cX10_init 135 = .ok (.new 34, 3) := by decide +kernel
theorem dX10_init_138 : decode cX10_init 138 = .ok (.dup, 1) := by decide +kernel
theorem dX10_init_139 : decode cX10_init 139 = .ok (.bipush 16, 2) := by decide +kernel
theorem dX10_init_141 : decode cX10_init 141 = .ok (.invokespecial 36, 3) := by decide +kernel
theorem dX10_init_144 : decode cX10_init 144 = .ok (.putfield 63, 3) := by decide +kernel
theorem dX10_init_147 : decode cX10_init 147 = .ok (.return_, 1) := by decide +kernel
theorem dX11_init_0 : decode cX11_init 0 = .ok (.aload_n 0, 1) := by decide +kernel
theorem dX11_init_1 : decode cX11_init 1 = .ok (.invokespecial 1, 3) := by decide +kernel
theorem dX11_init_4 : decode cX11_init 4 = .ok (.aload_n 0, 1) := by decide +kernel
theorem dX11_init_5 : decode cX11_init 5 = .ok (.new 7, 3) := by decide +kernel
theorem dX11_init_8 : decode cX11_init 8 = .ok (.dup, 1) := by decide +kernel
theorem dX11_init_9 : decode cX11_init 9 = .ok (.sipush 600, 3) := by decide +kernel
theorem dX11_init_12 : decode cX11_init 12 = .ok (.invokespecial 11, 3) := by decide +kernel
theorem dX11_init_15 : decode cX11_init 15 = .ok (.putfield 14, 3) := by decide +kernel
theorem dX11_init_18 : decode cX11_init 18 = .ok (.aload_n 0, 1) := by decide +kernel
theorem dX11_init_19 : decode cX11_init 19 = .ok (.new 18, 3) := by decide +kernel
theorem dX11_init_22 : decode cX11_init 22 = .ok (.dup, 1) := by decide +kernel
theorem dX11_init_23 : decode cX11_init 23 = .ok (.invokespecial 20, 3) := by decide +kernel
theorem dX11_init_26 : decode cX11_init 26 = .ok (.putfield 21, 3) := by decide +kernel
theorem dX11_init_29 : decode cX11_init 29 = .ok (.aload_n 0, 1) := by decide +kernel
theorem dX11_init_30 : decode cX11_init 30 = .ok (.iconst 4, 1) := by decide +kernel
theorem dX11_init_31 : decode cX11_init 31 = .ok (.anewarray 25, 3) := by decide +kernel
theorem dX11_init_34 : decode cX11_init 34 = .ok (.putfield 27, 3) := by decide +kernel
theorem dX11_init_37 : decode cX11_init 37 = .ok (.iconst 0, 1) := by decide +kernel
theorem dX11_init_38 : decode cX11_init 38 = .ok (.istore_n 1, 1) := by decide +kernel
theorem dX11_init_39 : decode cX11_init 39 = .ok (.iload_n 1, 1) := by decide +kernel
theorem dX11_init_40 : decode cX11_init 40 = .ok (.iconst 4, 1) := by decide +kernel
theorem dX11_init_41 : decode cX11_init 41 = .ok (.if_icmp .ge 26, 3) := by decide +kernel
theorem dX11_init_44 : decode cX11_init 44 = .ok (.aload_n 0, 1) := by decide +kernel
theorem dX11_init_45 : decode cX11_init 45 = .ok (.getfield 27, 3) := by decide +kernel
theorem dX11_init_48 : decode cX11_init 48 = .ok (.iload_n 1, 1) := by decide +kernel
theorem dX11_init_49 : decode cX11_init 49 = .ok (.new 25, 3) := by decide +kernel
theorem dX11_init_52 : decode cX11_init 52 = .ok (.dup, 1) := by decide +kernel
theorem dX11_init_53 : decode cX11_init 53 = .ok (.aload_n 0, 1) := by decide +kernel
theorem dX11_init_54 : decode cX11_init 54 = .ok (.getfield 21, 3) := by decide +kernel
theorem dX11_init_57 : decode cX11_init 57 = .ok (.invokespecial 31, 3) := by decide +kernel
theorem dX11_init_60 : decode cX11_init 60 = .ok (.aastore, 1) := by decide +kernel
theorem dX11_init_61 : decode cX11_init 61 = .ok (.iinc 1 1, 3) := by decide +kernel
theorem dX11_init_64 : decode cX11_init 64 = .ok (.goto (-25), 3) := by decide +kernel
theorem dX11_init_67 : decode cX11_init 67 = .ok (.aload_n 0, 1) := by decide +kernel
theorem dX11_init_68 : decode cX11_init 68 = .ok (.iconst 0, 1) := by decide +kernel
theorem dX11_init_69 : decode cX11_init 69 = .ok (.putfield 34, 3) := by decide +kernel
theorem dX11_init_72 : decode cX11_init 72 = .ok (.return_, 1) := by decide +kernel
theorem dX11_feed_0 : decode cX11_feed 0 = .ok (.aload_n 0, 1) := by decide +kernel
theorem dX11_feed_1 : decode cX11_feed 1 = .ok (.getfield 14, 3) := by decide +kernel
theorem dX11_feed_4 : decode cX11_feed 4 = .ok (.getfield 38, 3) := by decide +kernel
theorem dX11_feed_7 : decode cX11_feed 7 = .ok (.bipush 20, 2) := by decide +kernel
theorem dX11_feed_9 : decode cX11_feed 9 = .ok (.iadd, 1) := by decide +kernel
theorem dX11_feed_10 : decode cX11_feed 10 = .ok (.sipush 600, 3) := by decide +kernel
theorem dX11_feed_13 : decode cX11_feed 13 = .ok (.if_icmp .le 5, 3) := by decide +kernel
theorem dX11_feed_16 : decode cX11_feed 16 = .ok (.iconst (-1), 1) := by decide +kernel
theorem dX11_feed_17 : decode cX11_feed 17 = .ok (.ireturn, 1) := by decide +kernel
theorem dX11_feed_18 : decode cX11_feed 18 = .ok (.aload_n 0, 1) := by decide +kernel
theorem dX11_feed_19 : decode cX11_feed 19 = .ok (.getfield 14, 3) := by decide +kernel
theorem dX11_feed_22 : decode cX11_feed 22 = .ok (.iload_n 1, 1) := by decide +kernel
theorem dX11_feed_23 : decode cX11_feed 23 = .ok (.iconst 4, 1) := by decide +kernel
theorem dX11_feed_24 : decode cX11_feed 24 = .ok (.invokevirtual 41, 3) := by decide +kernel
theorem dX11_feed_27 : decode cX11_feed 27 = .ok (.aload_n 0, 1) := by decide +kernel
theorem dX11_feed_28 : decode cX11_feed 28 = .ok (.getfield 14, 3) := by decide +kernel
theorem dX11_feed_31 : decode cX11_feed 31 = .ok (.iload_n 2, 1) := by decide +kernel
theorem dX11_feed_32 : decode cX11_feed 32 = .ok (.iconst 4, 1) := by decide +kernel
theorem dX11_feed_33 : decode cX11_feed 33 = .ok (.invokevirtual 41, 3) := by decide +kernel
theorem dX11_feed_36 : decode cX11_feed 36 = .ok (.aload_n 0, 1) := by decide +kernel
theorem dX11_feed_37 : decode cX11_feed 37 = .ok (.getfield 14, 3) := by decide +kernel
theorem dX11_feed_40 : decode cX11_feed 40 = .ok (.iload_n 3, 1) := by decide +kernel
theorem dX11_feed_41 : decode cX11_feed 41 = .ok (.iconst 4, 1) := by decide +kernel
theorem dX11_feed_42 : decode cX11_feed 42 = .ok (.invokevirtual 41, 3) := by decide +kernel
theorem dX11_feed_45 : decode cX11_feed 45 = .ok (.aload_n 0, 1) := by decide +kernel
theorem dX11_feed_46 : decode cX11_feed 46 = .ok (.getfield 14, 3) := by decide +kernel
theorem dX11_feed_49 : decode cX11_feed 49 = .ok (.iload 4, 2) := by decide +kernel
theorem dX11_feed_51 : decode cX11_feed 51 = .ok (.iconst 4, 1) := by decide +kernel
theorem dX11_feed_52 : decode cX11_feed 52 = .ok (.invokevirtual 41, 3) := by decide +kernel
theorem dX11_feed_55 : decode cX11_feed 55 = .ok (.aload_n 0, 1) := by decide +kernel
theorem dX11_feed_56 : decode cX11_feed 56 = .ok (.getfield 14, 3) := by decide +kernel
theorem dX11_feed_59 : decode cX11_feed 59 = .ok (.iload 5, 2) := by decide +kernel
theorem dX11_feed_61 : decode cX11_feed 61 = .ok (.iconst 4, 1) := by decide +kernel
theorem dX11_feed_62 : decode cX11_feed 62 = .ok (.invokevirtual 41, 3) := by decide +kernel
theorem dX11_feed_65 : decode cX11_feed 65 = .ok (.aload_n 0, 1) := by decide +kernel
theorem dX11_feed_66 : decode cX11_feed 66 = .ok (.getfield 14, 3) := by decide +kernel
theorem dX11_feed_69 : decode cX11_feed 69 = .ok (.getfield 38, 3) := by decide +kernel
theorem dX11_feed_72 : decode cX11_feed 72 = .ok (.ireturn, 1) := by decide +kernel
theorem dX11_end_0 : decode cX11_end 0 = .ok (.iload_n 1, 1) := by decide +kernel
theorem dX11_end_1 : decode cX11_end 1 = .ok (.ifCond .lt 14, 3) := by decide +kernel
theorem dX11_end_4 : decode cX11_end 4 = .ok (.iload_n 1, 1) := by decide +kernel
theorem dX11_end_5 : decode cX11_end 5 = .ok (.aload_n 0, 1) := by decide +kernel
theorem dX11_end_6 : decode cX11_end 6 = .ok (.getfield 14, 3) := by decide +kernel
theorem dX11_end_9 : decode cX11_end 9 = .ok (.getfield 38, 3) := by decide +kernel
theorem dX11_end_12 : decode cX11_end 12 = .ok (.if_icmp .le 5, 3) := by decide +kernel
theorem dX11_end_15 : decode cX11_end 15 = .ok (.iconst (-1), 1) := by decide +kernel
theorem dX11_end_16 : decode cX11_end 16 = .ok (.ireturn, 1) := by decide +kernel
theorem dX11_end_17 : decode cX11_end 17 = .ok (.aload_n 0, 1) := by decide +kernel
theorem dX11_end_18 : decode cX11_end 18 = .ok (.getfield 14, 3) := by decide +kernel
theorem dX11_end_21 : decode cX11_end 21 = .ok (.iload_n 1, 1) := by decide +kernel
theorem dX11_end_22 : decode cX11_end 22 = .ok (.invokevirtual 45, 3) := by decide +kernel
theorem dX11_end_25 : decode cX11_end 25 = .ok (.iload_n 1, 1) := by decide +kernel
theorem dX11_end_26 : decode cX11_end 26 = .ok (.ireturn, 1) := by decide +kernel
theorem dX11_make_0 : decode cX11_make 0 = .ok (.aload_n 0, 1) := by decide +kernel
theorem dX11_make_1 : decode cX11_make 1 = .ok (.getfield 34, 3) := by decide +kernel
theorem dX11_make_4 : decode cX11_make 4 = .ok (.iconst 4, 1) := by decide +kernel
theorem dX11_make_5 : decode cX11_make 5 = .ok (.if_icmp .lt 5, 3) := by decide +kernel
theorem dX11_make_8 : decode cX11_make 8 = .ok (.iconst (-1), 1) := by decide +kernel
theorem dX11_make_9 : decode cX11_make 9 = .ok (.ireturn, 1) := by decide +kernel
theorem dX11_make_10 : decode cX11_make 10 = .ok (.aload_n 0, 1) := by decide +kernel
theorem dX11_make_11 : decode cX11_make 11 = .ok (.getfield 27, 3) := by decide +kernel
theorem dX11_make_14 : decode cX11_make 14 = .ok (.aload_n 0, 1) := by decide +kernel
theorem dX11_make_15 : decode cX11_make 15 = .ok (.getfield 34, 3) := by decide +kernel
theorem dX11_make_18 : decode cX11_make 18 = .ok (.aaload, 1) := by decide +kernel
theorem dX11_make_19 : decode cX11_make 19 = .ok (.iload_n 1, 1) := by decide +kernel
theorem dX11_make_20 : decode cX11_make 20 = .ok (.putfield 48, 3) := by decide +kernel
theorem dX11_make_23 : decode cX11_make 23 = .ok (.aload_n 0, 1) := by decide +kernel
theorem dX11_make_24 : decode cX11_make 24 = .ok (.dup, 1) := by decide +kernel
theorem dX11_make_25 : decode cX11_make 25 = .ok (.getfield 34, 3) := by decide +kernel
theorem dX11_make_28 : decode cX11_make 28 = .ok (.iconst 1, 1) := by decide +kernel
theorem dX11_make_29 : decode cX11_make 29 = .ok (.iadd, 1) := by decide +kernel
theorem dX11_make_30 : decode cX11_make 30 = .ok (.putfield 34, 3) := by decide +kernel
theorem dX11_make_33 : decode cX11_make 33 = .ok (.aload_n 0, 1) := by decide +kernel
theorem dX11_make_34 : decode cX11_make 34 = .ok (.getfield 34, 3) := by decide +kernel
theorem dX11_make_37 : decode cX11_make 37 = .ok (.iconst 1, 1) := by decide +kernel
theorem dX11_make_38 : decode cX11_make 38 = .ok (.isub, 1) := by decide +kernel
theorem dX11_make_39 : decode cX11_make 39 = .ok (.ireturn, 1) := by decide +kernel
theorem dX11_tell_0 : decode cX11_tell 0 = .ok (.aload_n 0, 1) := by decide +kernel
theorem dX11_tell_1 : decode cX11_tell 1 = .ok (.iload_n 1, 1) := by decide +kernel
theorem dX11_tell_2 : decode cX11_tell 2 = .ok (.invokevirtual 52, 3) := by decide +kernel
theorem dX11_tell_5 : decode cX11_tell 5 = .ok (.astore_n 3, 1) := by decide +kernel
theorem dX11_tell_6 : decode cX11_tell 6 = .ok (.aload_n 3, 1) := by decide +kernel
theorem dX11_tell_7 : decode cX11_tell 7 = .ok (.ifnull 15, 3) := by decide +kernel
theorem dX11_tell_10 : decode cX11_tell 10 = .ok (.aload_n 3, 1) := by decide +kernel
theorem dX11_tell_11 : decode cX11_tell 11 = .ok (.iload_n 2, 1) := by decide +kernel
theorem dX11_tell_12 : decode cX11_tell 12 = .ok (.aload_n 0, 1) := by decide +kernel
theorem dX11_tell_13 : decode cX11_tell 13 = .ok (.getfield 14, 3) := by decide +kernel
theorem dX11_tell_16 : decode cX11_tell 16 = .ok (.invokevirtual 56, 3) := by decide +kernel
theorem dX11_tell_19 : decode cX11_tell 19 = .ok (.ifCond .ne 5, 3) := by decide +kernel
theorem dX11_tell_22 : decode cX11_tell 22 = .ok (.iconst 0, 1) := by decide +kernel
theorem dX11_tell_23 : decode cX11_tell 23 = .ok (.ireturn, 1) := by decide +kernel
theorem dX11_tell_24 : decode cX11_tell 24 = .ok (.aload_n 0, 1) := by decide +kernel
theorem dX11_tell_25 : decode cX11_tell 25 = .ok (.getfield 14, 3) := by decide +kernel
theorem dX11_tell_28 : decode cX11_tell 28 = .ok (.invokevirtual 60, 3) := by decide +kernel
theorem dX11_tell_31 : decode cX11_tell 31 = .ok (.iconst 1, 1) := by decide +kernel
theorem dX11_tell_32 : decode cX11_tell 32 = .ok (.ireturn, 1) := by decide +kernel
theorem dX11_start_0 : decode cX11_start 0 = .ok (.aload_n 0, 1) := by decide +kernel
theorem dX11_start_1 : decode cX11_start 1 = .ok (.iload_n 1, 1) := by decide +kernel
theorem dX11_start_2 : decode cX11_start 2 = .ok (.invokevirtual 52, 3) := by decide +kernel
theorem dX11_start_5 : decode cX11_start 5 = .ok (.astore_n 2, 1) := by decide +kernel
theorem dX11_start_6 : decode cX11_start 6 = .ok (.aload_n 2, 1) := by decide +kernel
theorem dX11_start_7 : decode cX11_start 7 = .ok (.ifnull 14, 3) := by decide +kernel
theorem dX11_start_10 : decode cX11_start 10 = .ok (.aload_n 2, 1) := by decide +kernel
theorem dX11_start_11 : decode cX11_start 11 = .ok (.invokevirtual 63, 3) := by decide +kernel
theorem dX11_start_14 : decode cX11_start 14 = .ok (.ifCond .eq 7, 3) := by decide +kernel
theorem dX11_start_17 : decode cX11_start 17 = .ok (.iconst 1, 1) := by decide +kernel
theorem dX11_start_18 : decode cX11_start 18 = .ok (.goto 4, 3) := by decide +kernel
theorem dX11_start_21 : decode cX11_start 21 = .ok (.iconst 0, 1) := by decide +kernel
theorem dX11_start_22 : decode cX11_start 22 = .ok (.ireturn, 1) := by decide +kernel
theorem dX11_say_0 : decode cX11_say 0 = .ok (.aload_n 0, 1) := by decide +kernel
theorem dX11_say_1 : decode cX11_say 1 = .ok (.iload_n 1, 1) := by decide +kernel
theorem dX11_say_2 : decode cX11_say 2 = .ok (.invokevirtual 52, 3) := by decide +kernel
theorem dX11_say_5 : decode cX11_say 5 = .ok (.astore_n 2, 1) := by decide +kernel
theorem dX11_say_6 : decode cX11_say 6 = .ok (.aload_n 2, 1) := by decide +kernel
theorem dX11_say_7 : decode cX11_say 7 = .ok (.ifnull 38, 3) := by decide +kernel
theorem dX11_say_10 : decode cX11_say 10 = .ok (.aload_n 0, 1) := by decide +kernel
theorem dX11_say_11 : decode cX11_say 11 = .ok (.getfield 14, 3) := by decide +kernel
theorem dX11_say_14 : decode cX11_say 14 = .ok (.getfield 38, 3) := by decide +kernel
theorem dX11_say_17 : decode cX11_say 17 = .ok (.iconst 1, 1) := by decide +kernel
theorem dX11_say_18 : decode cX11_say 18 = .ok (.if_icmp .lt 27, 3) := by decide +kernel
theorem dX11_say_21 : decode cX11_say 21 = .ok (.aload_n 0, 1) := by decide +kernel
theorem dX11_say_22 : decode cX11_say 22 = .ok (.getfield 14, 3) := by decide +kernel
theorem dX11_say_25 : decode cX11_say 25 = .ok (.getfield 38, 3) := by decide +kernel
theorem dX11_say_28 : decode cX11_say 28 = .ok (.sipush 400, 3) := by decide +kernel
theorem dX11_say_31 : decode cX11_say 31 = .ok (.if_icmp .gt 14, 3) := by decide +kernel
theorem dX11_say_34 : decode cX11_say 34 = .ok (.aload_n 2, 1) := by decide +kernel
theorem dX11_say_35 : decode cX11_say 35 = .ok (.aload_n 0, 1) := by decide +kernel
theorem dX11_say_36 : decode cX11_say 36 = .ok (.getfield 14, 3) := by decide +kernel
theorem dX11_say_39 : decode cX11_say 39 = .ok (.invokevirtual 67, 3) := by decide +kernel
theorem dX11_say_42 : decode cX11_say 42 = .ok (.ifCond .ne 5, 3) := by decide +kernel
theorem dX11_say_45 : decode cX11_say 45 = .ok (.iconst (-1), 1) := by decide +kernel
theorem dX11_say_46 : decode cX11_say 46 = .ok (.ireturn, 1) := by decide +kernel
theorem dX11_say_47 : decode cX11_say 47 = .ok (.aload_n 0, 1) := by decide +kernel
theorem dX11_say_48 : decode cX11_say 48 = .ok (.getfield 14, 3) := by decide +kernel
theorem dX11_say_51 : decode cX11_say 51 = .ok (.invokevirtual 60, 3) := by decide +kernel
theorem dX11_say_54 : decode cX11_say 54 = .ok (.aload_n 2, 1) := by decide +kernel
theorem dX11_say_55 : decode cX11_say 55 = .ok (.getfield 71, 3) := by decide +kernel
theorem dX11_say_58 : decode cX11_say 58 = .ok (.getfield 75, 3) := by decide +kernel
theorem dX11_say_61 : decode cX11_say 61 = .ok (.ireturn, 1) := by decide +kernel
theorem dX11_update_0 : decode cX11_update 0 = .ok (.aload_n 0, 1) := by decide +kernel
theorem dX11_update_1 : decode cX11_update 1 = .ok (.iload_n 1, 1) := by decide +kernel
theorem dX11_update_2 : decode cX11_update 2 = .ok (.invokevirtual 52, 3) := by decide +kernel
theorem dX11_update_5 : decode cX11_update 5 = .ok (.astore_n 3, 1) := by decide +kernel
theorem dX11_update_6 : decode cX11_update 6 = .ok (.aload_n 3, 1) := by decide +kernel
theorem dX11_update_7 : decode cX11_update 7 = .ok (.ifnull 20, 3) := by decide +kernel
theorem dX11_update_10 : decode cX11_update 10 = .ok (.iload_n 2, 1) := by decide +kernel
theorem dX11_update_11 : decode cX11_update 11 = .ok (.ifCond .lt 16, 3) := by decide +kernel
theorem dX11_update_14 : decode cX11_update 14 = .ok (.iload_n 2, 1) := by decide +kernel
theorem dX11_update_15 : decode cX11_update 15 = .ok (.iconst 1, 1) := by decide +kernel
theorem dX11_update_16 : decode cX11_update 16 = .ok (.if_icmp .gt 11, 3) := by decide +kernel
theorem dX11_update_19 : decode cX11_update 19 = .ok (.aload_n 3, 1) := by decide +kernel
theorem dX11_update_20 : decode cX11_update 20 = .ok (.iload_n 2, 1) := by decide +kernel
theorem dX11_update_21 : decode cX11_update 21 = .ok (.invokevirtual 78, 3) := by decide +kernel
theorem dX11_update_24 : decode cX11_update 24 = .ok (.ifCond .ne 5, 3) := by decide +kernel
theorem dX11_update_27 : decode cX11_update 27 = .ok (.iconst (-1), 1) := by decide +kernel
theorem dX11_update_28 : decode cX11_update 28 = .ok (.ireturn, 1) := by decide +kernel
theorem dX11_update_29 : decode cX11_update 29 = .ok (.aload_n 3, 1) := by decide +kernel
theorem dX11_update_30 : decode cX11_update 30 = .ok (.getfield 71, 3) := by decide +kernel
theorem dX11_update_33 : decode cX11_update 33 = .ok (.getfield 75, 3) := by decide +kernel
theorem dX11_update_36 : decode cX11_update 36 = .ok (.ireturn, 1) := by decide +kernel
theorem dX11_close_0 : decode cX11_close 0 = .ok (.aload_n 0, 1) := by decide +kernel
theorem dX11_close_1 : decode cX11_close 1 = .ok (.iload_n 1, 1) := by decide +kernel
theorem dX11_close_2 : decode cX11_close 2 = .ok (.invokevirtual 52, 3) := by decide +kernel
theorem dX11_close_5 : decode cX11_close 5 = .ok (.astore_n 2, 1) := by decide +kernel
theorem dX11_close_6 : decode cX11_close 6 = .ok (.aload_n 2, 1) := by decide +kernel
theorem dX11_close_7 : decode cX11_close 7 = .ok (.ifnull 14, 3) := by decide +kernel
theorem dX11_close_10 : decode cX11_close 10 = .ok (.aload_n 2, 1) := by decide +kernel
theorem dX11_close_11 : decode cX11_close 11 = .ok (.invokevirtual 82, 3) := by decide +kernel
theorem dX11_close_14 : decode cX11_close 14 = .ok (.ifCond .eq 7, 3) := by decide +kernel
theorem dX11_close_17 : decode cX11_close 17 = .ok (.iconst 1, 1) := by decide +kernel
theorem dX11_close_18 : decode cX11_close 18 = .ok (.goto 4, 3) := by decide +kernel
theorem dX11_close_21 : decode cX11_close 21 = .ok (.iconst 0, 1) := by decide +kernel
theorem dX11_close_22 : decode cX11_close 22 = .ok (.ireturn, 1) := by decide +kernel
theorem dX11_carry_0 : decode cX11_carry 0 = .ok (.aload_n 0, 1) := by decide +kernel
theorem dX11_carry_1 : decode cX11_carry 1 = .ok (.iload_n 1, 1) := by decide +kernel
theorem dX11_carry_2 : decode cX11_carry 2 = .ok (.invokevirtual 52, 3) := by decide +kernel
theorem dX11_carry_5 : decode cX11_carry 5 = .ok (.astore_n 3, 1) := by decide +kernel
theorem dX11_carry_6 : decode cX11_carry 6 = .ok (.aload_n 0, 1) := by decide +kernel
theorem dX11_carry_7 : decode cX11_carry 7 = .ok (.iload_n 2, 1) := by decide +kernel
theorem dX11_carry_8 : decode cX11_carry 8 = .ok (.invokevirtual 52, 3) := by decide +kernel
theorem dX11_carry_11 : decode cX11_carry 11 = .ok (.astore 4, 2) := by decide +kernel
theorem dX11_carry_13 : decode cX11_carry 13 = .ok (.aload_n 3, 1) := by decide +kernel
theorem dX11_carry_14 : decode cX11_carry 14 = .ok (.ifnull 18, 3) := by decide +kernel
theorem dX11_carry_17 : decode cX11_carry 17 = .ok (.aload 4, 2) := by decide +kernel
theorem dX11_carry_19 : decode cX11_carry 19 = .ok (.ifnull 13, 3) := by decide +kernel
theorem dX11_carry_22 : decode cX11_carry 22 = .ok (.aload_n 3, 1) := by decide +kernel
theorem dX11_carry_23 : decode cX11_carry 23 = .ok (.getfield 71, 3) := by decide +kernel
theorem dX11_carry_26 : decode cX11_carry 26 = .ok (.getfield 75, 3) := by decide +kernel
theorem dX11_carry_29 : decode cX11_carry 29 = .ok (.ifCond .ne 5, 3) := by decide +kernel
theorem dX11_carry_32 : decode cX11_carry 32 = .ok (.iconst (-1), 1) := by decide +kernel
theorem dX11_carry_33 : decode cX11_carry 33 = .ok (.ireturn, 1) := by decide +kernel
theorem dX11_carry_34 : decode cX11_carry 34 = .ok (.aload_n 0, 1) := by decide +kernel
theorem dX11_carry_35 : decode cX11_carry 35 = .ok (.getfield 21, 3) := by decide +kernel
theorem dX11_carry_38 : decode cX11_carry 38 = .ok (.getfield 85, 3) := by decide +kernel
theorem dX11_carry_41 : decode cX11_carry 41 = .ok (.aload_n 3, 1) := by decide +kernel
theorem dX11_carry_42 : decode cX11_carry 42 = .ok (.getfield 71, 3) := by decide +kernel
theorem dX11_carry_45 : decode cX11_carry 45 = .ok (.invokevirtual 88, 3) := by decide +kernel
theorem dX11_carry_48 : decode cX11_carry 48 = .ok (.invokevirtual 92, 3) := by decide +kernel
theorem dX11_carry_51 : decode cX11_carry 51 = .ok (.aload_n 3, 1) := by decide +kernel
theorem dX11_carry_52 : decode cX11_carry 52 = .ok (.getfield 71, 3) := by decide +kernel
theorem dX11_carry_55 : decode cX11_carry 55 = .ok (.invokevirtual 96, 3) := by decide +kernel
theorem dX11_carry_58 : decode cX11_carry 58 = .ok (.pop, 1) := by decide +kernel
theorem dX11_carry_59 : decode cX11_carry 59 = .ok (.aload 4, 2) := by decide +kernel
theorem dX11_carry_61 : decode cX11_carry 61 = .ok (.aload_n 0, 1) := by decide +kernel
theorem dX11_carry_62 : decode cX11_carry 62 = .ok (.getfield 21, 3) := by decide +kernel
theorem dX11_carry_65 : decode cX11_carry 65 = .ok (.getfield 85, 3) := by decide +kernel
theorem dX11_carry_68 : decode cX11_carry 68 = .ok (.invokevirtual 99, 3) := by decide +kernel
theorem dX11_carry_71 : decode cX11_carry 71 = .ok (.aload 4, 2) := by decide +kernel
theorem dX11_carry_73 : decode cX11_carry 73 = .ok (.getfield 102, 3) := by decide +kernel
theorem dX11_carry_76 : decode cX11_carry 76 = .ok (.ireturn, 1) := by decide +kernel
theorem dX11_give_0 : decode cX11_give 0 = .ok (.aload_n 0, 1) := by decide +kernel
theorem dX11_give_1 : decode cX11_give 1 = .ok (.iload_n 1, 1) := by decide +kernel
theorem dX11_give_2 : decode cX11_give 2 = .ok (.invokevirtual 52, 3) := by decide +kernel
theorem dX11_give_5 : decode cX11_give 5 = .ok (.astore_n 2, 1) := by decide +kernel
theorem dX11_give_6 : decode cX11_give 6 = .ok (.aload_n 2, 1) := by decide +kernel
theorem dX11_give_7 : decode cX11_give 7 = .ok (.ifnonnull 5, 3) := by decide +kernel
theorem dX11_give_10 : decode cX11_give 10 = .ok (.iconst (-1), 1) := by decide +kernel
theorem dX11_give_11 : decode cX11_give 11 = .ok (.ireturn, 1) := by decide +kernel
theorem dX11_give_12 : decode cX11_give 12 = .ok (.aload_n 0, 1) := by decide +kernel
theorem dX11_give_13 : decode cX11_give 13 = .ok (.getfield 21, 3) := by decide +kernel
theorem dX11_give_16 : decode cX11_give 16 = .ok (.getfield 85, 3) := by decide +kernel
theorem dX11_give_19 : decode cX11_give 19 = .ok (.aload_n 0, 1) := by decide +kernel
theorem dX11_give_20 : decode cX11_give 20 = .ok (.getfield 14, 3) := by decide +kernel
theorem dX11_give_23 : decode cX11_give 23 = .ok (.invokevirtual 92, 3) := by decide +kernel
theorem dX11_give_26 : decode cX11_give 26 = .ok (.aload_n 0, 1) := by decide +kernel
theorem dX11_give_27 : decode cX11_give 27 = .ok (.getfield 14, 3) := by decide +kernel
theorem dX11_give_30 : decode cX11_give 30 = .ok (.invokevirtual 60, 3) := by decide +kernel
theorem dX11_give_33 : decode cX11_give 33 = .ok (.aload_n 2, 1) := by decide +kernel
theorem dX11_give_34 : decode cX11_give 34 = .ok (.aload_n 0, 1) := by decide +kernel
theorem dX11_give_35 : decode cX11_give 35 = .ok (.getfield 21, 3) := by decide +kernel
theorem dX11_give_38 : decode cX11_give 38 = .ok (.getfield 85, 3) := by decide +kernel
theorem dX11_give_41 : decode cX11_give 41 = .ok (.invokevirtual 99, 3) := by decide +kernel
theorem dX11_give_44 : decode cX11_give 44 = .ok (.aload_n 2, 1) := by decide +kernel
theorem dX11_give_45 : decode cX11_give 45 = .ok (.getfield 102, 3) := by decide +kernel
theorem dX11_give_48 : decode cX11_give 48 = .ok (.ireturn, 1) := by decide +kernel
theorem dX11_meddle_0 : decode cX11_meddle 0 = .ok (.aload_n 0, 1) := by decide +kernel
theorem dX11_meddle_1 : decode cX11_meddle 1 = .ok (.iload_n 1, 1) := by decide +kernel
theorem dX11_meddle_2 : decode cX11_meddle 2 = .ok (.invokevirtual 52, 3) := by decide +kernel
theorem dX11_meddle_5 : decode cX11_meddle 5 = .ok (.astore_n 3, 1) := by decide +kernel
theorem dX11_meddle_6 : decode cX11_meddle 6 = .ok (.aload_n 3, 1) := by decide +kernel
theorem dX11_meddle_7 : decode cX11_meddle 7 = .ok (.ifnonnull 5, 3) := by decide +kernel
theorem dX11_meddle_10 : decode cX11_meddle 10 = .ok (.iconst 0, 1) := by decide +kernel
theorem dX11_meddle_11 : decode cX11_meddle 11 = .ok (.ireturn, 1) := by decide +kernel
theorem dX11_meddle_12 : decode cX11_meddle 12 = .ok (.iload_n 2, 1) := by decide +kernel
theorem dX11_meddle_13 : decode cX11_meddle 13 = .ok (.tableswitch 51 0 2 #[27, 35, 43], 27) := by decide +kernel
theorem dX11_meddle_40 : decode cX11_meddle 40 = .ok (.aload_n 3, 1) := by decide +kernel
theorem dX11_meddle_41 : decode cX11_meddle 41 = .ok (.getfield 71, 3) := by decide +kernel
theorem dX11_meddle_44 : decode cX11_meddle 44 = .ok (.invokevirtual 96, 3) := by decide +kernel
theorem dX11_meddle_47 : decode cX11_meddle 47 = .ok (.ireturn, 1) := by decide +kernel
theorem dX11_meddle_48 : decode cX11_meddle 48 = .ok (.aload_n 3, 1) := by decide +kernel
theorem dX11_meddle_49 : decode cX11_meddle 49 = .ok (.getfield 71, 3) := by decide +kernel
theorem dX11_meddle_52 : decode cX11_meddle 52 = .ok (.invokevirtual 105, 3) := by decide +kernel
theorem dX11_meddle_55 : decode cX11_meddle 55 = .ok (.ireturn, 1) := by decide +kernel
theorem dX11_meddle_56 : decode cX11_meddle 56 = .ok (.aload_n 3, 1) := by decide +kernel
theorem dX11_meddle_57 : decode cX11_meddle 57 = .ok (.getfield 71, 3) := by decide +kernel
theorem dX11_meddle_60 : decode cX11_meddle 60 = .ok (.invokevirtual 108, 3) := by decide +kernel
theorem dX11_meddle_63 : decode cX11_meddle 63 = .ok (.ireturn, 1) := by decide +kernel
theorem dX11_meddle_64 : decode cX11_meddle 64 = .ok (.iconst 0, 1) := by decide +kernel
theorem dX11_meddle_65 : decode cX11_meddle 65 = .ok (.ireturn, 1) := by decide +kernel
theorem dX11_alter_0 : decode cX11_alter 0 = .ok (.aload_n 0, 1) := by decide +kernel
theorem dX11_alter_1 : decode cX11_alter 1 = .ok (.iload_n 1, 1) := by decide +kernel
theorem dX11_alter_2 : decode cX11_alter 2 = .ok (.invokevirtual 52, 3) := by decide +kernel
theorem dX11_alter_5 : decode cX11_alter 5 = .ok (.astore 4, 2) := by decide +kernel
theorem dX11_alter_7 : decode cX11_alter 7 = .ok (.aload 4, 2) := by decide +kernel
theorem dX11_alter_9 : decode cX11_alter 9 = .ok (.ifnull 25, 3) := by decide +kernel
theorem dX11_alter_12 : decode cX11_alter 12 = .ok (.aload 4, 2) := by decide +kernel
theorem dX11_alter_14 : decode cX11_alter 14 = .ok (.getfield 71, 3) := by decide +kernel
theorem dX11_alter_17 : decode cX11_alter 17 = .ok (.getfield 75, 3) := by decide +kernel
theorem dX11_alter_20 : decode cX11_alter 20 = .ok (.ifCond .eq 14, 3) := by decide +kernel
theorem dX11_alter_23 : decode cX11_alter 23 = .ok (.iload_n 3, 1) := by decide +kernel
theorem dX11_alter_24 : decode cX11_alter 24 = .ok (.ifCond .lt 10, 3) := by decide +kernel
theorem dX11_alter_27 : decode cX11_alter 27 = .ok (.iload_n 3, 1) := by decide +kernel
theorem dX11_alter_28 : decode cX11_alter 28 = .ok (.sipush 255, 3) := by decide +kernel
theorem dX11_alter_31 : decode cX11_alter 31 = .ok (.if_icmp .le 5, 3) := by decide +kernel
theorem dX11_alter_34 : decode cX11_alter 34 = .ok (.iconst 0, 1) := by decide +kernel
theorem dX11_alter_35 : decode cX11_alter 35 = .ok (.ireturn, 1) := by decide +kernel
theorem dX11_alter_36 : decode cX11_alter 36 = .ok (.aload 4, 2) := by decide +kernel
theorem dX11_alter_38 : decode cX11_alter 38 = .ok (.getfield 71, 3) := by decide +kernel
theorem dX11_alter_41 : decode cX11_alter 41 = .ok (.invokevirtual 88, 3) := by decide +kernel
theorem dX11_alter_44 : decode cX11_alter 44 = .ok (.iload_n 2, 1) := by decide +kernel
theorem dX11_alter_45 : decode cX11_alter 45 = .ok (.iload_n 3, 1) := by decide +kernel
theorem dX11_alter_46 : decode cX11_alter 46 = .ok (.invokevirtual 111, 3) := by decide +kernel
theorem dX11_alter_49 : decode cX11_alter 49 = .ok (.ireturn, 1) := by decide +kernel
theorem dX11_written_0 : decode cX11_written 0 = .ok (.aload_n 0, 1) := by decide +kernel
theorem dX11_written_1 : decode cX11_written 1 = .ok (.iload_n 1, 1) := by decide +kernel
theorem dX11_written_2 : decode cX11_written 2 = .ok (.invokevirtual 52, 3) := by decide +kernel
theorem dX11_written_5 : decode cX11_written 5 = .ok (.astore 4, 2) := by decide +kernel
theorem dX11_written_7 : decode cX11_written 7 = .ok (.aload 4, 2) := by decide +kernel
theorem dX11_written_9 : decode cX11_written 9 = .ok (.ifnonnull 7, 3) := by decide +kernel
theorem dX11_written_12 : decode cX11_written 12 = .ok (.iconst (-1), 1) := by decide +kernel
theorem dX11_written_13 : decode cX11_written 13 = .ok (.goto 13, 3) := by decide +kernel
theorem dX11_written_16 : decode cX11_written 16 = .ok (.aload 4, 2) := by decide +kernel
theorem dX11_written_18 : decode cX11_written 18 = .ok (.getfield 71, 3) := by decide +kernel
theorem dX11_written_21 : decode cX11_written 21 = .ok (.iload_n 2, 1) := by decide +kernel
theorem dX11_written_22 : decode cX11_written 22 = .ok (.iload_n 3, 1) := by decide +kernel
theorem dX11_written_23 : decode cX11_written 23 = .ok (.invokevirtual 115, 3) := by decide +kernel
theorem dX11_written_26 : decode cX11_written 26 = .ok (.ireturn, 1) := by decide +kernel
theorem dX11_given_0 : decode cX11_given 0 = .ok (.aload_n 0, 1) := by decide +kernel
theorem dX11_given_1 : decode cX11_given 1 = .ok (.iload_n 1, 1) := by decide +kernel
theorem dX11_given_2 : decode cX11_given 2 = .ok (.invokevirtual 52, 3) := by decide +kernel
theorem dX11_given_5 : decode cX11_given 5 = .ok (.astore_n 3, 1) := by decide +kernel
theorem dX11_given_6 : decode cX11_given 6 = .ok (.aload_n 3, 1) := by decide +kernel
theorem dX11_given_7 : decode cX11_given 7 = .ok (.ifnonnull 7, 3) := by decide +kernel
theorem dX11_given_10 : decode cX11_given 10 = .ok (.iconst (-1), 1) := by decide +kernel
theorem dX11_given_11 : decode cX11_given 11 = .ok (.goto 11, 3) := by decide +kernel
theorem dX11_given_14 : decode cX11_given 14 = .ok (.aload_n 3, 1) := by decide +kernel
theorem dX11_given_15 : decode cX11_given 15 = .ok (.getfield 119, 3) := by decide +kernel
theorem dX11_given_18 : decode cX11_given 18 = .ok (.iload_n 2, 1) := by decide +kernel
theorem dX11_given_19 : decode cX11_given 19 = .ok (.invokevirtual 122, 3) := by decide +kernel
theorem dX11_given_22 : decode cX11_given 22 = .ok (.ireturn, 1) := by decide +kernel
theorem dX11_secret_0 : decode cX11_secret 0 = .ok (.aload_n 0, 1) := by decide +kernel
theorem dX11_secret_1 : decode cX11_secret 1 = .ok (.iload_n 1, 1) := by decide +kernel
theorem dX11_secret_2 : decode cX11_secret 2 = .ok (.invokevirtual 52, 3) := by decide +kernel
theorem dX11_secret_5 : decode cX11_secret 5 = .ok (.astore 4, 2) := by decide +kernel
theorem dX11_secret_7 : decode cX11_secret 7 = .ok (.aload 4, 2) := by decide +kernel
theorem dX11_secret_9 : decode cX11_secret 9 = .ok (.ifnull 12, 3) := by decide +kernel
theorem dX11_secret_12 : decode cX11_secret 12 = .ok (.iload_n 2, 1) := by decide +kernel
theorem dX11_secret_13 : decode cX11_secret 13 = .ok (.ifCond .lt 8, 3) := by decide +kernel
theorem dX11_secret_16 : decode cX11_secret 16 = .ok (.iload_n 2, 1) := by decide +kernel
theorem dX11_secret_17 : decode cX11_secret 17 = .ok (.iconst 1, 1) := by decide +kernel
theorem dX11_secret_18 : decode cX11_secret 18 = .ok (.if_icmp .le 5, 3) := by decide +kernel
theorem dX11_secret_21 : decode cX11_secret 21 = .ok (.iconst (-1), 1) := by decide +kernel
theorem dX11_secret_22 : decode cX11_secret 22 = .ok (.ireturn, 1) := by decide +kernel
theorem dX11_secret_23 : decode cX11_secret 23 = .ok (.iload_n 2, 1) := by decide +kernel
theorem dX11_secret_24 : decode cX11_secret 24 = .ok (.ifCond .ne 11, 3) := by decide +kernel
theorem dX11_secret_27 : decode cX11_secret 27 = .ok (.aload 4, 2) := by decide +kernel
theorem dX11_secret_29 : decode cX11_secret 29 = .ok (.getfield 126, 3) := by decide +kernel
theorem dX11_secret_32 : decode cX11_secret 32 = .ok (.goto 8, 3) := by decide +kernel
theorem dX11_secret_35 : decode cX11_secret 35 = .ok (.aload 4, 2) := by decide +kernel
theorem dX11_secret_37 : decode cX11_secret 37 = .ok (.getfield 130, 3) := by decide +kernel
theorem dX11_secret_40 : decode cX11_secret 40 = .ok (.astore 5, 2) := by decide +kernel
theorem dX11_secret_42 : decode cX11_secret 42 = .ok (.aload 5, 2) := by decide +kernel
theorem dX11_secret_44 : decode cX11_secret 44 = .ok (.getfield 133, 3) := by decide +kernel
theorem dX11_secret_47 : decode cX11_secret 47 = .ok (.ifCond .eq 15, 3) := by decide +kernel
theorem dX11_secret_50 : decode cX11_secret 50 = .ok (.aload 5, 2) := by decide +kernel
theorem dX11_secret_52 : decode cX11_secret 52 = .ok (.getfield 138, 3) := by decide +kernel
theorem dX11_secret_55 : decode cX11_secret 55 = .ok (.iload_n 3, 1) := by decide +kernel
theorem dX11_secret_56 : decode cX11_secret 56 = .ok (.invokevirtual 122, 3) := by decide +kernel
theorem dX11_secret_59 : decode cX11_secret 59 = .ok (.goto 4, 3) := by decide +kernel
theorem dX11_secret_62 : decode cX11_secret 62 = .ok (.iconst (-1), 1) := by decide +kernel
theorem dX11_secret_63 : decode cX11_secret 63 = .ok (.ireturn, 1) := by decide +kernel
theorem dX11_state_0 : decode cX11_state 0 = .ok (.aload_n 0, 1) := by decide +kernel
theorem dX11_state_1 : decode cX11_state 1 = .ok (.iload_n 1, 1) := by decide +kernel
theorem dX11_state_2 : decode cX11_state 2 = .ok (.invokevirtual 52, 3) := by decide +kernel
theorem dX11_state_5 : decode cX11_state 5 = .ok (.astore_n 3, 1) := by decide +kernel
theorem dX11_state_6 : decode cX11_state 6 = .ok (.aload_n 3, 1) := by decide +kernel
theorem dX11_state_7 : decode cX11_state 7 = .ok (.ifnonnull 7, 3) := by decide +kernel
theorem dX11_state_10 : decode cX11_state 10 = .ok (.iconst (-1), 1) := by decide +kernel
theorem dX11_state_11 : decode cX11_state 11 = .ok (.goto 8, 3) := by decide +kernel
theorem dX11_state_14 : decode cX11_state 14 = .ok (.aload_n 3, 1) := by decide +kernel
theorem dX11_state_15 : decode cX11_state 15 = .ok (.iload_n 2, 1) := by decide +kernel
theorem dX11_state_16 : decode cX11_state 16 = .ok (.invokevirtual 141, 3) := by decide +kernel
theorem dX11_state_19 : decode cX11_state 19 = .ok (.ireturn, 1) := by decide +kernel
theorem dX11_hash_0 : decode cX11_hash 0 = .ok (.iload_n 1, 1) := by decide +kernel
theorem dX11_hash_1 : decode cX11_hash 1 = .ok (.ifCond .lt 9, 3) := by decide +kernel
theorem dX11_hash_4 : decode cX11_hash 4 = .ok (.iload_n 1, 1) := by decide +kernel
theorem dX11_hash_5 : decode cX11_hash 5 = .ok (.bipush 32, 2) := by decide +kernel
theorem dX11_hash_7 : decode cX11_hash 7 = .ok (.if_icmp .lt 5, 3) := by decide +kernel
theorem dX11_hash_10 : decode cX11_hash 10 = .ok (.iconst (-1), 1) := by decide +kernel
theorem dX11_hash_11 : decode cX11_hash 11 = .ok (.ireturn, 1) := by decide +kernel
theorem dX11_hash_12 : decode cX11_hash 12 = .ok (.aload_n 0, 1) := by decide +kernel
theorem dX11_hash_13 : decode cX11_hash 13 = .ok (.getfield 21, 3) := by decide +kernel
theorem dX11_hash_16 : decode cX11_hash 16 = .ok (.getfield 144, 3) := by decide +kernel
theorem dX11_hash_19 : decode cX11_hash 19 = .ok (.aload_n 0, 1) := by decide +kernel
theorem dX11_hash_20 : decode cX11_hash 20 = .ok (.getfield 14, 3) := by decide +kernel
theorem dX11_hash_23 : decode cX11_hash 23 = .ok (.aload_n 0, 1) := by decide +kernel
theorem dX11_hash_24 : decode cX11_hash 24 = .ok (.getfield 21, 3) := by decide +kernel
theorem dX11_hash_27 : decode cX11_hash 27 = .ok (.getfield 148, 3) := by decide +kernel
theorem dX11_hash_30 : decode cX11_hash 30 = .ok (.invokevirtual 151, 3) := by decide +kernel
theorem dX11_hash_33 : decode cX11_hash 33 = .ok (.aload_n 0, 1) := by decide +kernel
theorem dX11_hash_34 : decode cX11_hash 34 = .ok (.getfield 21, 3) := by decide +kernel
theorem dX11_hash_37 : decode cX11_hash 37 = .ok (.getfield 148, 3) := by decide +kernel
theorem dX11_hash_40 : decode cX11_hash 40 = .ok (.iload_n 1, 1) := by decide +kernel
theorem dX11_hash_41 : decode cX11_hash 41 = .ok (.invokevirtual 122, 3) := by decide +kernel
theorem dX11_hash_44 : decode cX11_hash 44 = .ok (.ireturn, 1) := by decide +kernel
theorem dX11_about_0 : decode cX11_about 0 = .ok (.iload_n 1, 1) := by decide +kernel
theorem dX11_about_1 : decode cX11_about 1 = .ok (.lookupswitch 40 #[(0, 27), (1, 35)], 27) := by decide +kernel
theorem dX11_about_28 : decode cX11_about 28 = .ok (.aload_n 0, 1) := by decide +kernel
theorem dX11_about_29 : decode cX11_about 29 = .ok (.getfield 14, 3) := by decide +kernel
theorem dX11_about_32 : decode cX11_about 32 = .ok (.getfield 38, 3) := by decide +kernel
theorem dX11_about_35 : decode cX11_about 35 = .ok (.ireturn, 1) := by decide +kernel
theorem dX11_about_36 : decode cX11_about 36 = .ok (.aload_n 0, 1) := by decide +kernel
theorem dX11_about_37 : decode cX11_about 37 = .ok (.getfield 34, 3) := by decide +kernel
theorem dX11_about_40 : decode cX11_about 40 = .ok (.ireturn, 1) := by decide +kernel
theorem dX11_about_41 : decode cX11_about 41 = .ok (.iconst (-1), 1) := by decide +kernel
theorem dX11_about_42 : decode cX11_about 42 = .ok (.ireturn, 1) := by decide +kernel
theorem dX11_find_0 : decode cX11_find 0 = .ok (.iload_n 1, 1) := by decide +kernel
theorem dX11_find_1 : decode cX11_find 1 = .ok (.ifCond .lt 29, 3) := by decide +kernel
theorem dX11_find_4 : decode cX11_find 4 = .ok (.iload_n 1, 1) := by decide +kernel
theorem dX11_find_5 : decode cX11_find 5 = .ok (.aload_n 0, 1) := by decide +kernel
theorem dX11_find_6 : decode cX11_find 6 = .ok (.getfield 34, 3) := by decide +kernel
theorem dX11_find_9 : decode cX11_find 9 = .ok (.if_icmp .ge 21, 3) := by decide +kernel
theorem dX11_find_12 : decode cX11_find 12 = .ok (.iload_n 1, 1) := by decide +kernel
theorem dX11_find_13 : decode cX11_find 13 = .ok (.aload_n 0, 1) := by decide +kernel
theorem dX11_find_14 : decode cX11_find 14 = .ok (.getfield 27, 3) := by decide +kernel
theorem dX11_find_17 : decode cX11_find 17 = .ok (.arraylength, 1) := by decide +kernel
theorem dX11_find_18 : decode cX11_find 18 = .ok (.if_icmp .ge 12, 3) := by decide +kernel
theorem dX11_find_21 : decode cX11_find 21 = .ok (.aload_n 0, 1) := by decide +kernel
theorem dX11_find_22 : decode cX11_find 22 = .ok (.getfield 27, 3) := by decide +kernel
theorem dX11_find_25 : decode cX11_find 25 = .ok (.iload_n 1, 1) := by decide +kernel
theorem dX11_find_26 : decode cX11_find 26 = .ok (.aaload, 1) := by decide +kernel
theorem dX11_find_27 : decode cX11_find 27 = .ok (.goto 4, 3) := by decide +kernel
theorem dX11_find_30 : decode cX11_find 30 = .ok (.aconst_null, 1) := by decide +kernel
theorem dX11_find_31 : decode cX11_find 31 = .ok (.areturn, 1) := by decide +kernel
theorem dX12_init_0 : decode cX12_init 0 = .ok (.aload_n 0, 1) := by decide +kernel
theorem dX12_init_1 : decode cX12_init 1 = .ok (.invokespecial 1, 3) := by decide +kernel
theorem dX12_init_4 : decode cX12_init 4 = .ok (.aload_n 0, 1) := by decide +kernel
theorem dX12_init_5 : decode cX12_init 5 = .ok (.sipush 620, 3) := by decide +kernel
theorem dX12_init_8 : decode cX12_init 8 = .ok (.newarray .byte, 2) := by decide +kernel
theorem dX12_init_10 : decode cX12_init 10 = .ok (.putfield 7, 3) := by decide +kernel
theorem dX12_init_13 : decode cX12_init 13 = .ok (.aload_n 0, 1) := by decide +kernel
theorem dX12_init_14 : decode cX12_init 14 = .ok (.iconst 4, 1) := by decide +kernel
theorem dX12_init_15 : decode cX12_init 15 = .ok (.newarray .boolean, 2) := by decide +kernel
theorem dX12_init_17 : decode cX12_init 17 = .ok (.putfield 13, 3) := by decide +kernel
theorem dX12_init_20 : decode cX12_init 20 = .ok (.aload_n 0, 1) := by decide +kernel
theorem dX12_init_21 : decode cX12_init 21 = .ok (.iconst 4, 1) := by decide +kernel
theorem dX12_init_22 : decode cX12_init 22 = .ok (.newarray .int, 2) := by decide +kernel
theorem dX12_init_24 : decode cX12_init 24 = .ok (.putfield 17, 3) := by decide +kernel
theorem dX12_init_27 : decode cX12_init 27 = .ok (.aload_n 0, 1) := by decide +kernel
theorem dX12_init_28 : decode cX12_init 28 = .ok (.sipush 256, 3) := by decide +kernel
theorem dX12_init_31 : decode cX12_init 31 = .ok (.newarray .byte, 2) := by decide +kernel
theorem dX12_init_33 : decode cX12_init 33 = .ok (.putfield 21, 3) := by decide +kernel
theorem dX12_init_36 : decode cX12_init 36 = .ok (.aload_n 0, 1) := by decide +kernel
theorem dX12_init_37 : decode cX12_init 37 = .ok (.iconst 4, 1) := by decide +kernel
theorem dX12_init_38 : decode cX12_init 38 = .ok (.newarray .int, 2) := by decide +kernel
theorem dX12_init_40 : decode cX12_init 40 = .ok (.putfield 24, 3) := by decide +kernel
theorem dX12_init_43 : decode cX12_init 43 = .ok (.aload_n 0, 1) := by decide +kernel
theorem dX12_init_44 : decode cX12_init 44 = .ok (.bipush 64, 2) := by decide +kernel
theorem dX12_init_46 : decode cX12_init 46 = .ok (.newarray .byte, 2) := by decide +kernel
theorem dX12_init_48 : decode cX12_init 48 = .ok (.putfield 27, 3) := by decide +kernel
theorem dX12_init_51 : decode cX12_init 51 = .ok (.aload_n 0, 1) := by decide +kernel
theorem dX12_init_52 : decode cX12_init 52 = .ok (.iconst 4, 1) := by decide +kernel
theorem dX12_init_53 : decode cX12_init 53 = .ok (.newarray .int, 2) := by decide +kernel
theorem dX12_init_55 : decode cX12_init 55 = .ok (.putfield 30, 3) := by decide +kernel
theorem dX12_init_58 : decode cX12_init 58 = .ok (.aload_n 0, 1) := by decide +kernel
theorem dX12_init_59 : decode cX12_init 59 = .ok (.sipush 128, 3) := by decide +kernel
theorem dX12_init_62 : decode cX12_init 62 = .ok (.newarray .byte, 2) := by decide +kernel
theorem dX12_init_64 : decode cX12_init 64 = .ok (.putfield 33, 3) := by decide +kernel
theorem dX12_init_67 : decode cX12_init 67 = .ok (.aload_n 0, 1) := by decide +kernel
theorem dX12_init_68 : decode cX12_init 68 = .ok (.iconst 4, 1) := by decide +kernel
theorem dX12_init_69 : decode cX12_init 69 = .ok (.newarray .boolean, 2) := by decide +kernel
theorem dX12_init_71 : decode cX12_init 71 = .ok (.putfield 36, 3) := by decide +kernel
theorem dX12_init_74 : decode cX12_init 74 = .ok (.aload_n 0, 1) := by decide +kernel
theorem dX12_init_75 : decode cX12_init 75 = .ok (.iconst 4, 1) := by decide +kernel
theorem dX12_init_76 : decode cX12_init 76 = .ok (.newarray .int, 2) := by decide +kernel
theorem dX12_init_78 : decode cX12_init 78 = .ok (.putfield 39, 3) := by decide +kernel
theorem dX12_init_81 : decode cX12_init 81 = .ok (.aload_n 0, 1) := by decide +kernel
theorem dX12_init_82 : decode cX12_init 82 = .ok (.iconst 4, 1) := by decide +kernel
theorem dX12_init_83 : decode cX12_init 83 = .ok (.newarray .int, 2) := by decide +kernel
theorem dX12_init_85 : decode cX12_init 85 = .ok (.putfield 42, 3) := by decide +kernel
theorem dX12_init_88 : decode cX12_init 88 = .ok (.aload_n 0, 1) := by decide +kernel
theorem dX12_init_89 : decode cX12_init 89 = .ok (.iconst 4, 1) := by decide +kernel
theorem dX12_init_90 : decode cX12_init 90 = .ok (.newarray .boolean, 2) := by decide +kernel
theorem dX12_init_92 : decode cX12_init 92 = .ok (.putfield 45, 3) := by decide +kernel
theorem dX12_init_95 : decode cX12_init 95 = .ok (.aload_n 0, 1) := by decide +kernel
theorem dX12_init_96 : decode cX12_init 96 = .ok (.iconst 4, 1) := by decide +kernel
theorem dX12_init_97 : decode cX12_init 97 = .ok (.newarray .boolean, 2) := by decide +kernel
theorem dX12_init_99 : decode cX12_init 99 = .ok (.putfield 48, 3) := by decide +kernel
theorem dX12_init_102 : decode cX12_init 102 = .ok (.aload_n 0, 1) := by decide +kernel
theorem dX12_init_103 : decode cX12_init 103 = .ok (.ldc 51, 2) := by decide +kernel
theorem dX12_init_105 : decode cX12_init 105 = .ok (.newarray .byte, 2) := by decide +kernel
theorem dX12_init_107 : decode cX12_init 107 = .ok (.putfield 52, 3) := by decide +kernel
theorem dX12_init_110 : decode cX12_init 110 = .ok (.aload_n 0, 1) := by decide +kernel
theorem dX12_init_111 : decode cX12_init 111 = .ok (.sipush 132, 3) := by decide +kernel
theorem dX12_init_114 : decode cX12_init 114 = .ok (.newarray .int, 2) := by decide +kernel
theorem dX12_init_116 : decode cX12_init 116 = .ok (.putfield 55, 3) := by decide +kernel
theorem dX12_init_119 : decode cX12_init 119 = .ok (.aload_n 0, 1) := by decide +kernel
theorem dX12_init_120 : decode cX12_init 120 = .ok (.iconst 4, 1) := by decide +kernel
theorem dX12_init_121 : decode cX12_init 121 = .ok (.newarray .int, 2) := by decide +kernel
theorem dX12_init_123 : decode cX12_init 123 = .ok (.putfield 58, 3) := by decide +kernel
theorem dX12_init_126 : decode cX12_init 126 = .ok (.aload_n 0, 1) := by decide +kernel
theorem dX12_init_127 : decode cX12_init 127 = .ok (.sipush 8000, 3) := by decide +kernel
theorem dX12_init_130 : decode cX12_init 130 = .ok (.newarray .byte, 2) := by decide +kernel
theorem dX12_init_132 : decode cX12_init 132 = .ok (.putfield 61, 3) := by decide +kernel
theorem dX12_init_135 : decode cX12_init 135 = .ok (.aload_n 0, 1) := by decide +kernel
theorem dX12_init_136 : decode cX12_init 136 = .ok (.iconst 4, 1) := by decide +kernel
theorem dX12_init_137 : decode cX12_init 137 = .ok (.newarray .int, 2) := by decide +kernel
theorem dX12_init_139 : decode cX12_init 139 = .ok (.putfield 64, 3) := by decide +kernel
theorem dX12_init_142 : decode cX12_init 142 = .ok (.aload_n 0, 1) := by decide +kernel
theorem dX12_init_143 : decode cX12_init 143 = .ok (.sipush 1600, 3) := by decide +kernel
theorem dX12_init_146 : decode cX12_init 146 = .ok (.newarray .byte, 2) := by decide +kernel
theorem dX12_init_148 : decode cX12_init 148 = .ok (.putfield 67, 3) := by decide +kernel
theorem dX12_init_151 : decode cX12_init 151 = .ok (.aload_n 0, 1) := by decide +kernel
theorem dX12_init_152 : decode cX12_init 152 = .ok (.iconst 4, 1) := by decide +kernel
theorem dX12_init_153 : decode cX12_init 153 = .ok (.newarray .int, 2) := by decide +kernel
theorem dX12_init_155 : decode cX12_init 155 = .ok (.putfield 70, 3) := by decide +kernel
theorem dX12_init_158 : decode cX12_init 158 = .ok (.aload_n 0, 1) := by decide +kernel
theorem dX12_init_159 : decode cX12_init 159 = .ok (.sipush 128, 3) := by decide +kernel
theorem dX12_init_162 : decode cX12_init 162 = .ok (.newarray .byte, 2) := by decide +kernel
theorem dX12_init_164 : decode cX12_init 164 = .ok (.putfield 73, 3) := by decide +kernel
theorem dX12_init_167 : decode cX12_init 167 = .ok (.aload_n 0, 1) := by decide +kernel
theorem dX12_init_168 : decode cX12_init 168 = .ok (.sipush 128, 3) := by decide +kernel
theorem dX12_init_171 : decode cX12_init 171 = .ok (.newarray .byte, 2) := by decide +kernel
theorem dX12_init_173 : decode cX12_init 173 = .ok (.putfield 76, 3) := by decide +kernel
theorem dX12_init_176 : decode cX12_init 176 = .ok (.aload_n 0, 1) := by decide +kernel
theorem dX12_init_177 : decode cX12_init 177 = .ok (.sipush 128, 3) := by decide +kernel
theorem dX12_init_180 : decode cX12_init 180 = .ok (.newarray .byte, 2) := by decide +kernel
theorem dX12_init_182 : decode cX12_init 182 = .ok (.putfield 79, 3) := by decide +kernel
theorem dX12_init_185 : decode cX12_init 185 = .ok (.aload_n 0, 1) := by decide +kernel
theorem dX12_init_186 : decode cX12_init 186 = .ok (.sipush 128, 3) := by decide +kernel
theorem dX12_init_189 : decode cX12_init 189 = .ok (.newarray .byte, 2) := by decide +kernel
theorem dX12_init_191 : decode cX12_init 191 = .ok (.putfield 82, 3) := by decide +kernel
theorem dX12_init_194 : decode cX12_init 194 = .ok (.aload_n 0, 1) := by decide +kernel
theorem dX12_init_195 : decode cX12_init 195 = .ok (.iconst 4, 1) := by decide +kernel
theorem dX12_init_196 : decode cX12_init 196 = .ok (.newarray .boolean, 2) := by decide +kernel
theorem dX12_init_198 : decode cX12_init 198 = .ok (.putfield 85, 3) := by decide +kernel
theorem dX12_init_201 : decode cX12_init 201 = .ok (.aload_n 0, 1) := by decide +kernel
theorem dX12_init_202 : decode cX12_init 202 = .ok (.iconst 4, 1) := by decide +kernel
theorem dX12_init_203 : decode cX12_init 203 = .ok (.newarray .boolean, 2) := by decide +kernel
theorem dX12_init_205 : decode cX12_init 205 = .ok (.putfield 88, 3) := by decide +kernel
theorem dX12_init_208 : decode cX12_init 208 = .ok (.aload_n 0, 1) := by decide +kernel
theorem dX12_init_209 : decode cX12_init 209 = .ok (.iconst 4, 1) := by decide +kernel
theorem dX12_init_210 : decode cX12_init 210 = .ok (.newarray .int, 2) := by decide +kernel
theorem dX12_init_212 : decode cX12_init 212 = .ok (.putfield 91, 3) := by decide +kernel
theorem dX12_init_215 : decode cX12_init 215 = .ok (.aload_n 0, 1) := by decide +kernel
theorem dX12_init_216 : decode cX12_init 216 = .ok (.iconst 4, 1) := by decide +kernel
theorem dX12_init_217 : decode cX12_init 217 = .ok (.newarray .int, 2) := by decide +kernel
theorem dX12_init_219 : decode cX12_init 219 = .ok (.putfield 94, 3) := by decide +kernel
theorem dX12_init_222 : decode cX12_init 222 = .ok (.aload_n 0, 1) := by decide +kernel
theorem dX12_init_223 : decode cX12_init 223 = .ok (.bipush 64, 2) := by decide +kernel
theorem dX12_init_225 : decode cX12_init 225 = .ok (.newarray .int, 2) := by decide +kernel
theorem dX12_init_227 : decode cX12_init 227 = .ok (.putfield 97, 3) := by decide +kernel
theorem dX12_init_230 : decode cX12_init 230 = .ok (.aload_n 0, 1) := by decide +kernel
theorem dX12_init_231 : decode cX12_init 231 = .ok (.bipush 64, 2) := by decide +kernel
theorem dX12_init_233 : decode cX12_init 233 = .ok (.newarray .int, 2) := by decide +kernel
theorem dX12_init_235 : decode cX12_init 235 = .ok (.putfield 100, 3) := by decide +kernel
theorem dX12_init_238 : decode cX12_init 238 = .ok (.aload_n 0, 1) := by decide +kernel
theorem dX12_init_239 : decode cX12_init 239 = .ok (.bipush 8, 2) := by decide +kernel
theorem dX12_init_241 : decode cX12_init 241 = .ok (.newarray .int, 2) := by decide +kernel
theorem dX12_init_243 : decode cX12_init 243 = .ok (.putfield 103, 3) := by decide +kernel
theorem dX12_init_246 : decode cX12_init 246 = .ok (.aload_n 0, 1) := by decide +kernel
theorem dX12_init_247 : decode cX12_init 247 = .ok (.bipush 64, 2) := by decide +kernel
theorem dX12_init_249 : decode cX12_init 249 = .ok (.newarray .byte, 2) := by decide +kernel
theorem dX12_init_251 : decode cX12_init 251 = .ok (.putfield 106, 3) := by decide +kernel
theorem dX12_init_254 : decode cX12_init 254 = .ok (.aload_n 0, 1) := by decide +kernel
theorem dX12_init_255 : decode cX12_init 255 = .ok (.sipush 1200, 3) := by decide +kernel
theorem dX12_init_258 : decode cX12_init 258 = .ok (.newarray .byte, 2) := by decide +kernel
theorem dX12_init_260 : decode cX12_init 260 = .ok (.putfield 109, 3) := by decide +kernel
theorem dX12_init_263 : decode cX12_init 263 = .ok (.aload_n 0, 1) := by decide +kernel
theorem dX12_init_264 : decode cX12_init 264 = .ok (.bipush 96, 2) := by decide +kernel
theorem dX12_init_266 : decode cX12_init 266 = .ok (.newarray .byte, 2) := by decide +kernel
theorem dX12_init_268 : decode cX12_init 268 = .ok (.putfield 112, 3) := by decide +kernel
theorem dX12_init_271 : decode cX12_init 271 = .ok (.aload_n 0, 1) := by decide +kernel
theorem dX12_init_272 : decode cX12_init 272 = .ok (.bipush 100, 2) := by decide +kernel
theorem dX12_init_274 : decode cX12_init 274 = .ok (.newarray .byte, 2) := by decide +kernel
theorem dX12_init_276 : decode cX12_init 276 = .ok (.putfield 115, 3) := by decide +kernel
theorem dX12_init_279 : decode cX12_init 279 = .ok (.aload_n 0, 1) := by decide +kernel
theorem dX12_init_280 : decode cX12_init 280 = .ok (.bipush 32, 2) := by decide +kernel
theorem dX12_init_282 : decode cX12_init 282 = .ok (.newarray .byte, 2) := by decide +kernel
theorem dX12_init_284 : decode cX12_init 284 = .ok (.putfield 118, 3) := by decide +kernel
theorem dX12_init_287 : decode cX12_init 287 = .ok (.aload_n 0, 1) := by decide +kernel
theorem dX12_init_288 : decode cX12_init 288 = .ok (.bipush 32, 2) := by decide +kernel
theorem dX12_init_290 : decode cX12_init 290 = .ok (.newarray .byte, 2) := by decide +kernel
theorem dX12_init_292 : decode cX12_init 292 = .ok (.putfield 121, 3) := by decide +kernel
theorem dX12_init_295 : decode cX12_init 295 = .ok (.aload_n 0, 1) := by decide +kernel
theorem dX12_init_296 : decode cX12_init 296 = .ok (.bipush 32, 2) := by decide +kernel
theorem dX12_init_298 : decode cX12_init 298 = .ok (.newarray .byte, 2) := by decide +kernel
theorem dX12_init_300 : decode cX12_init 300 = .ok (.putfield 124, 3) := by decide +kernel
theorem dX12_init_303 : decode cX12_init 303 = .ok (.aload_n 0, 1) := by decide +kernel
theorem dX12_init_304 : decode cX12_init 304 = .ok (.bipush 32, 2) := by decide +kernel
theorem dX12_init_306 : decode cX12_init 306 = .ok (.newarray .byte, 2) := by decide +kernel
theorem dX12_init_308 : decode cX12_init 308 = .ok (.putfield 127, 3) := by decide +kernel
theorem dX12_init_311 : decode cX12_init 311 = .ok (.aload_n 0, 1) := by decide +kernel
theorem dX12_init_312 : decode cX12_init 312 = .ok (.bipush 32, 2) := by decide +kernel
theorem dX12_init_314 : decode cX12_init 314 = .ok (.newarray .byte, 2) := by decide +kernel
theorem dX12_init_316 : decode cX12_init 316 = .ok (.putfield 130, 3) := by decide +kernel
theorem dX12_init_319 : decode cX12_init 319 = .ok (.aload_n 0, 1) := by decide +kernel
theorem dX12_init_320 : decode cX12_init 320 = .ok (.bipush 32, 2) := by decide +kernel
theorem dX12_init_322 : decode cX12_init 322 = .ok (.newarray .byte, 2) := by decide +kernel
theorem dX12_init_324 : decode cX12_init 324 = .ok (.putfield 133, 3) := by decide +kernel
theorem dX12_init_327 : decode cX12_init 327 = .ok (.aload_n 0, 1) := by decide +kernel
theorem dX12_init_328 : decode cX12_init 328 = .ok (.bipush 32, 2) := by decide +kernel
theorem dX12_init_330 : decode cX12_init 330 = .ok (.newarray .byte, 2) := by decide +kernel
theorem dX12_init_332 : decode cX12_init 332 = .ok (.putfield 136, 3) := by decide +kernel
theorem dX12_init_335 : decode cX12_init 335 = .ok (.aload_n 0, 1) := by decide +kernel
theorem dX12_init_336 : decode cX12_init 336 = .ok (.bipush 32, 2) := by decide +kernel
theorem dX12_init_338 : decode cX12_init 338 = .ok (.newarray .byte, 2) := by decide +kernel
theorem dX12_init_340 : decode cX12_init 340 = .ok (.putfield 139, 3) := by decide +kernel
theorem dX12_init_343 : decode cX12_init 343 = .ok (.aload_n 0, 1) := by decide +kernel
theorem dX12_init_344 : decode cX12_init 344 = .ok (.bipush 16, 2) := by decide +kernel
theorem dX12_init_346 : decode cX12_init 346 = .ok (.newarray .int, 2) := by decide +kernel
theorem dX12_init_348 : decode cX12_init 348 = .ok (.putfield 142, 3) := by decide +kernel
theorem dX12_init_351 : decode cX12_init 351 = .ok (.aload_n 0, 1) := by decide +kernel
theorem dX12_init_352 : decode cX12_init 352 = .ok (.bipush 16, 2) := by decide +kernel
theorem dX12_init_354 : decode cX12_init 354 = .ok (.newarray .int, 2) := by decide +kernel
theorem dX12_init_356 : decode cX12_init 356 = .ok (.putfield 145, 3) := by decide +kernel
theorem dX12_init_359 : decode cX12_init 359 = .ok (.aload_n 0, 1) := by decide +kernel
theorem dX12_init_360 : decode cX12_init 360 = .ok (.bipush 64, 2) := by decide +kernel
theorem dX12_init_362 : decode cX12_init 362 = .ok (.newarray .byte, 2) := by decide +kernel
theorem dX12_init_364 : decode cX12_init 364 = .ok (.putfield 148, 3) := by decide +kernel
theorem dX12_init_367 : decode cX12_init 367 = .ok (.aload_n 0, 1) := by decide +kernel
theorem dX12_init_368 : decode cX12_init 368 = .ok (.bipush 32, 2) := by decide +kernel
theorem dX12_init_370 : decode cX12_init 370 = .ok (.newarray .byte, 2) := by decide +kernel
theorem dX12_init_372 : decode cX12_init 372 = .ok (.putfield 151, 3) := by decide +kernel
theorem dX12_init_375 : decode cX12_init 375 = .ok (.aload_n 0, 1) := by decide +kernel
theorem dX12_init_376 : decode cX12_init 376 = .ok (.bipush 12, 2) := by decide +kernel
theorem dX12_init_378 : decode cX12_init 378 = .ok (.newarray .byte, 2) := by decide +kernel
theorem dX12_init_380 : decode cX12_init 380 = .ok (.putfield 154, 3) := by decide +kernel
theorem dX12_init_383 : decode cX12_init 383 = .ok (.aload_n 0, 1) := by decide +kernel
theorem dX12_init_384 : decode cX12_init 384 = .ok (.iconst 5, 1) := by decide +kernel
theorem dX12_init_385 : decode cX12_init 385 = .ok (.newarray .long, 2) := by decide +kernel
theorem dX12_init_387 : decode cX12_init 387 = .ok (.putfield 157, 3) := by decide +kernel
theorem dX12_init_390 : decode cX12_init 390 = .ok (.aload_n 0, 1) := by decide +kernel
theorem dX12_init_391 : decode cX12_init 391 = .ok (.iconst 5, 1) := by decide +kernel
theorem dX12_init_392 : decode cX12_init 392 = .ok (.newarray .long, 2) := by decide +kernel
theorem dX12_init_394 : decode cX12_init 394 = .ok (.putfield 161, 3) := by decide +kernel
theorem dX12_init_397 : decode cX12_init 397 = .ok (.aload_n 0, 1) := by decide +kernel
theorem dX12_init_398 : decode cX12_init 398 = .ok (.iconst 5, 1) := by decide +kernel
theorem dX12_init_399 : decode cX12_init 399 = .ok (.newarray .long, 2) := by decide +kernel
theorem dX12_init_401 : decode cX12_init 401 = .ok (.putfield 164, 3) := by decide +kernel
theorem dX12_init_404 : decode cX12_init 404 = .ok (.aload_n 0, 1) := by decide +kernel
theorem dX12_init_405 : decode cX12_init 405 = .ok (.bipush 17, 2) := by decide +kernel
theorem dX12_init_407 : decode cX12_init 407 = .ok (.newarray .byte, 2) := by decide +kernel
theorem dX12_init_409 : decode cX12_init 409 = .ok (.putfield 167, 3) := by decide +kernel
theorem dX12_init_412 : decode cX12_init 412 = .ok (.aload_n 0, 1) := by decide +kernel
theorem dX12_init_413 : decode cX12_init 413 = .ok (.bipush 16, 2) := by decide +kernel
theorem dX12_init_415 : decode cX12_init 415 = .ok (.newarray .byte, 2) := by decide +kernel
theorem dX12_init_417 : decode cX12_init 417 = .ok (.putfield 170, 3) := by decide +kernel
theorem dX12_init_420 : decode cX12_init 420 = .ok (.aload_n 0, 1) := by decide +kernel
theorem dX12_init_421 : decode cX12_init 421 = .ok (.bipush 16, 2) := by decide +kernel
theorem dX12_init_423 : decode cX12_init 423 = .ok (.newarray .byte, 2) := by decide +kernel
theorem dX12_init_425 : decode cX12_init 425 = .ok (.putfield 173, 3) := by decide +kernel
theorem dX12_init_428 : decode cX12_init 428 = .ok (.aload_n 0, 1) := by decide +kernel
theorem dX12_init_429 : decode cX12_init 429 = .ok (.sipush 500, 3) := by decide +kernel
theorem dX12_init_432 : decode cX12_init 432 = .ok (.newarray .byte, 2) := by decide +kernel
theorem dX12_init_434 : decode cX12_init 434 = .ok (.putfield 176, 3) := by decide +kernel
theorem dX12_init_437 : decode cX12_init 437 = .ok (.aload_n 0, 1) := by decide +kernel
theorem dX12_init_438 : decode cX12_init 438 = .ok (.bipush 32, 2) := by decide +kernel
theorem dX12_init_440 : decode cX12_init 440 = .ok (.newarray .byte, 2) := by decide +kernel
theorem dX12_init_442 : decode cX12_init 442 = .ok (.putfield 179, 3) := by decide +kernel
theorem dX12_init_445 : decode cX12_init 445 = .ok (.aload_n 0, 1) := by decide +kernel
theorem dX12_init_446 : decode cX12_init 446 = .ok (.sipush 640, 3) := by decide +kernel
theorem dX12_init_449 : decode cX12_init 449 = .ok (.newarray .byte, 2) := by decide +kernel
theorem dX12_init_451 : decode cX12_init 451 = .ok (.putfield 182, 3) := by decide +kernel
theorem dX12_init_454 : decode cX12_init 454 = .ok (.aload_n 0, 1) := by decide +kernel
theorem dX12_init_455 : decode cX12_init 455 = .ok (.bipush 32, 2) := by decide +kernel
theorem dX12_init_457 : decode cX12_init 457 = .ok (.newarray .byte, 2) := by decide +kernel
theorem dX12_init_459 : decode cX12_init 459 = .ok (.putfield 185, 3) := by decide +kernel
theorem dX12_init_462 : decode cX12_init 462 = .ok (.aload_n 0, 1) := by decide +kernel
theorem dX12_init_463 : decode cX12_init 463 = .ok (.iconst 0, 1) := by decide +kernel
theorem dX12_init_464 : decode cX12_init 464 = .ok (.ldc 188, 2) := by decide +kernel
theorem dX12_init_466 : decode cX12_init 466 = .ok (.ldc 189, 2) := by decide +kernel
theorem dX12_init_468 : decode cX12_init 468 = .ok (.ldc 190, 2) := by decide +kernel
theorem dX12_init_470 : decode cX12_init 470 = .ok (.ldc 191, 2) := by decide +kernel
theorem dX12_init_472 : decode cX12_init 472 = .ok (.ldc 192, 2) := by decide +kernel
theorem dX12_init_474 : decode cX12_init 474 = .ok (.ldc 193, 2) := by decide +kernel
theorem dX12_init_476 : decode cX12_init 476 = .ok (.ldc 194, 2) := by decide +kernel
theorem dX12_init_478 : decode cX12_init 478 = .ok (.ldc 195, 2) := by decide +kernel
theorem dX12_init_480 : decode cX12_init 480 = .ok (.invokevirtual 196, 3) := by decide +kernel
theorem dX12_init_483 : decode cX12_init 483 = .ok (.aload_n 0, 1) := by decide +kernel
theorem dX12_init_484 : decode cX12_init 484 = .ok (.bipush 8, 2) := by decide +kernel
theorem dX12_init_486 : decode cX12_init 486 = .ok (.ldc 200, 2) := by decide +kernel
theorem dX12_init_488 : decode cX12_init 488 = .ok (.ldc 201, 2) := by decide +kernel
theorem dX12_init_490 : decode cX12_init 490 = .ok (.ldc 202, 2) := by decide +kernel
theorem dX12_init_492 : decode cX12_init 492 = .ok (.ldc 203, 2) := by decide +kernel
theorem dX12_init_494 : decode cX12_init 494 = .ok (.ldc 204, 2) := by decide +kernel
theorem dX12_init_496 : decode cX12_init 496 = .ok (.ldc 205, 2) := by decide +kernel
theorem dX12_init_498 : decode cX12_init 498 = .ok (.ldc 206, 2) := by decide +kernel
theorem dX12_init_500 : decode cX12_init 500 = .ok (.ldc 207, 2) := by decide +kernel
theorem dX12_init_502 : decode cX12_init 502 = .ok (.invokevirtual 196, 3) := by decide +kernel
theorem dX12_init_505 : decode cX12_init 505 = .ok (.aload_n 0, 1) := by decide +kernel
theorem dX12_init_506 : decode cX12_init 506 = .ok (.bipush 16, 2) := by decide +kernel
theorem dX12_init_508 : decode cX12_init 508 = .ok (.ldc 208, 2) := by decide +kernel
theorem dX12_init_510 : decode cX12_init 510 = .ok (.ldc 209, 2) := by decide +kernel
theorem dX12_init_512 : decode cX12_init 512 = .ok (.ldc 210, 2) := by decide +kernel
theorem dX12_init_514 : decode cX12_init 514 = .ok (.ldc 211, 2) := by decide +kernel
theorem dX12_init_516 : decode cX12_init 516 = .ok (.ldc 212, 2) := by decide +kernel
theorem dX12_init_518 : decode cX12_init 518 = .ok (.ldc 213, 2) := by decide +kernel
theorem dX12_init_520 : decode cX12_init 520 = .ok (.ldc 214, 2) := by decide +kernel
theorem dX12_init_522 : decode cX12_init 522 = .ok (.ldc 215, 2) := by decide +kernel
theorem dX12_init_524 : decode cX12_init 524 = .ok (.invokevirtual 196, 3) := by decide +kernel
theorem dX12_init_527 : decode cX12_init 527 = .ok (.aload_n 0, 1) := by decide +kernel
theorem dX12_init_528 : decode cX12_init 528 = .ok (.bipush 24, 2) := by decide +kernel
theorem dX12_init_530 : decode cX12_init 530 = .ok (.ldc 216, 2) := by decide +kernel
theorem dX12_init_532 : decode cX12_init 532 = .ok (.ldc 217, 2) := by decide +kernel
theorem dX12_init_534 : decode cX12_init 534 = .ok (.ldc 218, 2) := by decide +kernel
theorem dX12_init_536 : decode cX12_init 536 = .ok (.ldc 219, 2) := by decide +kernel
theorem dX12_init_538 : decode cX12_init 538 = .ok (.ldc 220, 2) := by decide +kernel
theorem dX12_init_540 : decode cX12_init 540 = .ok (.ldc 221, 2) := by decide +kernel
theorem dX12_init_542 : decode cX12_init 542 = .ok (.ldc 222, 2) := by decide +kernel
theorem dX12_init_544 : decode cX12_init 544 = .ok (.ldc 223, 2) := by decide +kernel
theorem dX12_init_546 : decode cX12_init 546 = .ok (.invokevirtual 196, 3) := by decide +kernel
theorem dX12_init_549 : decode cX12_init 549 = .ok (.aload_n 0, 1) := by decide +kernel
theorem dX12_init_550 : decode cX12_init 550 = .ok (.bipush 32, 2) := by decide +kernel
theorem dX12_init_552 : decode cX12_init 552 = .ok (.ldc 224, 2) := by decide +kernel
theorem dX12_init_554 : decode cX12_init 554 = .ok (.ldc 225, 2) := by decide +kernel
theorem dX12_init_556 : decode cX12_init 556 = .ok (.ldc 226, 2) := by decide +kernel
theorem dX12_init_558 : decode cX12_init 558 = .ok (.ldc 227, 2) := by decide +kernel
theorem dX12_init_560 : decode cX12_init 560 = .ok (.ldc 228, 2) := by decide +kernel
theorem dX12_init_562 : decode cX12_init 562 = .ok (.ldc 229, 2) := by decide +kernel
theorem dX12_init_564 : decode cX12_init 564 = .ok (.ldc 230, 2) := by decide +kernel
theorem dX12_init_566 : decode cX12_init 566 = .ok (.ldc 231, 2) := by decide +kernel
theorem dX12_init_568 : decode cX12_init 568 = .ok (.invokevirtual 196, 3) := by decide +kernel
theorem dX12_init_571 : decode cX12_init 571 = .ok (.aload_n 0, 1) := by decide +kernel
theorem dX12_init_572 : decode cX12_init 572 = .ok (.bipush 40, 2) := by decide +kernel
theorem dX12_init_574 : decode cX12_init 574 = .ok (.ldc 232, 2) := by decide +kernel
theorem dX12_init_576 : decode cX12_init 576 = .ok (.ldc 233, 2) := by decide +kernel
theorem dX12_init_578 : decode cX12_init 578 = .ok (.ldc 234, 2) := by decide +kernel
theorem dX12_init_580 : decode cX12_init 580 = .ok (.ldc 235, 2) := by decide +kernel
theorem dX12_init_582 : decode cX12_init 582 = .ok (.ldc 236, 2) := by decide +kernel
theorem dX12_init_584 : decode cX12_init 584 = .ok (.ldc 237, 2) := by decide +kernel
theorem dX12_init_586 : decode cX12_init 586 = .ok (.ldc 238, 2) := by decide +kernel
theorem dX12_init_588 : decode cX12_init 588 = .ok (.ldc 239, 2) := by decide +kernel
theorem dX12_init_590 : decode cX12_init 590 = .ok (.invokevirtual 196, 3) := by decide +kernel
theorem dX12_init_593 : decode cX12_init 593 = .ok (.aload_n 0, 1) := by decide +kernel
theorem dX12_init_594 : decode cX12_init 594 = .ok (.bipush 48, 2) := by decide +kernel
theorem dX12_init_596 : decode cX12_init 596 = .ok (.ldc 240, 2) := by decide +kernel
theorem dX12_init_598 : decode cX12_init 598 = .ok (.ldc 241, 2) := by decide +kernel
theorem dX12_init_600 : decode cX12_init 600 = .ok (.ldc 242, 2) := by decide +kernel
theorem dX12_init_602 : decode cX12_init 602 = .ok (.ldc 243, 2) := by decide +kernel
theorem dX12_init_604 : decode cX12_init 604 = .ok (.ldc 244, 2) := by decide +kernel
theorem dX12_init_606 : decode cX12_init 606 = .ok (.ldc 245, 2) := by decide +kernel
theorem dX12_init_608 : decode cX12_init 608 = .ok (.ldc 246, 2) := by decide +kernel
theorem dX12_init_610 : decode cX12_init 610 = .ok (.ldc 247, 2) := by decide +kernel
theorem dX12_init_612 : decode cX12_init 612 = .ok (.invokevirtual 196, 3) := by decide +kernel
theorem dX12_init_615 : decode cX12_init 615 = .ok (.aload_n 0, 1) := by decide +kernel
theorem dX12_init_616 : decode cX12_init 616 = .ok (.bipush 56, 2) := by decide +kernel
theorem dX12_init_618 : decode cX12_init 618 = .ok (.ldc 248, 2) := by decide +kernel
theorem dX12_init_620 : decode cX12_init 620 = .ok (.ldc 249, 2) := by decide +kernel
theorem dX12_init_622 : decode cX12_init 622 = .ok (.ldc 250, 2) := by decide +kernel
theorem dX12_init_624 : decode cX12_init 624 = .ok (.ldc 251, 2) := by decide +kernel
theorem dX12_init_626 : decode cX12_init 626 = .ok (.ldc 252, 2) := by decide +kernel
theorem dX12_init_628 : decode cX12_init 628 = .ok (.ldc 253, 2) := by decide +kernel
theorem dX12_init_630 : decode cX12_init 630 = .ok (.ldc 254, 2) := by decide +kernel
theorem dX12_init_632 : decode cX12_init 632 = .ok (.ldc 255, 2) := by decide +kernel
theorem dX12_init_634 : decode cX12_init 634 = .ok (.invokevirtual 196, 3) := by decide +kernel
theorem dX12_init_637 : decode cX12_init 637 = .ok (.iconst 0, 1) := by decide +kernel
theorem dX12_init_638 : decode cX12_init 638 = .ok (.istore_n 1, 1) := by decide +kernel
theorem dX12_init_639 : decode cX12_init 639 = .ok (.iload_n 1, 1) := by decide +kernel
theorem dX12_init_640 : decode cX12_init 640 = .ok (.iconst 4, 1) := by decide +kernel
theorem dX12_init_641 : decode cX12_init 641 = .ok (.if_icmp .ge 23, 3) := by decide +kernel
theorem dX12_init_644 : decode cX12_init 644 = .ok (.aload_n 0, 1) := by decide +kernel
theorem dX12_init_645 : decode cX12_init 645 = .ok (.getfield 39, 3) := by decide +kernel
theorem dX12_init_648 : decode cX12_init 648 = .ok (.iload_n 1, 1) := by decide +kernel
theorem dX12_init_649 : decode cX12_init 649 = .ok (.iconst (-1), 1) := by decide +kernel
theorem dX12_init_650 : decode cX12_init 650 = .ok (.iastore, 1) := by decide +kernel
theorem dX12_init_651 : decode cX12_init 651 = .ok (.aload_n 0, 1) := by decide +kernel
theorem dX12_init_652 : decode cX12_init 652 = .ok (.getfield 42, 3) := by decide +kernel
theorem dX12_init_655 : decode cX12_init 655 = .ok (.iload_n 1, 1) := by decide +kernel
theorem dX12_init_656 : decode cX12_init 656 = .ok (.iconst (-1), 1) := by decide +kernel
theorem dX12_init_657 : decode cX12_init 657 = .ok (.iastore, 1) := by decide +kernel
theorem dX12_init_658 : decode cX12_init 658 = .ok (.iinc 1 1, 3) := by decide +kernel
theorem dX12_init_661 : decode cX12_init 661 = .ok (.goto (-22), 3) := by decide +kernel
theorem dX12_init_664 : decode cX12_init 664 = .ok (.return_, 1) := by decide +kernel
theorem dX12_isIn_0 : decode cX12_isIn 0 = .ok (.iload_n 0, 1) := by decide +kernel
theorem dX12_isIn_1 : decode cX12_isIn 1 = .ok (.iload_n 1, 1) := by decide +kernel
theorem dX12_isIn_2 : decode cX12_isIn 2 = .ok (.if_icmp .lt 12, 3) := by decide +kernel
theorem dX12_isIn_5 : decode cX12_isIn 5 = .ok (.iload_n 0, 1) := by decide +kernel
theorem dX12_isIn_6 : decode cX12_isIn 6 = .ok (.iload_n 2, 1) := by decide +kernel
theorem dX12_isIn_7 : decode cX12_isIn 7 = .ok (.if_icmp .gt 7, 3) := by decide +kernel
theorem dX12_isIn_10 : decode cX12_isIn 10 = .ok (.iconst 1, 1) := by decide +kernel
theorem dX12_isIn_11 : decode cX12_isIn 11 = .ok (.goto 4, 3) := by decide +kernel
theorem dX12_isIn_14 : decode cX12_isIn 14 = .ok (.iconst 0, 1) := by decide +kernel
theorem dX12_isIn_15 : decode cX12_isIn 15 = .ok (.ireturn, 1) := by decide +kernel
theorem dX12_isEnd_0 : decode cX12_isEnd 0 = .ok (.iload_n 1, 1) := by decide +kernel
theorem dX12_isEnd_1 : decode cX12_isEnd 1 = .ok (.iconst 0, 1) := by decide +kernel
theorem dX12_isEnd_2 : decode cX12_isEnd 2 = .ok (.aload_n 0, 1) := by decide +kernel
theorem dX12_isEnd_3 : decode cX12_isEnd 3 = .ok (.getfield 256, 3) := by decide +kernel
theorem dX12_isEnd_6 : decode cX12_isEnd 6 = .ok (.iconst 1, 1) := by decide +kernel
theorem dX12_isEnd_7 : decode cX12_isEnd 7 = .ok (.isub, 1) := by decide +kernel
theorem dX12_isEnd_8 : decode cX12_isEnd 8 = .ok (.invokestatic 260, 3) := by decide +kernel
theorem dX12_isEnd_11 : decode cX12_isEnd 11 = .ok (.ireturn, 1) := by decide +kernel
theorem dX12_move_0 : decode cX12_move 0 = .ok (.iconst 0, 1) := by decide +kernel
theorem dX12_move_1 : decode cX12_move 1 = .ok (.istore 5, 2) := by decide +kernel
theorem dX12_move_3 : decode cX12_move 3 = .ok (.iload 5, 2) := by decide +kernel
theorem dX12_move_5 : decode cX12_move 5 = .ok (.iload 4, 2) := by decide +kernel
theorem dX12_move_7 : decode cX12_move 7 = .ok (.if_icmp .ge 21, 3) := by decide +kernel
theorem dX12_move_10 : decode cX12_move 10 = .ok (.aload_n 2, 1) := by decide +kernel
theorem dX12_move_11 : decode cX12_move 11 = .ok (.iload_n 3, 1) := by decide +kernel
theorem dX12_move_12 : decode cX12_move 12 = .ok (.iload 5, 2) := by decide +kernel
theorem dX12_move_14 : decode cX12_move 14 = .ok (.iadd, 1) := by decide +kernel
theorem dX12_move_15 : decode cX12_move 15 = .ok (.aload_n 0, 1) := by decide +kernel
theorem dX12_move_16 : decode cX12_move 16 = .ok (.iload_n 1, 1) := by decide +kernel
theorem dX12_move_17 : decode cX12_move 17 = .ok (.iload 5, 2) := by decide +kernel
theorem dX12_move_19 : decode cX12_move 19 = .ok (.iadd, 1) := by decide +kernel
theorem dX12_move_20 : decode cX12_move 20 = .ok (.baload, 1) := by decide +kernel
theorem dX12_move_21 : decode cX12_move 21 = .ok (.bastore, 1) := by decide +kernel
theorem dX12_move_22 : decode cX12_move 22 = .ok (.iinc 5 1, 3) := by decide +kernel
theorem dX12_move_25 : decode cX12_move 25 = .ok (.goto (-22), 3) := by decide +kernel
theorem dX12_move_28 : decode cX12_move 28 = .ok (.return_, 1) := by decide +kernel
theorem dX12_put8_0 : decode cX12_put8 0 = .ok (.aload_n 0, 1) := by decide +kernel
theorem dX12_put8_1 : decode cX12_put8 1 = .ok (.getfield 97, 3) := by decide +kernel
theorem dX12_put8_4 : decode cX12_put8 4 = .ok (.iload_n 1, 1) := by decide +kernel
theorem dX12_put8_5 : decode cX12_put8 5 = .ok (.iload_n 2, 1) := by decide +kernel
theorem dX12_put8_6 : decode cX12_put8 6 = .ok (.iastore, 1) := by decide +kernel
theorem dX12_put8_7 : decode cX12_put8 7 = .ok (.aload_n 0, 1) := by decide +kernel
theorem dX12_put8_8 : decode cX12_put8 8 = .ok (.getfield 97, 3) := by decide +kernel
theorem dX12_put8_11 : decode cX12_put8 11 = .ok (.iload_n 1, 1) := by decide +kernel
theorem dX12_put8_12 : decode cX12_put8 12 = .ok (.iconst 1, 1) := by decide +kernel
theorem dX12_put8_13 : decode cX12_put8 13 = .ok (.iadd, 1) := by decide +kernel
theorem dX12_put8_14 : decode cX12_put8 14 = .ok (.iload_n 3, 1) := by decide +kernel
theorem dX12_put8_15 : decode cX12_put8 15 = .ok (.iastore, 1) := by decide +kernel
theorem dX12_put8_16 : decode cX12_put8 16 = .ok (.aload_n 0, 1) := by decide +kernel
theorem dX12_put8_17 : decode cX12_put8 17 = .ok (.getfield 97, 3) := by decide +kernel
theorem dX12_put8_20 : decode cX12_put8 20 = .ok (.iload_n 1, 1) := by decide +kernel
theorem dX12_put8_21 : decode cX12_put8 21 = .ok (.iconst 2, 1) := by decide +kernel
theorem dX12_put8_22 : decode cX12_put8 22 = .ok (.iadd, 1) := by decide +kernel
theorem dX12_put8_23 : decode cX12_put8 23 = .ok (.iload 4, 2) := by decide +kernel
theorem dX12_put8_25 : decode cX12_put8 25 = .ok (.iastore, 1) := by decide +kernel
theorem dX12_put8_26 : decode cX12_put8 26 = .ok (.aload_n 0, 1) := by decide +kernel
theorem dX12_put8_27 : decode cX12_put8 27 = .ok (.getfield 97, 3) := by decide +kernel
theorem dX12_put8_30 : decode cX12_put8 30 = .ok (.iload_n 1, 1) := by decide +kernel
theorem dX12_put8_31 : decode cX12_put8 31 = .ok (.iconst 3, 1) := by decide +kernel
theorem dX12_put8_32 : decode cX12_put8 32 = .ok (.iadd, 1) := by decide +kernel
theorem dX12_put8_33 : decode cX12_put8 33 = .ok (.iload 5, 2) := by decide +kernel
theorem dX12_put8_35 : decode cX12_put8 35 = .ok (.iastore, 1) := by decide +kernel
theorem dX12_put8_36 : decode cX12_put8 36 = .ok (.aload_n 0, 1) := by decide +kernel
theorem dX12_put8_37 : decode cX12_put8 37 = .ok (.getfield 97, 3) := by decide +kernel
theorem dX12_put8_40 : decode cX12_put8 40 = .ok (.iload_n 1, 1) := by decide +kernel
theorem dX12_put8_41 : decode cX12_put8 41 = .ok (.iconst 4, 1) := by decide +kernel
theorem dX12_put8_42 : decode cX12_put8 42 = .ok (.iadd, 1) := by decide +kernel
theorem dX12_put8_43 : decode cX12_put8 43 = .ok (.iload 6, 2) := by decide +kernel
theorem dX12_put8_45 : decode cX12_put8 45 = .ok (.iastore, 1) := by decide +kernel
theorem dX12_put8_46 : decode cX12_put8 46 = .ok (.aload_n 0, 1) := by decide +kernel
theorem dX12_put8_47 : decode cX12_put8 47 = .ok (.getfield 97, 3) := by decide +kernel
theorem dX12_put8_50 : decode cX12_put8 50 = .ok (.iload_n 1, 1) := by decide +kernel
theorem dX12_put8_51 : decode cX12_put8 51 = .ok (.iconst 5, 1) := by decide +kernel
theorem dX12_put8_52 : decode cX12_put8 52 = .ok (.iadd, 1) := by decide +kernel
theorem dX12_put8_53 : decode cX12_put8 53 = .ok (.iload 7, 2) := by decide +kernel
theorem dX12_put8_55 : decode cX12_put8 55 = .ok (.iastore, 1) := by decide +kernel
theorem dX12_put8_56 : decode cX12_put8 56 = .ok (.aload_n 0, 1) := by decide +kernel
theorem dX12_put8_57 : decode cX12_put8 57 = .ok (.getfield 97, 3) := by decide +kernel
theorem dX12_put8_60 : decode cX12_put8 60 = .ok (.iload_n 1, 1) := by decide +kernel
theorem dX12_put8_61 : decode cX12_put8 61 = .ok (.bipush 6, 2) := by decide +kernel
theorem dX12_put8_63 : decode cX12_put8 63 = .ok (.iadd, 1) := by decide +kernel
theorem dX12_put8_64 : decode cX12_put8 64 = .ok (.iload 8, 2) := by decide +kernel
theorem dX12_put8_66 : decode cX12_put8 66 = .ok (.iastore, 1) := by decide +kernel
theorem dX12_put8_67 : decode cX12_put8 67 = .ok (.aload_n 0, 1) := by decide +kernel
theorem dX12_put8_68 : decode cX12_put8 68 = .ok (.getfield 97, 3) := by decide +kernel
theorem dX12_put8_71 : decode cX12_put8 71 = .ok (.iload_n 1, 1) := by decide +kernel
theorem dX12_put8_72 : decode cX12_put8 72 = .ok (.bipush 7, 2) := by decide +kernel
theorem dX12_put8_74 : decode cX12_put8 74 = .ok (.iadd, 1) := by decide +kernel
theorem dX12_put8_75 : decode cX12_put8 75 = .ok (.iload 9, 2) := by decide +kernel
theorem dX12_put8_77 : decode cX12_put8 77 = .ok (.iastore, 1) := by decide +kernel
theorem dX12_put8_78 : decode cX12_put8 78 = .ok (.return_, 1) := by decide +kernel
theorem dX12_turn_0 : decode cX12_turn 0 = .ok (.iload_n 0, 1) := by decide +kernel
theorem dX12_turn_1 : decode cX12_turn 1 = .ok (.iload_n 1, 1) := by decide +kernel
theorem dX12_turn_2 : decode cX12_turn 2 = .ok (.iushr, 1) := by decide +kernel
theorem dX12_turn_3 : decode cX12_turn 3 = .ok (.iload_n 0, 1) := by decide +kernel
theorem dX12_turn_4 : decode cX12_turn 4 = .ok (.bipush 32, 2) := by decide +kernel
theorem dX12_turn_6 : decode cX12_turn 6 = .ok (.iload_n 1, 1) := by decide +kernel
theorem dX12_turn_7 : decode cX12_turn 7 = .ok (.isub, 1) := by decide +kernel
theorem dX12_turn_8 : decode cX12_turn 8 = .ok (.ishl, 1) := by decide +kernel
theorem dX12_turn_9 : decode cX12_turn 9 = .ok (.ior, 1) := by decide +kernel
theorem dX12_turn_10 : decode cX12_turn 10 = .ok (.ireturn, 1) := by decide +kernel
theorem dX12_mixBlock_0 : decode cX12_mixBlock 0 = .ok (.iconst 0, 1) := by decide +kernel
theorem dX12_mixBlock_1 : decode cX12_mixBlock 1 = .ok (.istore_n 1, 1) := by decide +kernel
theorem dX12_mixBlock_2 : decode cX12_mixBlock 2 = .ok (.iload_n 1, 1) := by decide +kernel
theorem dX12_mixBlock_3 : decode cX12_mixBlock 3 = .ok (.bipush 16, 2) := by decide +kernel
theorem dX12_mixBlock_5 : decode cX12_mixBlock 5 = .ok (.if_icmp .ge 81, 3) := by decide +kernel
theorem dX12_mixBlock_8 : decode cX12_mixBlock 8 = .ok (.aload_n 0, 1) := by decide +kernel
theorem dX12_mixBlock_9 : decode cX12_mixBlock 9 = .ok (.getfield 100, 3) := by decide +kernel
theorem dX12_mixBlock_12 : decode cX12_mixBlock 12 = .ok (.iload_n 1, 1) := by decide +kernel
theorem dX12_mixBlock_13 : decode cX12_mixBlock 13 = .ok (.aload_n 0, 1) := by decide +kernel
theorem dX12_mixBlock_14 : decode cX12_mixBlock 14 = .ok (.getfield 106, 3) := by decide +kernel
theorem dX12_mixBlock_17 : decode cX12_mixBlock 17 = .ok (.iconst 4, 1) := by decide +kernel
theorem dX12_mixBlock_18 : decode cX12_mixBlock 18 = .ok (.iload_n 1, 1) := by decide +kernel
theorem dX12_mixBlock_19 : decode cX12_mixBlock 19 = .ok (.imul, 1) := by decide +kernel
theorem dX12_mixBlock_20 : decode cX12_mixBlock 20 = .ok (.baload, 1) := by decide +kernel
theorem dX12_mixBlock_21 : decode cX12_mixBlock 21 = .ok (.sipush 255, 3) := by decide +kernel
theorem dX12_mixBlock_24 : decode cX12_mixBlock 24 = .ok (.iand, 1) := by decide +kernel
theorem dX12_mixBlock_25 : decode cX12_mixBlock 25 = .ok (.bipush 24, 2) := by decide +kernel
theorem dX12_mixBlock_27 : decode cX12_mixBlock 27 = .ok (.ishl, 1) := by decide +kernel
theorem dX12_mixBlock_28 : decode cX12_mixBlock 28 = .ok (.aload_n 0, 1) := by decide +kernel
theorem dX12_mixBlock_29 : decode cX12_mixBlock 29 = .ok (.getfield 106, 3) := by decide +kernel
theorem dX12_mixBlock_32 : decode cX12_mixBlock 32 = .ok (.iconst 4, 1) := by decide +kernel
theorem dX12_mixBlock_33 : decode cX12_mixBlock 33 = .ok (.iload_n 1, 1) := by decide +kernel
theorem dX12_mixBlock_34 : decode cX12_mixBlock 34 = .ok (.imul, 1) := by decide +kernel
theorem dX12_mixBlock_35 : decode cX12_mixBlock 35 = .ok (.iconst 1, 1) := by decide +kernel
theorem dX12_mixBlock_36 : decode cX12_mixBlock 36 = .ok (.iadd, 1) := by decide +kernel
theorem dX12_mixBlock_37 : decode cX12_mixBlock 37 = .ok (.baload, 1) := by decide +kernel
theorem dX12_mixBlock_38 : decode cX12_mixBlock 38 = .ok (.sipush 255, 3) := by decide +kernel
theorem dX12_mixBlock_41 : decode cX12_mixBlock 41 = .ok (.iand, 1) := by decide +kernel
theorem dX12_mixBlock_42 : decode cX12_mixBlock 42 = .ok (.bipush 16, 2) := by decide +kernel
theorem dX12_mixBlock_44 : decode cX12_mixBlock 44 = .ok (.ishl, 1) := by decide +kernel
theorem dX12_mixBlock_45 : decode cX12_mixBlock 45 = .ok (.ior, 1) := by decide +kernel
theorem dX12_mixBlock_46 : decode cX12_mixBlock 46 = .ok (.aload_n 0, 1) := by decide +kernel
theorem dX12_mixBlock_47 : decode cX12_mixBlock 47 = .ok (.getfield 106, 3) := by decide +kernel
theorem dX12_mixBlock_50 : decode cX12_mixBlock 50 = .ok (.iconst 4, 1) := by decide +kernel
theorem dX12_mixBlock_51 : decode cX12_mixBlock 51 = .ok (.iload_n 1, 1) := by decide +kernel
theorem dX12_mixBlock_52 : decode cX12_mixBlock 52 = .ok (.imul, 1) := by decide +kernel
theorem dX12_mixBlock_53 : decode cX12_mixBlock 53 = .ok (.iconst 2, 1) := by decide +kernel
theorem dX12_mixBlock_54 : decode cX12_mixBlock 54 = .ok (.iadd, 1) := by decide +kernel
theorem dX12_mixBlock_55 : decode cX12_mixBlock 55 = .ok (.baload, 1) := by decide +kernel
theorem dX12_mixBlock_56 : decode cX12_mixBlock 56 = .ok (.sipush 255, 3) := by decide +kernel
theorem dX12_mixBlock_59 : decode cX12_mixBlock 59 = .ok (.iand, 1) := by decide +kernel
theorem dX12_mixBlock_60 : decode cX12_mixBlock 60 = .ok (.bipush 8, 2) := by decide +kernel
theorem dX12_mixBlock_62 : decode cX12_mixBlock 62 = .ok (.ishl, 1) := by decide +kernel
theorem dX12_mixBlock_63 : decode cX12_mixBlock 63 = .ok (.ior, 1) := by decide +kernel
theorem dX12_mixBlock_64 : decode cX12_mixBlock 64 = .ok (.aload_n 0, 1) := by decide +kernel
theorem dX12_mixBlock_65 : decode cX12_mixBlock 65 = .ok (.getfield 106, 3) := by decide +kernel
theorem dX12_mixBlock_68 : decode cX12_mixBlock 68 = .ok (.iconst 4, 1) := by decide +kernel
theorem dX12_mixBlock_69 : decode cX12_mixBlock 69 = .ok (.iload_n 1, 1) := by decide +kernel
theorem dX12_mixBlock_70 : decode cX12_mixBlock 70 = .ok (.imul, 1) := by decide +kernel
theorem dX12_mixBlock_71 : decode cX12_mixBlock 71 = .ok (.iconst 3, 1) := by decide +kernel
theorem dX12_mixBlock_72 : decode cX12_mixBlock 72 = .ok (.iadd, 1) := by decide +kernel
theorem dX12_mixBlock_73 : decode cX12_mixBlock 73 = .ok (.baload, 1) := by decide +kernel
theorem dX12_mixBlock_74 : decode cX12_mixBlock 74 = .ok (.sipush 255, 3) := by decide +kernel
theorem dX12_mixBlock_77 : decode cX12_mixBlock 77 = .ok (.iand, 1) := by decide +kernel
theorem dX12_mixBlock_78 : decode cX12_mixBlock 78 = .ok (.ior, 1) := by decide +kernel
theorem dX12_mixBlock_79 : decode cX12_mixBlock 79 = .ok (.iastore, 1) := by decide +kernel
theorem dX12_mixBlock_80 : decode cX12_mixBlock 80 = .ok (.iinc 1 1, 3) := by decide +kernel
theorem dX12_mixBlock_83 : decode cX12_mixBlock 83 = .ok (.goto (-81), 3) := by decide +kernel
theorem dX12_mixBlock_86 : decode cX12_mixBlock 86 = .ok (.bipush 16, 2) := by decide +kernel
theorem dX12_mixBlock_88 : decode cX12_mixBlock 88 = .ok (.istore_n 1, 1) := by decide +kernel
theorem dX12_mixBlock_89 : decode cX12_mixBlock 89 = .ok (.iload_n 1, 1) := by decide +kernel
theorem dX12_mixBlock_90 : decode cX12_mixBlock 90 = .ok (.bipush 64, 2) := by decide +kernel
theorem dX12_mixBlock_92 : decode cX12_mixBlock 92 = .ok (.if_icmp .ge 90, 3) := by decide +kernel
theorem dX12_mixBlock_95 : decode cX12_mixBlock 95 = .ok (.aload_n 0, 1) := by decide +kernel
theorem dX12_mixBlock_96 : decode cX12_mixBlock 96 = .ok (.getfield 100, 3) := by decide +kernel
theorem dX12_mixBlock_99 : decode cX12_mixBlock 99 = .ok (.iload_n 1, 1) := by decide +kernel
theorem dX12_mixBlock_100 : decode cX12_mixBlock 100 = .ok (.bipush 15, 2) := by decide +kernel
theorem dX12_mixBlock_102 : decode cX12_mixBlock 102 = .ok (.isub, 1) := by decide +kernel
theorem dX12_mixBlock_103 : decode cX12_mixBlock 103 = .ok (.iaload, 1) := by decide +kernel
theorem dX12_mixBlock_104 : decode cX12_mixBlock 104 = .ok (.istore_n 2, 1) := by decide +kernel
theorem dX12_mixBlock_105 : decode cX12_mixBlock 105 = .ok (.aload_n 0, 1) := by decide +kernel
theorem dX12_mixBlock_106 : decode cX12_mixBlock 106 = .ok (.getfield 100, 3) := by decide +kernel
theorem dX12_mixBlock_109 : decode cX12_mixBlock 109 = .ok (.iload_n 1, 1) := by decide +kernel
theorem dX12_mixBlock_110 : decode cX12_mixBlock 110 = .ok (.iconst 2, 1) := by decide +kernel
theorem dX12_mixBlock_111 : decode cX12_mixBlock 111 = .ok (.isub, 1) := by decide +kernel
theorem dX12_mixBlock_112 : decode cX12_mixBlock 112 = .ok (.iaload, 1) := by decide +kernel
theorem dX12_mixBlock_113 : decode cX12_mixBlock 113 = .ok (.istore_n 3, 1) := by decide +kernel
theorem dX12_mixBlock_114 : decode cX12_mixBlock 114 = .ok (.aload_n 0, 1) := by decide +kernel
theorem dX12_mixBlock_115 : decode cX12_mixBlock 115 = .ok (.getfield 100, 3) := by decide +kernel
theorem dX12_mixBlock_118 : decode cX12_mixBlock 118 = .ok (.iload_n 1, 1) := by decide +kernel
theorem dX12_mixBlock_119 : decode cX12_mixBlock 119 = .ok (.aload_n 0, 1) := by decide +kernel
theorem dX12_mixBlock_120 : decode cX12_mixBlock 120 = .ok (.getfield 100, 3) := by decide +kernel
theorem dX12_mixBlock_123 : decode cX12_mixBlock 123 = .ok (.iload_n 1, 1) := by decide +kernel
theorem dX12_mixBlock_124 : decode cX12_mixBlock 124 = .ok (.bipush 16, 2) := by decide +kernel
theorem dX12_mixBlock_126 : decode cX12_mixBlock 126 = .ok (.isub, 1) := by decide +kernel
theorem dX12_mixBlock_127 : decode cX12_mixBlock 127 = .ok (.iaload, 1) := by decide +kernel
theorem dX12_mixBlock_128 : decode cX12_mixBlock 128 = .ok (.iload_n 2, 1) := by decide +kernel
theorem dX12_mixBlock_129 : decode cX12_mixBlock 129 = .ok (.bipush 7, 2) := by decide +kernel
theorem dX12_mixBlock_131 : decode cX12_mixBlock 131 = .ok (.invokestatic 264, 3) := by decide +kernel
theorem dX12_mixBlock_134 : decode cX12_mixBlock 134 = .ok (.iload_n 2, 1) := by decide +kernel
theorem dX12_mixBlock_135 : decode cX12_mixBlock 135 = .ok (.bipush 18, 2) := by decide +kernel
theorem dX12_mixBlock_137 : decode cX12_mixBlock 137 = .ok (.invokestatic 264, 3) := by decide +kernel
theorem dX12_mixBlock_140 : decode cX12_mixBlock 140 = .ok (.ixor, 1) := by decide +kernel
theorem dX12_mixBlock_141 : decode cX12_mixBlock 141 = .ok (.iload_n 2, 1) := by decide +kernel
theorem dX12_mixBlock_142 : decode cX12_mixBlock 142 = .ok (.iconst 3, 1) := by decide +kernel
theorem dX12_mixBlock_143 : decode cX12_mixBlock 143 = .ok (.iushr, 1) := by decide +kernel
theorem dX12_mixBlock_144 : decode cX12_mixBlock 144 = .ok (.ixor, 1) := by decide +kernel
theorem dX12_mixBlock_145 : decode cX12_mixBlock 145 = .ok (.iadd, 1) := by decide +kernel
theorem dX12_mixBlock_146 : decode cX12_mixBlock 146 = .ok (.aload_n 0, 1) := by decide +kernel
theorem dX12_mixBlock_147 : decode cX12_mixBlock 147 = .ok (.getfield 100, 3) := by decide +kernel
theorem dX12_mixBlock_150 : decode cX12_mixBlock 150 = .ok (.iload_n 1, 1) := by decide +kernel
theorem dX12_mixBlock_151 : decode cX12_mixBlock 151 = .ok (.bipush 7, 2) := by decide +kernel
theorem dX12_mixBlock_153 : decode cX12_mixBlock 153 = .ok (.isub, 1) := by decide +kernel
theorem dX12_mixBlock_154 : decode cX12_mixBlock 154 = .ok (.iaload, 1) := by decide +kernel
theorem dX12_mixBlock_155 : decode cX12_mixBlock 155 = .ok (.iadd, 1) := by decide +kernel
theorem dX12_mixBlock_156 : decode cX12_mixBlock 156 = .ok (.iload_n 3, 1) := by decide +kernel
theorem dX12_mixBlock_157 : decode cX12_mixBlock 157 = .ok (.bipush 17, 2) := by decide +kernel
theorem dX12_mixBlock_159 : decode cX12_mixBlock 159 = .ok (.invokestatic 264, 3) := by decide +kernel
theorem dX12_mixBlock_162 : decode cX12_mixBlock 162 = .ok (.iload_n 3, 1) := by decide +kernel
theorem dX12_mixBlock_163 : decode cX12_mixBlock 163 = .ok (.bipush 19, 2) := by decide +kernel
theorem dX12_mixBlock_165 : decode cX12_mixBlock 165 = .ok (.invokestatic 264, 3) := by decide +kernel
theorem dX12_mixBlock_168 : decode cX12_mixBlock 168 = .ok (.ixor, 1) := by decide +kernel
theorem dX12_mixBlock_169 : decode cX12_mixBlock 169 = .ok (.iload_n 3, 1) := by decide +kernel
theorem dX12_mixBlock_170 : decode cX12_mixBlock 170 = .ok (.bipush 10, 2) := by decide +kernel
theorem dX12_mixBlock_172 : decode cX12_mixBlock 172 = .ok (.iushr, 1) := by decide +kernel
theorem dX12_mixBlock_173 : decode cX12_mixBlock 173 = .ok (.ixor, 1) := by decide +kernel
theorem dX12_mixBlock_174 : decode cX12_mixBlock 174 = .ok (.iadd, 1) := by decide +kernel
theorem dX12_mixBlock_175 : decode cX12_mixBlock 175 = .ok (.iastore, 1) := by decide +kernel
theorem dX12_mixBlock_176 : decode cX12_mixBlock 176 = .ok (.iinc 1 1, 3) := by decide +kernel
theorem dX12_mixBlock_179 : decode cX12_mixBlock 179 = .ok (.goto (-90), 3) := by decide +kernel
theorem dX12_mixBlock_182 : decode cX12_mixBlock 182 = .ok (.aload_n 0, 1) := by decide +kernel
theorem dX12_mixBlock_183 : decode cX12_mixBlock 183 = .ok (.getfield 103, 3) := by decide +kernel
theorem dX12_mixBlock_186 : decode cX12_mixBlock 186 = .ok (.iconst 0, 1) := by decide +kernel
theorem dX12_mixBlock_187 : decode cX12_mixBlock 187 = .ok (.iaload, 1) := by decide +kernel
theorem dX12_mixBlock_188 : decode cX12_mixBlock 188 = .ok (.istore_n 1, 1) := by decide +kernel
theorem dX12_mixBlock_189 : decode cX12_mixBlock 189 = .ok (.aload_n 0, 1) := by decide +kernel
theorem dX12_mixBlock_190 : decode cX12_mixBlock 190 = .ok (.getfield 103, 3) := by decide +kernel
theorem dX12_mixBlock_193 : decode cX12_mixBlock 193 = .ok (.iconst 1, 1) := by decide +kernel
theorem dX12_mixBlock_194 : decode cX12_mixBlock 194 = .ok (.iaload, 1) := by decide +kernel
theorem dX12_mixBlock_195 : decode cX12_mixBlock 195 = .ok (.istore_n 2, 1) := by decide +kernel
theorem dX12_mixBlock_196 : decode cX12_mixBlock 196 = .ok (.aload_n 0, 1) := by decide +kernel
theorem dX12_mixBlock_197 : decode cX12_mixBlock 197 = .ok (.getfield 103, 3) := by decide +kernel
theorem dX12_mixBlock_200 : decode cX12_mixBlock 200 = .ok (.iconst 2, 1) := by decide +kernel
theorem dX12_mixBlock_201 : decode cX12_mixBlock 201 = .ok (.iaload, 1) := by decide +kernel
theorem dX12_mixBlock_202 : decode cX12_mixBlock 202 = .ok (.istore_n 3, 1) := by decide +kernel
theorem dX12_mixBlock_203 : decode cX12_mixBlock 203 = .ok (.aload_n 0, 1) := by decide +kernel
theorem dX12_mixBlock_204 : decode cX12_mixBlock 204 = .ok (.getfield 103, 3) := by decide +kernel
theorem dX12_mixBlock_207 : decode cX12_mixBlock 207 = .ok (.iconst 3, 1) := by decide +kernel
theorem dX12_mixBlock_208 : decode cX12_mixBlock 208 = .ok (.iaload, 1) := by decide +kernel
theorem dX12_mixBlock_209 : decode cX12_mixBlock 209 = .ok (.istore 4, 2) := by decide +kernel
theorem dX12_mixBlock_211 : decode cX12_mixBlock 211 = .ok (.aload_n 0, 1) := by decide +kernel
theorem dX12_mixBlock_212 : decode cX12_mixBlock 212 = .ok (.getfield 103, 3) := by decide +kernel
theorem dX12_mixBlock_215 : decode cX12_mixBlock 215 = .ok (.iconst 4, 1) := by decide +kernel
theorem dX12_mixBlock_216 : decode cX12_mixBlock 216 = .ok (.iaload, 1) := by decide +kernel
theorem dX12_mixBlock_217 : decode cX12_mixBlock 217 = .ok (.istore 5, 2) := by decide +kernel
theorem dX12_mixBlock_219 : decode cX12_mixBlock 219 = .ok (.aload_n 0, 1) := by decide +kernel
theorem dX12_mixBlock_220 : decode cX12_mixBlock 220 = .ok (.getfield 103, 3) := by decide +kernel
theorem dX12_mixBlock_223 : decode cX12_mixBlock 223 = .ok (.iconst 5, 1) := by decide +kernel
theorem dX12_mixBlock_224 : decode cX12_mixBlock 224 = .ok (.iaload, 1) := by decide +kernel
theorem dX12_mixBlock_225 : decode cX12_mixBlock 225 = .ok (.istore 6, 2) := by decide +kernel
theorem dX12_mixBlock_227 : decode cX12_mixBlock 227 = .ok (.aload_n 0, 1) := by decide +kernel
theorem dX12_mixBlock_228 : decode cX12_mixBlock 228 = .ok (.getfield 103, 3) := by decide +kernel
theorem dX12_mixBlock_231 : decode cX12_mixBlock 231 = .ok (.bipush 6, 2) := by decide +kernel
theorem dX12_mixBlock_233 : decode cX12_mixBlock 233 = .ok (.iaload, 1) := by decide +kernel
theorem dX12_mixBlock_234 : decode cX12_mixBlock 234 = .ok (.istore 7, 2) := by decide +kernel
theorem dX12_mixBlock_236 : decode cX12_mixBlock 236 = .ok (.aload_n 0, 1) := by decide +kernel
theorem dX12_mixBlock_237 : decode cX12_mixBlock 237 = .ok (.getfield 103, 3) := by decide +kernel
theorem dX12_mixBlock_240 : decode cX12_mixBlock 240 = .ok (.bipush 7, 2) := by decide +kernel
theorem dX12_mixBlock_242 : decode cX12_mixBlock 242 = .ok (.iaload, 1) := by decide +kernel
theorem dX12_mixBlock_243 : decode cX12_mixBlock 243 = .ok (.istore 8, 2) := by decide +kernel
theorem dX12_mixBlock_245 : decode cX12_mixBlock 245 = .ok (.iconst 0, 1) := by decide +kernel
theorem dX12_mixBlock_246 : decode cX12_mixBlock 246 = .ok (.istore 9, 2) := by decide +kernel
theorem dX12_mixBlock_248 : decode cX12_mixBlock 248 = .ok (.iload 9, 2) := by decide +kernel
theorem dX12_mixBlock_250 : decode cX12_mixBlock 250 = .ok (.bipush 64, 2) := by decide +kernel
theorem dX12_mixBlock_252 : decode cX12_mixBlock 252 = .ok (.if_icmp .ge 132, 3) := by decide +kernel
theorem dX12_mixBlock_255 : decode cX12_mixBlock 255 = .ok (.iload 8, 2) := by decide +kernel
theorem dX12_mixBlock_257 : decode cX12_mixBlock 257 = .ok (.iload 5, 2) := by decide +kernel
theorem dX12_mixBlock_259 : decode cX12_mixBlock 259 = .ok (.bipush 6, 2) := by decide +kernel
theorem dX12_mixBlock_261 : decode cX12_mixBlock 261 = .ok (.invokestatic 264, 3) := by decide +kernel
theorem dX12_mixBlock_264 : decode cX12_mixBlock 264 = .ok (.iload 5, 2) := by decide +kernel
theorem dX12_mixBlock_266 : decode cX12_mixBlock 266 = .ok (.bipush 11, 2) := by decide +kernel
theorem dX12_mixBlock_268 : decode cX12_mixBlock 268 = .ok (.invokestatic 264, 3) := by decide +kernel
theorem dX12_mixBlock_271 : decode cX12_mixBlock 271 = .ok (.ixor, 1) := by decide +kernel
theorem dX12_mixBlock_272 : decode cX12_mixBlock 272 = .ok (.iload 5, 2) := by decide +kernel
theorem dX12_mixBlock_274 : decode cX12_mixBlock 274 = .ok (.bipush 25, 2) := by decide +kernel
theorem dX12_mixBlock_276 : decode cX12_mixBlock 276 = .ok (.invokestatic 264, 3) := by decide +kernel
theorem dX12_mixBlock_279 : decode cX12_mixBlock 279 = .ok (.ixor, 1) := by decide +kernel
theorem dX12_mixBlock_280 : decode cX12_mixBlock 280 = .ok (.iadd, 1) := by decide +kernel
theorem dX12_mixBlock_281 : decode cX12_mixBlock 281 = .ok (.iload 5, 2) := by decide +kernel
theorem dX12_mixBlock_283 : decode cX12_mixBlock 283 = .ok (.iload 6, 2) := by decide +kernel
theorem dX12_mixBlock_285 : decode cX12_mixBlock 285 = .ok (.iand, 1) := by decide +kernel
theorem dX12_mixBlock_286 : decode cX12_mixBlock 286 = .ok (.iload 5, 2) := by decide +kernel
theorem dX12_mixBlock_288 : decode cX12_mixBlock 288 = .ok (.iconst (-1), 1) := by decide +kernel
theorem dX12_mixBlock_289 : decode cX12_mixBlock 289 = .ok (.ixor, 1) := by decide +kernel
theorem dX12_mixBlock_290 : decode cX12_mixBlock 290 = .ok (.iload 7, 2) := by decide +kernel
theorem dX12_mixBlock_292 : decode cX12_mixBlock 292 = .ok (.iand, 1) := by decide +kernel
theorem dX12_mixBlock_293 : decode cX12_mixBlock 293 = .ok (.ixor, 1) := by decide +kernel
theorem dX12_mixBlock_294 : decode cX12_mixBlock 294 = .ok (.iadd, 1) := by decide +kernel
theorem dX12_mixBlock_295 : decode cX12_mixBlock 295 = .ok (.aload_n 0, 1) := by decide +kernel
theorem dX12_mixBlock_296 : decode cX12_mixBlock 296 = .ok (.getfield 97, 3) := by decide +kernel
theorem dX12_mixBlock_299 : decode cX12_mixBlock 299 = .ok (.iload 9, 2) := by decide +kernel
theorem dX12_mixBlock_301 : decode cX12_mixBlock 301 = .ok (.iaload, 1) := by decide +kernel
theorem dX12_mixBlock_302 : decode cX12_mixBlock 302 = .ok (.iadd, 1) := by decide +kernel
theorem dX12_mixBlock_303 : decode cX12_mixBlock 303 = .ok (.aload_n 0, 1) := by decide +kernel
theorem dX12_mixBlock_304 : decode cX12_mixBlock 304 = .ok (.getfield 100, 3) := by decide +kernel
theorem dX12_mixBlock_307 : decode cX12_mixBlock 307 = .ok (.iload 9, 2) := by decide +kernel
theorem dX12_mixBlock_309 : decode cX12_mixBlock 309 = .ok (.iaload, 1) := by decide +kernel
theorem dX12_mixBlock_310 : decode cX12_mixBlock 310 = .ok (.iadd, 1) := by decide +kernel
theorem dX12_mixBlock_311 : decode cX12_mixBlock 311 = .ok (.istore 10, 2) := by decide +kernel
theorem dX12_mixBlock_313 : decode cX12_mixBlock 313 = .ok (.iload_n 1, 1) := by decide +kernel
theorem dX12_mixBlock_314 : decode cX12_mixBlock 314 = .ok (.iconst 2, 1) := by decide +kernel
theorem dX12_mixBlock_315 : decode cX12_mixBlock 315 = .ok (.invokestatic 264, 3) := by decide +kernel
theorem dX12_mixBlock_318 : decode cX12_mixBlock 318 = .ok (.iload_n 1, 1) := by decide +kernel
theorem dX12_mixBlock_319 : decode cX12_mixBlock 319 = .ok (.bipush 13, 2) := by decide +kernel
theorem dX12_mixBlock_321 : decode cX12_mixBlock 321 = .ok (.invokestatic 264, 3) := by decide +kernel
theorem dX12_mixBlock_324 : decode cX12_mixBlock 324 = .ok (.ixor, 1) := by decide +kernel
theorem dX12_mixBlock_325 : decode cX12_mixBlock 325 = .ok (.iload_n 1, 1) := by decide +kernel
theorem dX12_mixBlock_326 : decode cX12_mixBlock 326 = .ok (.bipush 22, 2) := by decide +kernel
theorem dX12_mixBlock_328 : decode cX12_mixBlock 328 = .ok (.invokestatic 264, 3) := by decide +kernel
theorem dX12_mixBlock_331 : decode cX12_mixBlock 331 = .ok (.ixor, 1) := by decide +kernel
theorem dX12_mixBlock_332 : decode cX12_mixBlock 332 = .ok (.iload_n 1, 1) := by decide +kernel
theorem dX12_mixBlock_333 : decode cX12_mixBlock 333 = .ok (.iload_n 2, 1) := by decide +kernel
theorem dX12_mixBlock_334 : decode cX12_mixBlock 334 = .ok (.iand, 1) := by decide +kernel
theorem dX12_mixBlock_335 : decode cX12_mixBlock 335 = .ok (.iload_n 1, 1) := by decide +kernel
theorem dX12_mixBlock_336 : decode cX12_mixBlock 336 = .ok (.iload_n 3, 1) := by decide +kernel
theorem dX12_mixBlock_337 : decode cX12_mixBlock 337 = .ok (.iand, 1) := by decide +kernel
theorem dX12_mixBlock_338 : decode cX12_mixBlock 338 = .ok (.ixor, 1) := by decide +kernel
theorem dX12_mixBlock_339 : decode cX12_mixBlock 339 = .ok (.iload_n 2, 1) := by decide +kernel
theorem dX12_mixBlock_340 : decode cX12_mixBlock 340 = .ok (.iload_n 3, 1) := by decide +kernel
theorem dX12_mixBlock_341 : decode cX12_mixBlock 341 = .ok (.iand, 1) := by decide +kernel
theorem dX12_mixBlock_342 : decode cX12_mixBlock 342 = .ok (.ixor, 1) := by decide +kernel
theorem dX12_mixBlock_343 : decode cX12_mixBlock 343 = .ok (.iadd, 1) := by decide +kernel
theorem dX12_mixBlock_344 : decode cX12_mixBlock 344 = .ok (.istore 11, 2) := by decide +kernel
theorem dX12_mixBlock_346 : decode cX12_mixBlock 346 = .ok (.iload 7, 2) := by decide +kernel
theorem dX12_mixBlock_348 : decode cX12_mixBlock 348 = .ok (.istore 8, 2) := by decide +kernel
theorem dX12_mixBlock_350 : decode cX12_mixBlock 350 = .ok (.iload 6, 2) := by decide +kernel
theorem dX12_mixBlock_352 : decode cX12_mixBlock 352 = .ok (.istore 7, 2) := by decide +kernel
theorem dX12_mixBlock_354 : decode cX12_mixBlock 354 = .ok (.iload 5, 2) := by decide +kernel
theorem dX12_mixBlock_356 : decode cX12_mixBlock 356 = .ok (.istore 6, 2) := by decide +kernel
theorem dX12_mixBlock_358 : decode cX12_mixBlock 358 = .ok (.iload 4, 2) := by decide +kernel
theorem dX12_mixBlock_360 : decode cX12_mixBlock 360 = .ok (.iload 10, 2) := by decide +kernel
theorem dX12_mixBlock_362 : decode cX12_mixBlock 362 = .ok (.iadd, 1) := by decide +kernel
theorem dX12_mixBlock_363 : decode cX12_mixBlock 363 = .ok (.istore 5, 2) := by decide +kernel
theorem dX12_mixBlock_365 : decode cX12_mixBlock 365 = .ok (.iload_n 3, 1) := by decide +kernel
theorem dX12_mixBlock_366 : decode cX12_mixBlock 366 = .ok (.istore 4, 2) := by decide +kernel
theorem dX12_mixBlock_368 : decode cX12_mixBlock 368 = .ok (.iload_n 2, 1) := by decide +kernel
theorem dX12_mixBlock_369 : decode cX12_mixBlock 369 = .ok (.istore_n 3, 1) := by decide +kernel
theorem dX12_mixBlock_370 : decode cX12_mixBlock 370 = .ok (.iload_n 1, 1) := by decide +kernel
theorem dX12_mixBlock_371 : decode cX12_mixBlock 371 = .ok (.istore_n 2, 1) := by decide +kernel
theorem dX12_mixBlock_372 : decode cX12_mixBlock 372 = .ok (.iload 10, 2) := by decide +kernel
theorem dX12_mixBlock_374 : decode cX12_mixBlock 374 = .ok (.iload 11, 2) := by decide +kernel
theorem dX12_mixBlock_376 : decode cX12_mixBlock 376 = .ok (.iadd, 1) := by decide +kernel
theorem dX12_mixBlock_377 : decode cX12_mixBlock 377 = .ok (.istore_n 1, 1) := by decide +kernel
theorem dX12_mixBlock_378 : decode cX12_mixBlock 378 = .ok (.iinc 9 1, 3) := by decide +kernel
theorem dX12_mixBlock_381 : decode cX12_mixBlock 381 = .ok (.goto (-133), 3) := by decide +kernel
theorem dX12_mixBlock_384 : decode cX12_mixBlock 384 = .ok (.aload_n 0, 1) := by decide +kernel
theorem dX12_mixBlock_385 : decode cX12_mixBlock 385 = .ok (.getfield 103, 3) := by decide +kernel
theorem dX12_mixBlock_388 : decode cX12_mixBlock 388 = .ok (.iconst 0, 1) := by decide +kernel
theorem dX12_mixBlock_389 : decode cX12_mixBlock 389 = .ok (.dup2, 1) := by decide +kernel
theorem dX12_mixBlock_390 : decode cX12_mixBlock 390 = .ok (.iaload, 1) := by decide +kernel
theorem dX12_mixBlock_391 : decode cX12_mixBlock 391 = .ok (.iload_n 1, 1) := by decide +kernel
theorem dX12_mixBlock_392 : decode cX12_mixBlock 392 = .ok (.iadd, 1) := by decide +kernel
theorem dX12_mixBlock_393 : decode cX12_mixBlock 393 = .ok (.iastore, 1) := by decide +kernel
theorem dX12_mixBlock_394 : decode cX12_mixBlock 394 = .ok (.aload_n 0, 1) := by decide +kernel
theorem dX12_mixBlock_395 : decode cX12_mixBlock 395 = .ok (.getfield 103, 3) := by decide +kernel
theorem dX12_mixBlock_398 : decode cX12_mixBlock 398 = .ok (.iconst 1, 1) := by decide +kernel
theorem dX12_mixBlock_399 : decode cX12_mixBlock 399 = .ok (.dup2, 1) := by decide +kernel
theorem dX12_mixBlock_400 : decode cX12_mixBlock 400 = .ok (.iaload, 1) := by decide +kernel
theorem dX12_mixBlock_401 : decode cX12_mixBlock 401 = .ok (.iload_n 2, 1) := by decide +kernel
theorem dX12_mixBlock_402 : decode cX12_mixBlock 402 = .ok (.iadd, 1) := by decide +kernel
theorem dX12_mixBlock_403 : decode cX12_mixBlock 403 = .ok (.iastore, 1) := by decide +kernel
theorem dX12_mixBlock_404 : decode cX12_mixBlock 404 = .ok (.aload_n 0, 1) := by decide +kernel
theorem dX12_mixBlock_405 : decode cX12_mixBlock 405 = .ok (.getfield 103, 3) := by decide +kernel
theorem dX12_mixBlock_408 : decode cX12_mixBlock 408 = .ok (.iconst 2, 1) := by decide +kernel
theorem dX12_mixBlock_409 : decode cX12_mixBlock 409 = .ok (.dup2, 1) := by decide +kernel
theorem dX12_mixBlock_410 : decode cX12_mixBlock 410 = .ok (.iaload, 1) := by decide +kernel
theorem dX12_mixBlock_411 : decode cX12_mixBlock 411 = .ok (.iload_n 3, 1) := by decide +kernel
theorem dX12_mixBlock_412 : decode cX12_mixBlock 412 = .ok (.iadd, 1) := by decide +kernel
theorem dX12_mixBlock_413 : decode cX12_mixBlock 413 = .ok (.iastore, 1) := by decide +kernel
theorem dX12_mixBlock_414 : decode cX12_mixBlock 414 = .ok (.aload_n 0, 1) := by decide +kernel
theorem dX12_mixBlock_415 : decode cX12_mixBlock 415 = .ok (.getfield 103, 3) := by decide +kernel
theorem dX12_mixBlock_418 : decode cX12_mixBlock 418 = .ok (.iconst 3, 1) := by decide +kernel
theorem dX12_mixBlock_419 : decode cX12_mixBlock 419 = .ok (.dup2, 1) := by decide +kernel
theorem dX12_mixBlock_420 : decode cX12_mixBlock 420 = .ok (.iaload, 1) := by decide +kernel
theorem dX12_mixBlock_421 : decode cX12_mixBlock 421 = .ok (.iload 4, 2) := by decide +kernel
theorem dX12_mixBlock_423 : decode cX12_mixBlock 423 = .ok (.iadd, 1) := by decide +kernel
theorem dX12_mixBlock_424 : decode cX12_mixBlock 424 = .ok (.iastore, 1) := by decide +kernel
theorem dX12_mixBlock_425 : decode cX12_mixBlock 425 = .ok (.aload_n 0, 1) := by decide +kernel
theorem dX12_mixBlock_426 : decode cX12_mixBlock 426 = .ok (.getfield 103, 3) := by decide +kernel
theorem dX12_mixBlock_429 : decode cX12_mixBlock 429 = .ok (.iconst 4, 1) := by decide +kernel
theorem dX12_mixBlock_430 : decode cX12_mixBlock 430 = .ok (.dup2, 1) := by decide +kernel
theorem dX12_mixBlock_431 : decode cX12_mixBlock 431 = .ok (.iaload, 1) := by decide +kernel
theorem dX12_mixBlock_432 : decode cX12_mixBlock 432 = .ok (.iload 5, 2) := by decide +kernel
theorem dX12_mixBlock_434 : decode cX12_mixBlock 434 = .ok (.iadd, 1) := by decide +kernel
theorem dX12_mixBlock_435 : decode cX12_mixBlock 435 = .ok (.iastore, 1) := by decide +kernel
theorem dX12_mixBlock_436 : decode cX12_mixBlock 436 = .ok (.aload_n 0, 1) := by decide +kernel
theorem dX12_mixBlock_437 : decode cX12_mixBlock 437 = .ok (.getfield 103, 3) := by decide +kernel
theorem dX12_mixBlock_440 : decode cX12_mixBlock 440 = .ok (.iconst 5, 1) := by decide +kernel
theorem dX12_mixBlock_441 : decode cX12_mixBlock 441 = .ok (.dup2, 1) := by decide +kernel
theorem dX12_mixBlock_442 : decode cX12_mixBlock 442 = .ok (.iaload, 1) := by decide +kernel
theorem dX12_mixBlock_443 : decode cX12_mixBlock 443 = .ok (.iload 6, 2) := by decide +kernel
theorem dX12_mixBlock_445 : decode cX12_mixBlock 445 = .ok (.iadd, 1) := by decide +kernel
theorem dX12_mixBlock_446 : decode cX12_mixBlock 446 = .ok (.iastore, 1) := by decide +kernel
theorem dX12_mixBlock_447 : decode cX12_mixBlock 447 = .ok (.aload_n 0, 1) := by decide +kernel
theorem dX12_mixBlock_448 : decode cX12_mixBlock 448 = .ok (.getfield 103, 3) := by decide +kernel
theorem dX12_mixBlock_451 : decode cX12_mixBlock 451 = .ok (.bipush 6, 2) := by decide +kernel
theorem dX12_mixBlock_453 : decode cX12_mixBlock 453 = .ok (.dup2, 1) := by decide +kernel
theorem dX12_mixBlock_454 : decode cX12_mixBlock 454 = .ok (.iaload, 1) := by decide +kernel
theorem dX12_mixBlock_455 : decode cX12_mixBlock 455 = .ok (.iload 7, 2) := by decide +kernel
theorem dX12_mixBlock_457 : decode cX12_mixBlock 457 = .ok (.iadd, 1) := by decide +kernel
theorem dX12_mixBlock_458 : decode cX12_mixBlock 458 = .ok (.iastore, 1) := by decide +kernel
theorem dX12_mixBlock_459 : decode cX12_mixBlock 459 = .ok (.aload_n 0, 1) := by decide +kernel
theorem dX12_mixBlock_460 : decode cX12_mixBlock 460 = .ok (.getfield 103, 3) := by decide +kernel
theorem dX12_mixBlock_463 : decode cX12_mixBlock 463 = .ok (.bipush 7, 2) := by decide +kernel
theorem dX12_mixBlock_465 : decode cX12_mixBlock 465 = .ok (.dup2, 1) := by decide +kernel
theorem dX12_mixBlock_466 : decode cX12_mixBlock 466 = .ok (.iaload, 1) := by decide +kernel
theorem dX12_mixBlock_467 : decode cX12_mixBlock 467 = .ok (.iload 8, 2) := by decide +kernel
theorem dX12_mixBlock_469 : decode cX12_mixBlock 469 = .ok (.iadd, 1) := by decide +kernel
theorem dX12_mixBlock_470 : decode cX12_mixBlock 470 = .ok (.iastore, 1) := by decide +kernel
theorem dX12_mixBlock_471 : decode cX12_mixBlock 471 = .ok (.return_, 1) := by decide +kernel
theorem dX12_sum_0 : decode cX12_sum 0 = .ok (.aload_n 0, 1) := by decide +kernel
theorem dX12_sum_1 : decode cX12_sum 1 = .ok (.getfield 103, 3) := by decide +kernel
theorem dX12_sum_4 : decode cX12_sum 4 = .ok (.iconst 0, 1) := by decide +kernel
theorem dX12_sum_5 : decode cX12_sum 5 = .ok (.ldc_w 268, 3) := by decide +kernel
theorem dX12_sum_8 : decode cX12_sum 8 = .ok (.iastore, 1) := by decide +kernel
theorem dX12_sum_9 : decode cX12_sum 9 = .ok (.aload_n 0, 1) := by decide +kernel
theorem dX12_sum_10 : decode cX12_sum 10 = .ok (.getfield 103, 3) := by decide +kernel
theorem dX12_sum_13 : decode cX12_sum 13 = .ok (.iconst 1, 1) := by decide +kernel
theorem dX12_sum_14 : decode cX12_sum 14 = .ok (.ldc_w 269, 3) := by decide +kernel
theorem dX12_sum_17 : decode cX12_sum 17 = .ok (.iastore, 1) := by decide +kernel
theorem dX12_sum_18 : decode cX12_sum 18 = .ok (.aload_n 0, 1) := by decide +kernel
theorem dX12_sum_19 : decode cX12_sum 19 = .ok (.getfield 103, 3) := by decide +kernel
theorem dX12_sum_22 : decode cX12_sum 22 = .ok (.iconst 2, 1) := by decide +kernel
theorem dX12_sum_23 : decode cX12_sum 23 = .ok (.ldc_w 270, 3) := by decide +kernel
theorem dX12_sum_26 : decode cX12_sum 26 = .ok (.iastore, 1) := by decide +kernel
theorem dX12_sum_27 : decode cX12_sum 27 = .ok (.aload_n 0, 1) := by decide +kernel
theorem dX12_sum_28 : decode cX12_sum 28 = .ok (.getfield 103, 3) := by decide +kernel
theorem dX12_sum_31 : decode cX12_sum 31 = .ok (.iconst 3, 1) := by decide +kernel
theorem dX12_sum_32 : decode cX12_sum 32 = .ok (.ldc_w 271, 3) := by decide +kernel
theorem dX12_sum_35 : decode cX12_sum 35 = .ok (.iastore, 1) := by decide +kernel
theorem dX12_sum_36 : decode cX12_sum 36 = .ok (.aload_n 0, 1) := by decide +kernel
theorem dX12_sum_37 : decode cX12_sum 37 = .ok (.getfield 103, 3) := by decide +kernel
theorem dX12_sum_40 : decode cX12_sum 40 = .ok (.iconst 4, 1) := by decide +kernel
theorem dX12_sum_41 : decode cX12_sum 41 = .ok (.ldc_w 272, 3) := by decide +kernel
theorem dX12_sum_44 : decode cX12_sum 44 = .ok (.iastore, 1) := by decide +kernel
theorem dX12_sum_45 : decode cX12_sum 45 = .ok (.aload_n 0, 1) := by decide +kernel
theorem dX12_sum_46 : decode cX12_sum 46 = .ok (.getfield 103, 3) := by decide +kernel
theorem dX12_sum_49 : decode cX12_sum 49 = .ok (.iconst 5, 1) := by decide +kernel
theorem dX12_sum_50 : decode cX12_sum 50 = .ok (.ldc_w 273, 3) := by decide +kernel
theorem dX12_sum_53 : decode cX12_sum 53 = .ok (.iastore, 1) := by decide +kernel
theorem dX12_sum_54 : decode cX12_sum 54 = .ok (.aload_n 0, 1) := by decide +kernel
theorem dX12_sum_55 : decode cX12_sum 55 = .ok (.getfield 103, 3) := by decide +kernel
theorem dX12_sum_58 : decode cX12_sum 58 = .ok (.bipush 6, 2) := by decide +kernel
theorem dX12_sum_60 : decode cX12_sum 60 = .ok (.ldc_w 274, 3) := by decide +kernel
theorem dX12_sum_63 : decode cX12_sum 63 = .ok (.iastore, 1) := by decide +kernel
theorem dX12_sum_64 : decode cX12_sum 64 = .ok (.aload_n 0, 1) := by decide +kernel
theorem dX12_sum_65 : decode cX12_sum 65 = .ok (.getfield 103, 3) := by decide +kernel
theorem dX12_sum_68 : decode cX12_sum 68 = .ok (.bipush 7, 2) := by decide +kernel
theorem dX12_sum_70 : decode cX12_sum 70 = .ok (.ldc_w 275, 3) := by decide +kernel
theorem dX12_sum_73 : decode cX12_sum 73 = .ok (.iastore, 1) := by decide +kernel
theorem dX12_sum_74 : decode cX12_sum 74 = .ok (.iload_n 3, 1) := by decide +kernel
theorem dX12_sum_75 : decode cX12_sum 75 = .ok (.bipush 8, 2) := by decide +kernel
theorem dX12_sum_77 : decode cX12_sum 77 = .ok (.iadd, 1) := by decide +kernel
theorem dX12_sum_78 : decode cX12_sum 78 = .ok (.bipush 64, 2) := by decide +kernel
theorem dX12_sum_80 : decode cX12_sum 80 = .ok (.idiv, 1) := by decide +kernel
theorem dX12_sum_81 : decode cX12_sum 81 = .ok (.iconst 1, 1) := by decide +kernel
theorem dX12_sum_82 : decode cX12_sum 82 = .ok (.iadd, 1) := by decide +kernel
theorem dX12_sum_83 : decode cX12_sum 83 = .ok (.istore 6, 2) := by decide +kernel
theorem dX12_sum_85 : decode cX12_sum 85 = .ok (.iconst 0, 1) := by decide +kernel
theorem dX12_sum_86 : decode cX12_sum 86 = .ok (.istore 7, 2) := by decide +kernel
theorem dX12_sum_88 : decode cX12_sum 88 = .ok (.iload 7, 2) := by decide +kernel
theorem dX12_sum_90 : decode cX12_sum 90 = .ok (.iload 6, 2) := by decide +kernel
theorem dX12_sum_92 : decode cX12_sum 92 = .ok (.if_icmp .ge 106, 3) := by decide +kernel
theorem dX12_sum_95 : decode cX12_sum 95 = .ok (.iconst 0, 1) := by decide +kernel
theorem dX12_sum_96 : decode cX12_sum 96 = .ok (.istore 8, 2) := by decide +kernel
theorem dX12_sum_98 : decode cX12_sum 98 = .ok (.iload 8, 2) := by decide +kernel
theorem dX12_sum_100 : decode cX12_sum 100 = .ok (.bipush 64, 2) := by decide +kernel
theorem dX12_sum_102 : decode cX12_sum 102 = .ok (.if_icmp .ge 86, 3) := by decide +kernel
theorem dX12_sum_105 : decode cX12_sum 105 = .ok (.bipush 64, 2) := by decide +kernel
theorem dX12_sum_107 : decode cX12_sum 107 = .ok (.iload 7, 2) := by decide +kernel
theorem dX12_sum_109 : decode cX12_sum 109 = .ok (.imul, 1) := by decide +kernel
theorem dX12_sum_110 : decode cX12_sum 110 = .ok (.iload 8, 2) := by decide +kernel
theorem dX12_sum_112 : decode cX12_sum 112 = .ok (.iadd, 1) := by decide +kernel
theorem dX12_sum_113 : decode cX12_sum 113 = .ok (.istore 9, 2) := by decide +kernel
theorem dX12_sum_115 : decode cX12_sum 115 = .ok (.bipush 64, 2) := by decide +kernel
theorem dX12_sum_117 : decode cX12_sum 117 = .ok (.iload 6, 2) := by decide +kernel
theorem dX12_sum_119 : decode cX12_sum 119 = .ok (.imul, 1) := by decide +kernel
theorem dX12_sum_120 : decode cX12_sum 120 = .ok (.iconst 1, 1) := by decide +kernel
theorem dX12_sum_121 : decode cX12_sum 121 = .ok (.isub, 1) := by decide +kernel
theorem dX12_sum_122 : decode cX12_sum 122 = .ok (.iload 9, 2) := by decide +kernel
theorem dX12_sum_124 : decode cX12_sum 124 = .ok (.isub, 1) := by decide +kernel
