theorem dL_pick_0 : decode cL_pick 0 = .ok (.iload_n 1, 1) := by decide +kernel
theorem dL_pick_1 : decode cL_pick 1 = .ok (.aload_n 0, 1) := by decide +kernel
theorem dL_pick_2 : decode cL_pick 2 = .ok (.arraylength, 1) := by decide +kernel
theorem dL_pick_3 : decode cL_pick 3 = .ok (.if_icmp .ge 14, 3) := by decide +kernel
theorem dL_pick_6 : decode cL_pick 6 = .ok (.aload_n 0, 1) := by decide +kernel
theorem dL_pick_7 : decode cL_pick 7 = .ok (.iload_n 1, 1) := by decide +kernel
theorem dL_pick_8 : decode cL_pick 8 = .ok (.iaload, 1) := by decide +kernel
theorem dL_pick_9 : decode cL_pick 9 = .ok (.ldc 7, 2) := by decide +kernel
theorem dL_pick_11 : decode cL_pick 11 = .ok (.iand, 1) := by decide +kernel
theorem dL_pick_12 : decode cL_pick 12 = .ok (.iload_n 2, 1) := by decide +kernel
theorem dL_pick_13 : decode cL_pick 13 = .ok (.irem, 1) := by decide +kernel
theorem dL_pick_14 : decode cL_pick 14 = .ok (.goto 4, 3) := by decide +kernel
theorem dL_pick_17 : decode cL_pick 17 = .ok (.iconst 0, 1) := by decide +kernel
theorem dL_pick_18 : decode cL_pick 18 = .ok (.ireturn, 1) := by decide +kernel
theorem dL_word_0 : decode cL_word 0 = .ok (.iconst 0, 1) := by decide +kernel
theorem dL_word_1 : decode cL_word 1 = .ok (.istore_n 2, 1) := by decide +kernel
theorem dL_word_2 : decode cL_word 2 = .ok (.iload_n 1, 1) := by decide +kernel
theorem dL_word_3 : decode cL_word 3 = .ok (.istore_n 3, 1) := by decide +kernel
theorem dL_word_4 : decode cL_word 4 = .ok (.iload_n 3, 1) := by decide +kernel
theorem dL_word_5 : decode cL_word 5 = .ok (.iload_n 1, 1) := by decide +kernel
theorem dL_word_6 : decode cL_word 6 = .ok (.iconst 4, 1) := by decide +kernel
theorem dL_word_7 : decode cL_word 7 = .ok (.iadd, 1) := by decide +kernel
theorem dL_word_8 : decode cL_word 8 = .ok (.if_icmp .ge 33, 3) := by decide +kernel
theorem dL_word_11 : decode cL_word 11 = .ok (.iload_n 2, 1) := by decide +kernel
theorem dL_word_12 : decode cL_word 12 = .ok (.bipush 8, 2) := by decide +kernel
theorem dL_word_14 : decode cL_word 14 = .ok (.ishl, 1) := by decide +kernel
theorem dL_word_15 : decode cL_word 15 = .ok (.iload_n 3, 1) := by decide +kernel
theorem dL_word_16 : decode cL_word 16 = .ok (.aload_n 0, 1) := by decide +kernel
theorem dL_word_17 : decode cL_word 17 = .ok (.invokevirtual 8, 3) := by decide +kernel
theorem dL_word_20 : decode cL_word 20 = .ok (.if_icmp .ge 11, 3) := by decide +kernel
theorem dL_word_23 : decode cL_word 23 = .ok (.aload_n 0, 1) := by decide +kernel
theorem dL_word_24 : decode cL_word 24 = .ok (.iload_n 3, 1) := by decide +kernel
theorem dL_word_25 : decode cL_word 25 = .ok (.invokevirtual 14, 3) := by decide +kernel
theorem dL_word_28 : decode cL_word 28 = .ok (.goto 5, 3) := by decide +kernel
theorem dL_word_31 : decode cL_word 31 = .ok (.bipush 32, 2) := by decide +kernel
theorem dL_word_33 : decode cL_word 33 = .ok (.ior, 1) := by decide +kernel
theorem dL_word_34 : decode cL_word 34 = .ok (.istore_n 2, 1) := by decide +kernel
theorem dL_word_35 : decode cL_word 35 = .ok (.iinc 3 1, 3) := by decide +kernel
theorem dL_word_38 : decode cL_word 38 = .ok (.goto (-34), 3) := by decide +kernel
theorem dL_word_41 : decode cL_word 41 = .ok (.iload_n 2, 1) := by decide +kernel
theorem dL_word_42 : decode cL_word 42 = .ok (.ireturn, 1) := by decide +kernel
theorem dL_say_0 : decode cL_say 0 = .ok (.aload_n 0, 1) := by decide +kernel
theorem dL_say_1 : decode cL_say 1 = .ok (.iconst 0, 1) := by decide +kernel
theorem dL_say_2 : decode cL_say 2 = .ok (.invokevirtual 18, 3) := by decide +kernel
theorem dL_say_5 : decode cL_say 5 = .ok (.pop, 1) := by decide +kernel
theorem dL_say_6 : decode cL_say 6 = .ok (.iconst 0, 1) := by decide +kernel
theorem dL_say_7 : decode cL_say 7 = .ok (.istore_n 2, 1) := by decide +kernel
theorem dL_say_8 : decode cL_say 8 = .ok (.iload_n 2, 1) := by decide +kernel
theorem dL_say_9 : decode cL_say 9 = .ok (.aload_n 1, 1) := by decide +kernel
theorem dL_say_10 : decode cL_say 10 = .ok (.invokevirtual 8, 3) := by decide +kernel
theorem dL_say_13 : decode cL_say 13 = .ok (.if_icmp .ge 50, 3) := by decide +kernel
theorem dL_say_16 : decode cL_say 16 = .ok (.aload_n 0, 1) := by decide +kernel
theorem dL_say_17 : decode cL_say 17 = .ok (.aload_n 1, 1) := by decide +kernel
theorem dL_say_18 : decode cL_say 18 = .ok (.iload_n 2, 1) := by decide +kernel
theorem dL_say_19 : decode cL_say 19 = .ok (.invokestatic 24, 3) := by decide +kernel
theorem dL_say_22 : decode cL_say 22 = .ok (.aload_n 1, 1) := by decide +kernel
theorem dL_say_23 : decode cL_say 23 = .ok (.iload_n 2, 1) := by decide +kernel
theorem dL_say_24 : decode cL_say 24 = .ok (.iconst 4, 1) := by decide +kernel
theorem dL_say_25 : decode cL_say 25 = .ok (.iadd, 1) := by decide +kernel
theorem dL_say_26 : decode cL_say 26 = .ok (.invokestatic 24, 3) := by decide +kernel
theorem dL_say_29 : decode cL_say 29 = .ok (.aload_n 1, 1) := by decide +kernel
theorem dL_say_30 : decode cL_say 30 = .ok (.iload_n 2, 1) := by decide +kernel
theorem dL_say_31 : decode cL_say 31 = .ok (.bipush 8, 2) := by decide +kernel
theorem dL_say_33 : decode cL_say 33 = .ok (.iadd, 1) := by decide +kernel
theorem dL_say_34 : decode cL_say 34 = .ok (.invokestatic 24, 3) := by decide +kernel
theorem dL_say_37 : decode cL_say 37 = .ok (.aload_n 1, 1) := by decide +kernel
theorem dL_say_38 : decode cL_say 38 = .ok (.iload_n 2, 1) := by decide +kernel
theorem dL_say_39 : decode cL_say 39 = .ok (.bipush 12, 2) := by decide +kernel
theorem dL_say_41 : decode cL_say 41 = .ok (.iadd, 1) := by decide +kernel
theorem dL_say_42 : decode cL_say 42 = .ok (.invokestatic 24, 3) := by decide +kernel
theorem dL_say_45 : decode cL_say 45 = .ok (.aload_n 1, 1) := by decide +kernel
theorem dL_say_46 : decode cL_say 46 = .ok (.iload_n 2, 1) := by decide +kernel
theorem dL_say_47 : decode cL_say 47 = .ok (.bipush 16, 2) := by decide +kernel
theorem dL_say_49 : decode cL_say 49 = .ok (.iadd, 1) := by decide +kernel
theorem dL_say_50 : decode cL_say 50 = .ok (.invokestatic 24, 3) := by decide +kernel
theorem dL_say_53 : decode cL_say 53 = .ok (.invokevirtual 30, 3) := by decide +kernel
theorem dL_say_56 : decode cL_say 56 = .ok (.pop, 1) := by decide +kernel
theorem dL_say_57 : decode cL_say 57 = .ok (.iinc 2 20, 3) := by decide +kernel
theorem dL_say_60 : decode cL_say 60 = .ok (.goto (-52), 3) := by decide +kernel
theorem dL_say_63 : decode cL_say 63 = .ok (.aload_n 0, 1) := by decide +kernel
theorem dL_say_64 : decode cL_say 64 = .ok (.aload_n 1, 1) := by decide +kernel
theorem dL_say_65 : decode cL_say 65 = .ok (.invokevirtual 8, 3) := by decide +kernel
theorem dL_say_68 : decode cL_say 68 = .ok (.invokevirtual 18, 3) := by decide +kernel
theorem dL_say_71 : decode cL_say 71 = .ok (.aload_n 1, 1) := by decide +kernel
theorem dL_say_72 : decode cL_say 72 = .ok (.invokevirtual 8, 3) := by decide +kernel
theorem dL_say_75 : decode cL_say 75 = .ok (.if_icmp .ne 7, 3) := by decide +kernel
theorem dL_say_78 : decode cL_say 78 = .ok (.iconst 1, 1) := by decide +kernel
theorem dL_say_79 : decode cL_say 79 = .ok (.goto 4, 3) := by decide +kernel
theorem dL_say_82 : decode cL_say 82 = .ok (.iconst 0, 1) := by decide +kernel
theorem dL_say_83 : decode cL_say 83 = .ok (.ireturn, 1) := by decide +kernel
theorem dL_setup_0 : decode cL_setup 0 = .ok (.new 34, 3) := by decide +kernel
theorem dL_setup_3 : decode cL_setup 3 = .ok (.dup, 1) := by decide +kernel
theorem dL_setup_4 : decode cL_setup 4 = .ok (.ldc 36, 2) := by decide +kernel
theorem dL_setup_6 : decode cL_setup 6 = .ok (.invokespecial 38, 3) := by decide +kernel
theorem dL_setup_9 : decode cL_setup 9 = .ok (.astore_n 3, 1) := by decide +kernel
theorem dL_setup_10 : decode cL_setup 10 = .ok (.iconst 0, 1) := by decide +kernel
theorem dL_setup_11 : decode cL_setup 11 = .ok (.istore 4, 2) := by decide +kernel
theorem dL_setup_13 : decode cL_setup 13 = .ok (.iload 4, 2) := by decide +kernel
theorem dL_setup_15 : decode cL_setup 15 = .ok (.iload_n 1, 1) := by decide +kernel
theorem dL_setup_16 : decode cL_setup 16 = .ok (.if_icmp .ge 50, 3) := by decide +kernel
theorem dL_setup_19 : decode cL_setup 19 = .ok (.aload_n 3, 1) := by decide +kernel
theorem dL_setup_20 : decode cL_setup 20 = .ok (.ldc 41, 2) := by decide +kernel
theorem dL_setup_22 : decode cL_setup 22 = .ok (.invokevirtual 43, 3) := by decide +kernel
theorem dL_setup_25 : decode cL_setup 25 = .ok (.bipush 97, 2) := by decide +kernel
theorem dL_setup_27 : decode cL_setup 27 = .ok (.iload 4, 2) := by decide +kernel
theorem dL_setup_29 : decode cL_setup 29 = .ok (.iadd, 1) := by decide +kernel
theorem dL_setup_30 : decode cL_setup 30 = .ok (.i2c, 1) := by decide +kernel
theorem dL_setup_31 : decode cL_setup 31 = .ok (.invokevirtual 46, 3) := by decide +kernel
theorem dL_setup_34 : decode cL_setup 34 = .ok (.bipush 32, 2) := by decide +kernel
theorem dL_setup_36 : decode cL_setup 36 = .ok (.invokevirtual 46, 3) := by decide +kernel
theorem dL_setup_39 : decode cL_setup 39 = .ok (.iconst 2, 1) := by decide +kernel
theorem dL_setup_40 : decode cL_setup 40 = .ok (.aload_n 0, 1) := by decide +kernel
theorem dL_setup_41 : decode cL_setup 41 = .ok (.iconst 2, 1) := by decide +kernel
theorem dL_setup_42 : decode cL_setup 42 = .ok (.iload 4, 2) := by decide +kernel
theorem dL_setup_44 : decode cL_setup 44 = .ok (.iadd, 1) := by decide +kernel
theorem dL_setup_45 : decode cL_setup 45 = .ok (.bipush 9, 2) := by decide +kernel
theorem dL_setup_47 : decode cL_setup 47 = .ok (.invokestatic 49, 3) := by decide +kernel
theorem dL_setup_50 : decode cL_setup 50 = .ok (.iadd, 1) := by decide +kernel
theorem dL_setup_51 : decode cL_setup 51 = .ok (.invokevirtual 53, 3) := by decide +kernel
theorem dL_setup_54 : decode cL_setup 54 = .ok (.bipush 59, 2) := by decide +kernel
theorem dL_setup_56 : decode cL_setup 56 = .ok (.invokevirtual 46, 3) := by decide +kernel
theorem dL_setup_59 : decode cL_setup 59 = .ok (.pop, 1) := by decide +kernel
theorem dL_setup_60 : decode cL_setup 60 = .ok (.iinc 4 1, 3) := by decide +kernel
theorem dL_setup_63 : decode cL_setup 63 = .ok (.goto (-50), 3) := by decide +kernel
theorem dL_setup_66 : decode cL_setup 66 = .ok (.iconst 0, 1) := by decide +kernel
theorem dL_setup_67 : decode cL_setup 67 = .ok (.istore 4, 2) := by decide +kernel
theorem dL_setup_69 : decode cL_setup 69 = .ok (.iload 4, 2) := by decide +kernel
theorem dL_setup_71 : decode cL_setup 71 = .ok (.iload_n 2, 1) := by decide +kernel
theorem dL_setup_72 : decode cL_setup 72 = .ok (.if_icmp .ge 90, 3) := by decide +kernel
theorem dL_setup_75 : decode cL_setup 75 = .ok (.aload_n 0, 1) := by decide +kernel
theorem dL_setup_76 : decode cL_setup 76 = .ok (.bipush 7, 2) := by decide +kernel
theorem dL_setup_78 : decode cL_setup 78 = .ok (.iload 4, 2) := by decide +kernel
theorem dL_setup_80 : decode cL_setup 80 = .ok (.iadd, 1) := by decide +kernel
theorem dL_setup_81 : decode cL_setup 81 = .ok (.ldc 56, 2) := by decide +kernel
theorem dL_setup_83 : decode cL_setup 83 = .ok (.invokestatic 49, 3) := by decide +kernel
theorem dL_setup_86 : decode cL_setup 86 = .ok (.istore 5, 2) := by decide +kernel
theorem dL_setup_88 : decode cL_setup 88 = .ok (.aload_n 3, 1) := by decide +kernel
theorem dL_setup_89 : decode cL_setup 89 = .ok (.ldc 57, 2) := by decide +kernel
theorem dL_setup_91 : decode cL_setup 91 = .ok (.invokevirtual 43, 3) := by decide +kernel
theorem dL_setup_94 : decode cL_setup 94 = .ok (.bipush 97, 2) := by decide +kernel
theorem dL_setup_96 : decode cL_setup 96 = .ok (.iload 4, 2) := by decide +kernel
theorem dL_setup_98 : decode cL_setup 98 = .ok (.iadd, 1) := by decide +kernel
theorem dL_setup_99 : decode cL_setup 99 = .ok (.i2c, 1) := by decide +kernel
theorem dL_setup_100 : decode cL_setup 100 = .ok (.invokevirtual 46, 3) := by decide +kernel
theorem dL_setup_103 : decode cL_setup 103 = .ok (.pop, 1) := by decide +kernel
theorem dL_setup_104 : decode cL_setup 104 = .ok (.iconst 0, 1) := by decide +kernel
theorem dL_setup_105 : decode cL_setup 105 = .ok (.istore 6, 2) := by decide +kernel
theorem dL_setup_107 : decode cL_setup 107 = .ok (.iload 6, 2) := by decide +kernel
theorem dL_setup_109 : decode cL_setup 109 = .ok (.iload_n 1, 1) := by decide +kernel
theorem dL_setup_110 : decode cL_setup 110 = .ok (.if_icmp .ge 39, 3) := by decide +kernel
theorem dL_setup_113 : decode cL_setup 113 = .ok (.aload_n 3, 1) := by decide +kernel
theorem dL_setup_114 : decode cL_setup 114 = .ok (.bipush 32, 2) := by decide +kernel
theorem dL_setup_116 : decode cL_setup 116 = .ok (.invokevirtual 46, 3) := by decide +kernel
theorem dL_setup_119 : decode cL_setup 119 = .ok (.iload 5, 2) := by decide +kernel
theorem dL_setup_121 : decode cL_setup 121 = .ok (.iconst 4, 1) := by decide +kernel
theorem dL_setup_122 : decode cL_setup 122 = .ok (.iload 6, 2) := by decide +kernel
theorem dL_setup_124 : decode cL_setup 124 = .ok (.imul, 1) := by decide +kernel
theorem dL_setup_125 : decode cL_setup 125 = .ok (.ishr, 1) := by decide +kernel
theorem dL_setup_126 : decode cL_setup 126 = .ok (.iconst 3, 1) := by decide +kernel
theorem dL_setup_127 : decode cL_setup 127 = .ok (.aload_n 0, 1) := by decide +kernel
theorem dL_setup_128 : decode cL_setup 128 = .ok (.iconst 2, 1) := by decide +kernel
theorem dL_setup_129 : decode cL_setup 129 = .ok (.iload 6, 2) := by decide +kernel
theorem dL_setup_131 : decode cL_setup 131 = .ok (.iadd, 1) := by decide +kernel
theorem dL_setup_132 : decode cL_setup 132 = .ok (.bipush 9, 2) := by decide +kernel
theorem dL_setup_134 : decode cL_setup 134 = .ok (.invokestatic 49, 3) := by decide +kernel
theorem dL_setup_137 : decode cL_setup 137 = .ok (.iadd, 1) := by decide +kernel
theorem dL_setup_138 : decode cL_setup 138 = .ok (.irem, 1) := by decide +kernel
theorem dL_setup_139 : decode cL_setup 139 = .ok (.invokevirtual 53, 3) := by decide +kernel
theorem dL_setup_142 : decode cL_setup 142 = .ok (.pop, 1) := by decide +kernel
theorem dL_setup_143 : decode cL_setup 143 = .ok (.iinc 6 1, 3) := by decide +kernel
theorem dL_setup_146 : decode cL_setup 146 = .ok (.goto (-39), 3) := by decide +kernel
theorem dL_setup_149 : decode cL_setup 149 = .ok (.aload_n 3, 1) := by decide +kernel
theorem dL_setup_150 : decode cL_setup 150 = .ok (.bipush 59, 2) := by decide +kernel
theorem dL_setup_152 : decode cL_setup 152 = .ok (.invokevirtual 46, 3) := by decide +kernel
theorem dL_setup_155 : decode cL_setup 155 = .ok (.pop, 1) := by decide +kernel
theorem dL_setup_156 : decode cL_setup 156 = .ok (.iinc 4 1, 3) := by decide +kernel
theorem dL_setup_159 : decode cL_setup 159 = .ok (.goto (-90), 3) := by decide +kernel
theorem dL_setup_162 : decode cL_setup 162 = .ok (.aload_n 3, 1) := by decide +kernel
theorem dL_setup_163 : decode cL_setup 163 = .ok (.invokevirtual 59, 3) := by decide +kernel
theorem dL_setup_166 : decode cL_setup 166 = .ok (.areturn, 1) := by decide +kernel
theorem dL_act_0 : decode cL_act 0 = .ok (.iload_n 1, 1) := by decide +kernel
theorem dL_act_1 : decode cL_act 1 = .ok (.bipush 16, 2) := by decide +kernel
theorem dL_act_3 : decode cL_act 3 = .ok (.idiv, 1) := by decide +kernel
theorem dL_act_4 : decode cL_act 4 = .ok (.aload_n 0, 1) := by decide +kernel
theorem dL_act_5 : decode cL_act 5 = .ok (.invokevirtual 63, 3) := by decide +kernel
theorem dL_act_8 : decode cL_act 8 = .ok (.irem, 1) := by decide +kernel
theorem dL_act_9 : decode cL_act 9 = .ok (.istore_n 2, 1) := by decide +kernel
theorem dL_act_10 : decode cL_act 10 = .ok (.iload_n 1, 1) := by decide +kernel
theorem dL_act_11 : decode cL_act 11 = .ok (.sipush 128, 3) := by decide +kernel
theorem dL_act_14 : decode cL_act 14 = .ok (.idiv, 1) := by decide +kernel
theorem dL_act_15 : decode cL_act 15 = .ok (.aload_n 0, 1) := by decide +kernel
theorem dL_act_16 : decode cL_act 16 = .ok (.invokevirtual 63, 3) := by decide +kernel
theorem dL_act_19 : decode cL_act 19 = .ok (.irem, 1) := by decide +kernel
theorem dL_act_20 : decode cL_act 20 = .ok (.istore_n 3, 1) := by decide +kernel
theorem dL_act_21 : decode cL_act 21 = .ok (.iload_n 1, 1) := by decide +kernel
theorem dL_act_22 : decode cL_act 22 = .ok (.sipush 1024, 3) := by decide +kernel
theorem dL_act_25 : decode cL_act 25 = .ok (.idiv, 1) := by decide +kernel
theorem dL_act_26 : decode cL_act 26 = .ok (.aload_n 0, 1) := by decide +kernel
theorem dL_act_27 : decode cL_act 27 = .ok (.invokevirtual 66, 3) := by decide +kernel
theorem dL_act_30 : decode cL_act 30 = .ok (.irem, 1) := by decide +kernel
theorem dL_act_31 : decode cL_act 31 = .ok (.istore 4, 2) := by decide +kernel
theorem dL_act_33 : decode cL_act 33 = .ok (.iconst 1, 1) := by decide +kernel
theorem dL_act_34 : decode cL_act 34 = .ok (.iload_n 1, 1) := by decide +kernel
theorem dL_act_35 : decode cL_act 35 = .ok (.sipush 8192, 3) := by decide +kernel
theorem dL_act_38 : decode cL_act 38 = .ok (.idiv, 1) := by decide +kernel
theorem dL_act_39 : decode cL_act 39 = .ok (.iconst 4, 1) := by decide +kernel
theorem dL_act_40 : decode cL_act 40 = .ok (.irem, 1) := by decide +kernel
theorem dL_act_41 : decode cL_act 41 = .ok (.iadd, 1) := by decide +kernel
theorem dL_act_42 : decode cL_act 42 = .ok (.istore 5, 2) := by decide +kernel
theorem dL_act_44 : decode cL_act 44 = .ok (.iload_n 1, 1) := by decide +kernel
theorem dL_act_45 : decode cL_act 45 = .ok (.bipush 16, 2) := by decide +kernel
theorem dL_act_47 : decode cL_act 47 = .ok (.irem, 1) := by decide +kernel
theorem dL_act_48 : decode cL_act 48 = .ok (.tableswitch 274 0 8 #[52, 52, 77, 86, 103, 143, 202, 202, 242], 52) := by decide +kernel
theorem dL_act_100 : decode cL_act 100 = .ok (.aload_n 0, 1) := by decide +kernel
theorem dL_act_101 : decode cL_act 101 = .ok (.iload_n 2, 1) := by decide +kernel
theorem dL_act_102 : decode cL_act 102 = .ok (.iload 4, 2) := by decide +kernel
theorem dL_act_104 : decode cL_act 104 = .ok (.invokevirtual 69, 3) := by decide +kernel
theorem dL_act_107 : decode cL_act 107 = .ok (.iload 5, 2) := by decide +kernel
theorem dL_act_109 : decode cL_act 109 = .ok (.if_icmp .lt 254, 3) := by decide +kernel
theorem dL_act_112 : decode cL_act 112 = .ok (.aload_n 0, 1) := by decide +kernel
theorem dL_act_113 : decode cL_act 113 = .ok (.iload_n 2, 1) := by decide +kernel
theorem dL_act_114 : decode cL_act 114 = .ok (.iload 4, 2) := by decide +kernel
theorem dL_act_116 : decode cL_act 116 = .ok (.iload 5, 2) := by decide +kernel
theorem dL_act_118 : decode cL_act 118 = .ok (.invokevirtual 73, 3) := by decide +kernel
theorem dL_act_121 : decode cL_act 121 = .ok (.pop, 1) := by decide +kernel
theorem dL_act_122 : decode cL_act 122 = .ok (.goto 241, 3) := by decide +kernel
theorem dL_act_125 : decode cL_act 125 = .ok (.aload_n 0, 1) := by decide +kernel
theorem dL_act_126 : decode cL_act 126 = .ok (.iload_n 2, 1) := by decide +kernel
theorem dL_act_127 : decode cL_act 127 = .ok (.invokevirtual 77, 3) := by decide +kernel
theorem dL_act_130 : decode cL_act 130 = .ok (.pop, 1) := by decide +kernel
theorem dL_act_131 : decode cL_act 131 = .ok (.goto 232, 3) := by decide +kernel
theorem dL_act_134 : decode cL_act 134 = .ok (.aload_n 0, 1) := by decide +kernel
theorem dL_act_135 : decode cL_act 135 = .ok (.iload_n 2, 1) := by decide +kernel
theorem dL_act_136 : decode cL_act 136 = .ok (.invokevirtual 80, 3) := by decide +kernel
theorem dL_act_139 : decode cL_act 139 = .ok (.ifCond .eq 224, 3) := by decide +kernel
theorem dL_act_142 : decode cL_act 142 = .ok (.aload_n 0, 1) := by decide +kernel
theorem dL_act_143 : decode cL_act 143 = .ok (.iload_n 2, 1) := by decide +kernel
theorem dL_act_144 : decode cL_act 144 = .ok (.invokevirtual 84, 3) := by decide +kernel
theorem dL_act_147 : decode cL_act 147 = .ok (.pop, 1) := by decide +kernel
theorem dL_act_148 : decode cL_act 148 = .ok (.goto 215, 3) := by decide +kernel
theorem dL_act_151 : decode cL_act 151 = .ok (.aload_n 0, 1) := by decide +kernel
theorem dL_act_152 : decode cL_act 152 = .ok (.iload 4, 2) := by decide +kernel
theorem dL_act_154 : decode cL_act 154 = .ok (.invokevirtual 87, 3) := by decide +kernel
theorem dL_act_157 : decode cL_act 157 = .ok (.aload_n 0, 1) := by decide +kernel
theorem dL_act_158 : decode cL_act 158 = .ok (.iload 4, 2) := by decide +kernel
theorem dL_act_160 : decode cL_act 160 = .ok (.invokevirtual 90, 3) := by decide +kernel
theorem dL_act_163 : decode cL_act 163 = .ok (.isub, 1) := by decide +kernel
theorem dL_act_164 : decode cL_act 164 = .ok (.iload_n 1, 1) := by decide +kernel
theorem dL_act_165 : decode cL_act 165 = .ok (.ldc 93, 2) := by decide +kernel
theorem dL_act_167 : decode cL_act 167 = .ok (.idiv, 1) := by decide +kernel
theorem dL_act_168 : decode cL_act 168 = .ok (.bipush 14, 2) := by decide +kernel
theorem dL_act_170 : decode cL_act 170 = .ok (.irem, 1) := by decide +kernel
theorem dL_act_171 : decode cL_act 171 = .ok (.if_icmp .gt 192, 3) := by decide +kernel
theorem dL_act_174 : decode cL_act 174 = .ok (.aload_n 0, 1) := by decide +kernel
theorem dL_act_175 : decode cL_act 175 = .ok (.iload 4, 2) := by decide +kernel
theorem dL_act_177 : decode cL_act 177 = .ok (.iload_n 1, 1) := by decide +kernel
theorem dL_act_178 : decode cL_act 178 = .ok (.ldc 93, 2) := by decide +kernel
theorem dL_act_180 : decode cL_act 180 = .ok (.idiv, 1) := by decide +kernel
theorem dL_act_181 : decode cL_act 181 = .ok (.bipush 14, 2) := by decide +kernel
theorem dL_act_183 : decode cL_act 183 = .ok (.irem, 1) := by decide +kernel
theorem dL_act_184 : decode cL_act 184 = .ok (.invokevirtual 94, 3) := by decide +kernel
theorem dL_act_187 : decode cL_act 187 = .ok (.pop, 1) := by decide +kernel
theorem dL_act_188 : decode cL_act 188 = .ok (.goto 175, 3) := by decide +kernel
theorem dL_act_191 : decode cL_act 191 = .ok (.aload_n 0, 1) := by decide +kernel
theorem dL_act_192 : decode cL_act 192 = .ok (.iload_n 2, 1) := by decide +kernel
theorem dL_act_193 : decode cL_act 193 = .ok (.iload 4, 2) := by decide +kernel
theorem dL_act_195 : decode cL_act 195 = .ok (.invokevirtual 69, 3) := by decide +kernel
theorem dL_act_198 : decode cL_act 198 = .ok (.aload_n 0, 1) := by decide +kernel
theorem dL_act_199 : decode cL_act 199 = .ok (.iload_n 2, 1) := by decide +kernel
theorem dL_act_200 : decode cL_act 200 = .ok (.invokevirtual 97, 3) := by decide +kernel
theorem dL_act_203 : decode cL_act 203 = .ok (.iload 4, 2) := by decide +kernel
theorem dL_act_205 : decode cL_act 205 = .ok (.if_icmp .ne 11, 3) := by decide +kernel
theorem dL_act_208 : decode cL_act 208 = .ok (.aload_n 0, 1) := by decide +kernel
theorem dL_act_209 : decode cL_act 209 = .ok (.iload_n 2, 1) := by decide +kernel
theorem dL_act_210 : decode cL_act 210 = .ok (.invokevirtual 100, 3) := by decide +kernel
theorem dL_act_213 : decode cL_act 213 = .ok (.goto 4, 3) := by decide +kernel
theorem dL_act_216 : decode cL_act 216 = .ok (.iconst 0, 1) := by decide +kernel
theorem dL_act_217 : decode cL_act 217 = .ok (.iadd, 1) := by decide +kernel
theorem dL_act_218 : decode cL_act 218 = .ok (.istore 6, 2) := by decide +kernel
theorem dL_act_220 : decode cL_act 220 = .ok (.iload 6, 2) := by decide +kernel
theorem dL_act_222 : decode cL_act 222 = .ok (.iload_n 1, 1) := by decide +kernel
theorem dL_act_223 : decode cL_act 223 = .ok (.ldc 93, 2) := by decide +kernel
theorem dL_act_225 : decode cL_act 225 = .ok (.idiv, 1) := by decide +kernel
theorem dL_act_226 : decode cL_act 226 = .ok (.bipush 12, 2) := by decide +kernel
theorem dL_act_228 : decode cL_act 228 = .ok (.irem, 1) := by decide +kernel
theorem dL_act_229 : decode cL_act 229 = .ok (.if_icmp .gt 134, 3) := by decide +kernel
theorem dL_act_232 : decode cL_act 232 = .ok (.aload_n 0, 1) := by decide +kernel
theorem dL_act_233 : decode cL_act 233 = .ok (.iload_n 2, 1) := by decide +kernel
theorem dL_act_234 : decode cL_act 234 = .ok (.iload 4, 2) := by decide +kernel
theorem dL_act_236 : decode cL_act 236 = .ok (.iload_n 1, 1) := by decide +kernel
theorem dL_act_237 : decode cL_act 237 = .ok (.ldc 93, 2) := by decide +kernel
theorem dL_act_239 : decode cL_act 239 = .ok (.idiv, 1) := by decide +kernel
theorem dL_act_240 : decode cL_act 240 = .ok (.bipush 12, 2) := by decide +kernel
theorem dL_act_242 : decode cL_act 242 = .ok (.irem, 1) := by decide +kernel
theorem dL_act_243 : decode cL_act 243 = .ok (.invokevirtual 103, 3) := by decide +kernel
theorem dL_act_246 : decode cL_act 246 = .ok (.pop, 1) := by decide +kernel
theorem dL_act_247 : decode cL_act 247 = .ok (.goto 116, 3) := by decide +kernel
theorem dL_act_250 : decode cL_act 250 = .ok (.aload_n 0, 1) := by decide +kernel
theorem dL_act_251 : decode cL_act 251 = .ok (.iload_n 3, 1) := by decide +kernel
theorem dL_act_252 : decode cL_act 252 = .ok (.iload_n 2, 1) := by decide +kernel
theorem dL_act_253 : decode cL_act 253 = .ok (.invokevirtual 106, 3) := by decide +kernel
theorem dL_act_256 : decode cL_act 256 = .ok (.ifCond .ge 107, 3) := by decide +kernel
theorem dL_act_259 : decode cL_act 259 = .ok (.aload_n 0, 1) := by decide +kernel
theorem dL_act_260 : decode cL_act 260 = .ok (.iload_n 3, 1) := by decide +kernel
theorem dL_act_261 : decode cL_act 261 = .ok (.iload_n 2, 1) := by decide +kernel
theorem dL_act_262 : decode cL_act 262 = .ok (.invokevirtual 109, 3) := by decide +kernel
theorem dL_act_265 : decode cL_act 265 = .ok (.sipush 900, 3) := by decide +kernel
theorem dL_act_268 : decode cL_act 268 = .ok (.if_icmp .ge 95, 3) := by decide +kernel
theorem dL_act_271 : decode cL_act 271 = .ok (.aload_n 0, 1) := by decide +kernel
theorem dL_act_272 : decode cL_act 272 = .ok (.iload_n 2, 1) := by decide +kernel
theorem dL_act_273 : decode cL_act 273 = .ok (.iload_n 3, 1) := by decide +kernel
theorem dL_act_274 : decode cL_act 274 = .ok (.iconst 1, 1) := by decide +kernel
theorem dL_act_275 : decode cL_act 275 = .ok (.iload_n 1, 1) := by decide +kernel
theorem dL_act_276 : decode cL_act 276 = .ok (.ldc 93, 2) := by decide +kernel
theorem dL_act_278 : decode cL_act 278 = .ok (.idiv, 1) := by decide +kernel
theorem dL_act_279 : decode cL_act 279 = .ok (.bipush 90, 2) := by decide +kernel
theorem dL_act_281 : decode cL_act 281 = .ok (.irem, 1) := by decide +kernel
theorem dL_act_282 : decode cL_act 282 = .ok (.iadd, 1) := by decide +kernel
theorem dL_act_283 : decode cL_act 283 = .ok (.invokevirtual 112, 3) := by decide +kernel
theorem dL_act_286 : decode cL_act 286 = .ok (.pop, 1) := by decide +kernel
theorem dL_act_287 : decode cL_act 287 = .ok (.goto 76, 3) := by decide +kernel
theorem dL_act_290 : decode cL_act 290 = .ok (.aload_n 0, 1) := by decide +kernel
theorem dL_act_291 : decode cL_act 291 = .ok (.iload_n 2, 1) := by decide +kernel
theorem dL_act_292 : decode cL_act 292 = .ok (.iload_n 3, 1) := by decide +kernel
theorem dL_act_293 : decode cL_act 293 = .ok (.invokevirtual 109, 3) := by decide +kernel
theorem dL_act_296 : decode cL_act 296 = .ok (.ifCond .le 67, 3) := by decide +kernel
theorem dL_act_299 : decode cL_act 299 = .ok (.aload_n 0, 1) := by decide +kernel
theorem dL_act_300 : decode cL_act 300 = .ok (.iload_n 2, 1) := by decide +kernel
theorem dL_act_301 : decode cL_act 301 = .ok (.iload_n 3, 1) := by decide +kernel
theorem dL_act_302 : decode cL_act 302 = .ok (.iconst 1, 1) := by decide +kernel
theorem dL_act_303 : decode cL_act 303 = .ok (.iload_n 1, 1) := by decide +kernel
theorem dL_act_304 : decode cL_act 304 = .ok (.ldc 93, 2) := by decide +kernel
theorem dL_act_306 : decode cL_act 306 = .ok (.idiv, 1) := by decide +kernel
theorem dL_act_307 : decode cL_act 307 = .ok (.aload_n 0, 1) := by decide +kernel
theorem dL_act_308 : decode cL_act 308 = .ok (.iload_n 2, 1) := by decide +kernel
theorem dL_act_309 : decode cL_act 309 = .ok (.iload_n 3, 1) := by decide +kernel
theorem dL_act_310 : decode cL_act 310 = .ok (.invokevirtual 109, 3) := by decide +kernel
theorem dL_act_313 : decode cL_act 313 = .ok (.irem, 1) := by decide +kernel
theorem dL_act_314 : decode cL_act 314 = .ok (.iadd, 1) := by decide +kernel
theorem dL_act_315 : decode cL_act 315 = .ok (.invokevirtual 115, 3) := by decide +kernel
theorem dL_act_318 : decode cL_act 318 = .ok (.pop, 1) := by decide +kernel
theorem dL_act_319 : decode cL_act 319 = .ok (.goto 44, 3) := by decide +kernel
theorem dL_act_322 : decode cL_act 322 = .ok (.aload_n 0, 1) := by decide +kernel
theorem dL_act_323 : decode cL_act 323 = .ok (.iload_n 2, 1) := by decide +kernel
theorem dL_act_324 : decode cL_act 324 = .ok (.invokevirtual 80, 3) := by decide +kernel
theorem dL_act_327 : decode cL_act 327 = .ok (.ifCond .ne 36, 3) := by decide +kernel
theorem dL_act_330 : decode cL_act 330 = .ok (.aload_n 0, 1) := by decide +kernel
theorem dL_act_331 : decode cL_act 331 = .ok (.iload_n 2, 1) := by decide +kernel
theorem dL_act_332 : decode cL_act 332 = .ok (.iload 4, 2) := by decide +kernel
theorem dL_act_334 : decode cL_act 334 = .ok (.invokevirtual 118, 3) := by decide +kernel
theorem dL_act_337 : decode cL_act 337 = .ok (.ifCond .le 26, 3) := by decide +kernel
theorem dL_act_340 : decode cL_act 340 = .ok (.aload_n 0, 1) := by decide +kernel
theorem dL_act_341 : decode cL_act 341 = .ok (.iload_n 2, 1) := by decide +kernel
theorem dL_act_342 : decode cL_act 342 = .ok (.iload 4, 2) := by decide +kernel
theorem dL_act_344 : decode cL_act 344 = .ok (.iconst 1, 1) := by decide +kernel
theorem dL_act_345 : decode cL_act 345 = .ok (.iload_n 1, 1) := by decide +kernel
theorem dL_act_346 : decode cL_act 346 = .ok (.sipush 8192, 3) := by decide +kernel
theorem dL_act_349 : decode cL_act 349 = .ok (.idiv, 1) := by decide +kernel
theorem dL_act_350 : decode cL_act 350 = .ok (.aload_n 0, 1) := by decide +kernel
theorem dL_act_351 : decode cL_act 351 = .ok (.iload_n 2, 1) := by decide +kernel
theorem dL_act_352 : decode cL_act 352 = .ok (.iload 4, 2) := by decide +kernel
theorem dL_act_354 : decode cL_act 354 = .ok (.invokevirtual 118, 3) := by decide +kernel
theorem dL_act_357 : decode cL_act 357 = .ok (.irem, 1) := by decide +kernel
theorem dL_act_358 : decode cL_act 358 = .ok (.iadd, 1) := by decide +kernel
theorem dL_act_359 : decode cL_act 359 = .ok (.invokevirtual 121, 3) := by decide +kernel
theorem dL_act_362 : decode cL_act 362 = .ok (.pop, 1) := by decide +kernel
theorem dL_act_363 : decode cL_act 363 = .ok (.return_, 1) := by decide +kernel
theorem dL_law_0 : decode cL_law 0 = .ok (.new 19, 3) := by decide +kernel
theorem dL_law_3 : decode cL_law 3 = .ok (.dup, 1) := by decide +kernel
theorem dL_law_4 : decode cL_law 4 = .ok (.invokespecial 125, 3) := by decide +kernel
theorem dL_law_7 : decode cL_law 7 = .ok (.astore_n 1, 1) := by decide +kernel
theorem dL_law_8 : decode cL_law 8 = .ok (.iconst 1, 1) := by decide +kernel
theorem dL_law_9 : decode cL_law 9 = .ok (.aload_n 0, 1) := by decide +kernel
theorem dL_law_10 : decode cL_law 10 = .ok (.iconst 0, 1) := by decide +kernel
theorem dL_law_11 : decode cL_law 11 = .ok (.iconst 4, 1) := by decide +kernel
theorem dL_law_12 : decode cL_law 12 = .ok (.invokestatic 49, 3) := by decide +kernel
theorem dL_law_15 : decode cL_law 15 = .ok (.iadd, 1) := by decide +kernel
theorem dL_law_16 : decode cL_law 16 = .ok (.istore_n 2, 1) := by decide +kernel
theorem dL_law_17 : decode cL_law 17 = .ok (.iconst 1, 1) := by decide +kernel
theorem dL_law_18 : decode cL_law 18 = .ok (.aload_n 0, 1) := by decide +kernel
theorem dL_law_19 : decode cL_law 19 = .ok (.iconst 1, 1) := by decide +kernel
theorem dL_law_20 : decode cL_law 20 = .ok (.bipush 6, 2) := by decide +kernel
theorem dL_law_22 : decode cL_law 22 = .ok (.invokestatic 49, 3) := by decide +kernel
theorem dL_law_25 : decode cL_law 25 = .ok (.iadd, 1) := by decide +kernel
theorem dL_law_26 : decode cL_law 26 = .ok (.istore_n 3, 1) := by decide +kernel
theorem dL_law_27 : decode cL_law 27 = .ok (.aload_n 1, 1) := by decide +kernel
theorem dL_law_28 : decode cL_law 28 = .ok (.aload_n 0, 1) := by decide +kernel
theorem dL_law_29 : decode cL_law 29 = .ok (.iload_n 2, 1) := by decide +kernel
theorem dL_law_30 : decode cL_law 30 = .ok (.iload_n 3, 1) := by decide +kernel
theorem dL_law_31 : decode cL_law 31 = .ok (.invokestatic 126, 3) := by decide +kernel
theorem dL_law_34 : decode cL_law 34 = .ok (.invokestatic 130, 3) := by decide +kernel
theorem dL_law_37 : decode cL_law 37 = .ok (.ifCond .eq 11, 3) := by decide +kernel
theorem dL_law_40 : decode cL_law 40 = .ok (.aload_n 1, 1) := by decide +kernel
theorem dL_law_41 : decode cL_law 41 = .ok (.invokevirtual 134, 3) := by decide +kernel
theorem dL_law_44 : decode cL_law 44 = .ok (.iload_n 3, 1) := by decide +kernel
theorem dL_law_45 : decode cL_law 45 = .ok (.if_icmp .eq 5, 3) := by decide +kernel
theorem dL_law_48 : decode cL_law 48 = .ok (.iconst 0, 1) := by decide +kernel
theorem dL_law_49 : decode cL_law 49 = .ok (.ireturn, 1) := by decide +kernel
theorem dL_law_50 : decode cL_law 50 = .ok (.new 137, 3) := by decide +kernel
theorem dL_law_53 : decode cL_law 53 = .ok (.dup, 1) := by decide +kernel
theorem dL_law_54 : decode cL_law 54 = .ok (.aload_n 1, 1) := by decide +kernel
theorem dL_law_55 : decode cL_law 55 = .ok (.invokespecial 139, 3) := by decide +kernel
theorem dL_law_58 : decode cL_law 58 = .ok (.astore 4, 2) := by decide +kernel
theorem dL_law_60 : decode cL_law 60 = .ok (.iconst 0, 1) := by decide +kernel
theorem dL_law_61 : decode cL_law 61 = .ok (.istore 5, 2) := by decide +kernel
theorem dL_law_63 : decode cL_law 63 = .ok (.iload 5, 2) := by decide +kernel
theorem dL_law_65 : decode cL_law 65 = .ok (.bipush 24, 2) := by decide +kernel
theorem dL_law_67 : decode cL_law 67 = .ok (.if_icmp .ge 291, 3) := by decide +kernel
theorem dL_law_70 : decode cL_law 70 = .ok (.aload_n 0, 1) := by decide +kernel
theorem dL_law_71 : decode cL_law 71 = .ok (.bipush 15, 2) := by decide +kernel
theorem dL_law_73 : decode cL_law 73 = .ok (.iload 5, 2) := by decide +kernel
theorem dL_law_75 : decode cL_law 75 = .ok (.iadd, 1) := by decide +kernel
theorem dL_law_76 : decode cL_law 76 = .ok (.ldc 142, 2) := by decide +kernel
theorem dL_law_78 : decode cL_law 78 = .ok (.invokestatic 49, 3) := by decide +kernel
theorem dL_law_81 : decode cL_law 81 = .ok (.istore 6, 2) := by decide +kernel
theorem dL_law_83 : decode cL_law 83 = .ok (.iload 6, 2) := by decide +kernel
theorem dL_law_85 : decode cL_law 85 = .ok (.iconst 5, 1) := by decide +kernel
theorem dL_law_86 : decode cL_law 86 = .ok (.irem, 1) := by decide +kernel
theorem dL_law_87 : decode cL_law 87 = .ok (.ifCond .ne 12, 3) := by decide +kernel
theorem dL_law_90 : decode cL_law 90 = .ok (.aload_n 1, 1) := by decide +kernel
theorem dL_law_91 : decode cL_law 91 = .ok (.iload 6, 2) := by decide +kernel
theorem dL_law_93 : decode cL_law 93 = .ok (.bipush 32, 2) := by decide +kernel
theorem dL_law_95 : decode cL_law 95 = .ok (.idiv, 1) := by decide +kernel
theorem dL_law_96 : decode cL_law 96 = .ok (.invokestatic 143, 3) := by decide +kernel
theorem dL_law_99 : decode cL_law 99 = .ok (.aload 4, 2) := by decide +kernel
theorem dL_law_101 : decode cL_law 101 = .ok (.invokevirtual 147, 3) := by decide +kernel
theorem dL_law_104 : decode cL_law 104 = .ok (.iload 6, 2) := by decide +kernel
theorem dL_law_106 : decode cL_law 106 = .ok (.bipush 64, 2) := by decide +kernel
theorem dL_law_108 : decode cL_law 108 = .ok (.idiv, 1) := by decide +kernel
theorem dL_law_109 : decode cL_law 109 = .ok (.iload_n 3, 1) := by decide +kernel
theorem dL_law_110 : decode cL_law 110 = .ok (.irem, 1) := by decide +kernel
theorem dL_law_111 : decode cL_law 111 = .ok (.istore 7, 2) := by decide +kernel
theorem dL_law_113 : decode cL_law 113 = .ok (.iload 6, 2) := by decide +kernel
theorem dL_law_115 : decode cL_law 115 = .ok (.sipush 512, 3) := by decide +kernel
theorem dL_law_118 : decode cL_law 118 = .ok (.idiv, 1) := by decide +kernel
theorem dL_law_119 : decode cL_law 119 = .ok (.iload_n 2, 1) := by decide +kernel
theorem dL_law_120 : decode cL_law 120 = .ok (.irem, 1) := by decide +kernel
theorem dL_law_121 : decode cL_law 121 = .ok (.istore 8, 2) := by decide +kernel
theorem dL_law_123 : decode cL_law 123 = .ok (.iload 6, 2) := by decide +kernel
theorem dL_law_125 : decode cL_law 125 = .ok (.iconst 5, 1) := by decide +kernel
theorem dL_law_126 : decode cL_law 126 = .ok (.irem, 1) := by decide +kernel
theorem dL_law_127 : decode cL_law 127 = .ok (.iconst 1, 1) := by decide +kernel
theorem dL_law_128 : decode cL_law 128 = .ok (.if_icmp .ne 36, 3) := by decide +kernel
theorem dL_law_131 : decode cL_law 131 = .ok (.aload 4, 2) := by decide +kernel
theorem dL_law_133 : decode cL_law 133 = .ok (.iload 7, 2) := by decide +kernel
theorem dL_law_135 : decode cL_law 135 = .ok (.invokevirtual 150, 3) := by decide +kernel
theorem dL_law_138 : decode cL_law 138 = .ok (.istore 9, 2) := by decide +kernel
theorem dL_law_140 : decode cL_law 140 = .ok (.aload_n 1, 1) := by decide +kernel
theorem dL_law_141 : decode cL_law 141 = .ok (.iload 7, 2) := by decide +kernel
theorem dL_law_143 : decode cL_law 143 = .ok (.invokevirtual 77, 3) := by decide +kernel
theorem dL_law_146 : decode cL_law 146 = .ok (.iload 9, 2) := by decide +kernel
theorem dL_law_148 : decode cL_law 148 = .ok (.if_icmp .ne 11, 3) := by decide +kernel
theorem dL_law_151 : decode cL_law 151 = .ok (.aload 4, 2) := by decide +kernel
theorem dL_law_153 : decode cL_law 153 = .ok (.invokevirtual 151, 3) := by decide +kernel
theorem dL_law_156 : decode cL_law 156 = .ok (.ifCond .ne 5, 3) := by decide +kernel
theorem dL_law_159 : decode cL_law 159 = .ok (.iconst 0, 1) := by decide +kernel
theorem dL_law_160 : decode cL_law 160 = .ok (.ireturn, 1) := by decide +kernel
theorem dL_law_161 : decode cL_law 161 = .ok (.goto 181, 3) := by decide +kernel
theorem dL_law_164 : decode cL_law 164 = .ok (.iload 6, 2) := by decide +kernel
theorem dL_law_166 : decode cL_law 166 = .ok (.iconst 5, 1) := by decide +kernel
theorem dL_law_167 : decode cL_law 167 = .ok (.irem, 1) := by decide +kernel
theorem dL_law_168 : decode cL_law 168 = .ok (.iconst 2, 1) := by decide +kernel
theorem dL_law_169 : decode cL_law 169 = .ok (.if_icmp .ne 84, 3) := by decide +kernel
theorem dL_law_172 : decode cL_law 172 = .ok (.aload_n 1, 1) := by decide +kernel
theorem dL_law_173 : decode cL_law 173 = .ok (.iload 7, 2) := by decide +kernel
theorem dL_law_175 : decode cL_law 175 = .ok (.iload 8, 2) := by decide +kernel
theorem dL_law_177 : decode cL_law 177 = .ok (.invokevirtual 69, 3) := by decide +kernel
theorem dL_law_180 : decode cL_law 180 = .ok (.ifCond .le 73, 3) := by decide +kernel
theorem dL_law_183 : decode cL_law 183 = .ok (.iconst 1, 1) := by decide +kernel
theorem dL_law_184 : decode cL_law 184 = .ok (.iload 6, 2) := by decide +kernel
theorem dL_law_186 : decode cL_law 186 = .ok (.sipush 4096, 3) := by decide +kernel
theorem dL_law_189 : decode cL_law 189 = .ok (.idiv, 1) := by decide +kernel
theorem dL_law_190 : decode cL_law 190 = .ok (.aload_n 1, 1) := by decide +kernel
theorem dL_law_191 : decode cL_law 191 = .ok (.iload 7, 2) := by decide +kernel
theorem dL_law_193 : decode cL_law 193 = .ok (.iload 8, 2) := by decide +kernel
theorem dL_law_195 : decode cL_law 195 = .ok (.invokevirtual 69, 3) := by decide +kernel
theorem dL_law_198 : decode cL_law 198 = .ok (.irem, 1) := by decide +kernel
theorem dL_law_199 : decode cL_law 199 = .ok (.iadd, 1) := by decide +kernel
theorem dL_law_200 : decode cL_law 200 = .ok (.istore 9, 2) := by decide +kernel
theorem dL_law_202 : decode cL_law 202 = .ok (.aload 4, 2) := by decide +kernel
theorem dL_law_204 : decode cL_law 204 = .ok (.getfield 155, 3) := by decide +kernel
theorem dL_law_207 : decode cL_law 207 = .ok (.iload 7, 2) := by decide +kernel
theorem dL_law_209 : decode cL_law 209 = .ok (.aaload, 1) := by decide +kernel
theorem dL_law_210 : decode cL_law 210 = .ok (.iload 8, 2) := by decide +kernel
theorem dL_law_212 : decode cL_law 212 = .ok (.dup2, 1) := by decide +kernel
theorem dL_law_213 : decode cL_law 213 = .ok (.iaload, 1) := by decide +kernel
theorem dL_law_214 : decode cL_law 214 = .ok (.iload 9, 2) := by decide +kernel
theorem dL_law_216 : decode cL_law 216 = .ok (.isub, 1) := by decide +kernel
theorem dL_law_217 : decode cL_law 217 = .ok (.iastore, 1) := by decide +kernel
theorem dL_law_218 : decode cL_law 218 = .ok (.aload 4, 2) := by decide +kernel
theorem dL_law_220 : decode cL_law 220 = .ok (.invokevirtual 159, 3) := by decide +kernel
theorem dL_law_223 : decode cL_law 223 = .ok (.istore 10, 2) := by decide +kernel
theorem dL_law_225 : decode cL_law 225 = .ok (.aload_n 1, 1) := by decide +kernel
theorem dL_law_226 : decode cL_law 226 = .ok (.iload 7, 2) := by decide +kernel
theorem dL_law_228 : decode cL_law 228 = .ok (.iload 8, 2) := by decide +kernel
theorem dL_law_230 : decode cL_law 230 = .ok (.iload 9, 2) := by decide +kernel
theorem dL_law_232 : decode cL_law 232 = .ok (.invokevirtual 73, 3) := by decide +kernel
theorem dL_law_235 : decode cL_law 235 = .ok (.iload 10, 2) := by decide +kernel
theorem dL_law_237 : decode cL_law 237 = .ok (.if_icmp .ne 11, 3) := by decide +kernel
theorem dL_law_240 : decode cL_law 240 = .ok (.aload 4, 2) := by decide +kernel
theorem dL_law_242 : decode cL_law 242 = .ok (.invokevirtual 151, 3) := by decide +kernel
theorem dL_law_245 : decode cL_law 245 = .ok (.ifCond .ne 5, 3) := by decide +kernel
theorem dL_law_248 : decode cL_law 248 = .ok (.iconst 0, 1) := by decide +kernel
theorem dL_law_249 : decode cL_law 249 = .ok (.ireturn, 1) := by decide +kernel
theorem dL_law_250 : decode cL_law 250 = .ok (.goto 92, 3) := by decide +kernel
theorem dL_law_253 : decode cL_law 253 = .ok (.aload_n 1, 1) := by decide +kernel
theorem dL_law_254 : decode cL_law 254 = .ok (.iload 7, 2) := by decide +kernel
theorem dL_law_256 : decode cL_law 256 = .ok (.invokevirtual 80, 3) := by decide +kernel
theorem dL_law_259 : decode cL_law 259 = .ok (.ifCond .ne 83, 3) := by decide +kernel
theorem dL_law_262 : decode cL_law 262 = .ok (.aload_n 1, 1) := by decide +kernel
theorem dL_law_263 : decode cL_law 263 = .ok (.iload 7, 2) := by decide +kernel
theorem dL_law_265 : decode cL_law 265 = .ok (.iload 8, 2) := by decide +kernel
theorem dL_law_267 : decode cL_law 267 = .ok (.invokevirtual 118, 3) := by decide +kernel
theorem dL_law_270 : decode cL_law 270 = .ok (.ifCond .le 72, 3) := by decide +kernel
theorem dL_law_273 : decode cL_law 273 = .ok (.iconst 1, 1) := by decide +kernel
theorem dL_law_274 : decode cL_law 274 = .ok (.iload 6, 2) := by decide +kernel
theorem dL_law_276 : decode cL_law 276 = .ok (.sipush 4096, 3) := by decide +kernel
theorem dL_law_279 : decode cL_law 279 = .ok (.idiv, 1) := by decide +kernel
theorem dL_law_280 : decode cL_law 280 = .ok (.aload_n 1, 1) := by decide +kernel
theorem dL_law_281 : decode cL_law 281 = .ok (.iload 7, 2) := by decide +kernel
theorem dL_law_283 : decode cL_law 283 = .ok (.iload 8, 2) := by decide +kernel
theorem dL_law_285 : decode cL_law 285 = .ok (.invokevirtual 118, 3) := by decide +kernel
theorem dL_law_288 : decode cL_law 288 = .ok (.irem, 1) := by decide +kernel
theorem dL_law_289 : decode cL_law 289 = .ok (.iadd, 1) := by decide +kernel
theorem dL_law_290 : decode cL_law 290 = .ok (.istore 9, 2) := by decide +kernel
theorem dL_law_292 : decode cL_law 292 = .ok (.aload 4, 2) := by decide +kernel
theorem dL_law_294 : decode cL_law 294 = .ok (.iload 7, 2) := by decide +kernel
theorem dL_law_296 : decode cL_law 296 = .ok (.iload 8, 2) := by decide +kernel
theorem dL_law_298 : decode cL_law 298 = .ok (.iload 9, 2) := by decide +kernel
theorem dL_law_300 : decode cL_law 300 = .ok (.invokevirtual 162, 3) := by decide +kernel
theorem dL_law_303 : decode cL_law 303 = .ok (.istore 10, 2) := by decide +kernel
theorem dL_law_305 : decode cL_law 305 = .ok (.aload_n 1, 1) := by decide +kernel
theorem dL_law_306 : decode cL_law 306 = .ok (.iload 7, 2) := by decide +kernel
theorem dL_law_308 : decode cL_law 308 = .ok (.iload 8, 2) := by decide +kernel
theorem dL_law_310 : decode cL_law 310 = .ok (.iload 9, 2) := by decide +kernel
theorem dL_law_312 : decode cL_law 312 = .ok (.invokevirtual 121, 3) := by decide +kernel
theorem dL_law_315 : decode cL_law 315 = .ok (.iload 10, 2) := by decide +kernel
theorem dL_law_317 : decode cL_law 317 = .ok (.if_icmp .ne 23, 3) := by decide +kernel
theorem dL_law_320 : decode cL_law 320 = .ok (.aload 4, 2) := by decide +kernel
theorem dL_law_322 : decode cL_law 322 = .ok (.invokevirtual 151, 3) := by decide +kernel
theorem dL_law_325 : decode cL_law 325 = .ok (.ifCond .eq 15, 3) := by decide +kernel
theorem dL_law_328 : decode cL_law 328 = .ok (.iload 10, 2) := by decide +kernel
theorem dL_law_330 : decode cL_law 330 = .ok (.ifCond .eq 12, 3) := by decide +kernel
theorem dL_law_333 : decode cL_law 333 = .ok (.aload_n 1, 1) := by decide +kernel
theorem dL_law_334 : decode cL_law 334 = .ok (.invokevirtual 163, 3) := by decide +kernel
theorem dL_law_337 : decode cL_law 337 = .ok (.ifCond .ne 5, 3) := by decide +kernel
theorem dL_law_340 : decode cL_law 340 = .ok (.iconst 0, 1) := by decide +kernel
theorem dL_law_341 : decode cL_law 341 = .ok (.ireturn, 1) := by decide +kernel
theorem dL_law_342 : decode cL_law 342 = .ok (.aload 4, 2) := by decide +kernel
theorem dL_law_344 : decode cL_law 344 = .ok (.invokevirtual 151, 3) := by decide +kernel
theorem dL_law_347 : decode cL_law 347 = .ok (.ifCond .ne 5, 3) := by decide +kernel
theorem dL_law_350 : decode cL_law 350 = .ok (.iconst 0, 1) := by decide +kernel
theorem dL_law_351 : decode cL_law 351 = .ok (.ireturn, 1) := by decide +kernel
theorem dL_law_352 : decode cL_law 352 = .ok (.iinc 5 1, 3) := by decide +kernel
theorem dL_law_355 : decode cL_law 355 = .ok (.goto (-292), 3) := by decide +kernel
theorem dL_law_358 : decode cL_law 358 = .ok (.iconst 1, 1) := by decide +kernel
theorem dL_law_359 : decode cL_law 359 = .ok (.ireturn, 1) := by decide +kernel
