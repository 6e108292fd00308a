theorem dX11_thrown_0 : decode cX11_thrown 0 = .ok (.aload_n 0, 1) := by decide +kernel
theorem dX11_thrown_1 : decode cX11_thrown 1 = .ok (.getfield 1, 3) := by decide +kernel
theorem dX11_thrown_4 : decode cX11_thrown 4 = .ok (.ireturn, 1) := by decide +kernel
theorem dX11_init_0 : decode cX11_init 0 = .ok (.aload_n 0, 1) := by decide +kernel
theorem dX11_init_1 : decode cX11_init 1 = .ok (.invokespecial 7, 3) := by decide +kernel
theorem dX11_init_4 : decode cX11_init 4 = .ok (.aload_n 0, 1) := by decide +kernel
theorem dX11_init_5 : decode cX11_init 5 = .ok (.sipush 2992, 3) := by decide +kernel
theorem dX11_init_8 : decode cX11_init 8 = .ok (.newarray .int, 2) := by decide +kernel
theorem dX11_init_10 : decode cX11_init 10 = .ok (.putfield 13, 3) := by decide +kernel
theorem dX11_init_13 : decode cX11_init 13 = .ok (.aload_n 0, 1) := by decide +kernel
theorem dX11_init_14 : decode cX11_init 14 = .ok (.iconst 2, 1) := by decide +kernel
theorem dX11_init_15 : decode cX11_init 15 = .ok (.newarray .boolean, 2) := by decide +kernel
theorem dX11_init_17 : decode cX11_init 17 = .ok (.putfield 17, 3) := by decide +kernel
theorem dX11_init_20 : decode cX11_init 20 = .ok (.aload_n 0, 1) := by decide +kernel
theorem dX11_init_21 : decode cX11_init 21 = .ok (.iconst 0, 1) := by decide +kernel
theorem dX11_init_22 : decode cX11_init 22 = .ok (.putfield 21, 3) := by decide +kernel
theorem dX11_init_25 : decode cX11_init 25 = .ok (.aload_n 0, 1) := by decide +kernel
theorem dX11_init_26 : decode cX11_init 26 = .ok (.sipush 600, 3) := by decide +kernel
theorem dX11_init_29 : decode cX11_init 29 = .ok (.newarray .int, 2) := by decide +kernel
theorem dX11_init_31 : decode cX11_init 31 = .ok (.putfield 24, 3) := by decide +kernel
theorem dX11_init_34 : decode cX11_init 34 = .ok (.aload_n 0, 1) := by decide +kernel
theorem dX11_init_35 : decode cX11_init 35 = .ok (.iconst 0, 1) := by decide +kernel
theorem dX11_init_36 : decode cX11_init 36 = .ok (.putfield 27, 3) := by decide +kernel
theorem dX11_init_39 : decode cX11_init 39 = .ok (.aload_n 0, 1) := by decide +kernel
theorem dX11_init_40 : decode cX11_init 40 = .ok (.iconst 0, 1) := by decide +kernel
theorem dX11_init_41 : decode cX11_init 41 = .ok (.putfield 30, 3) := by decide +kernel
theorem dX11_init_44 : decode cX11_init 44 = .ok (.aload_n 0, 1) := by decide +kernel
theorem dX11_init_45 : decode cX11_init 45 = .ok (.iconst (-1), 1) := by decide +kernel
theorem dX11_init_46 : decode cX11_init 46 = .ok (.putfield 33, 3) := by decide +kernel
theorem dX11_init_49 : decode cX11_init 49 = .ok (.aload_n 0, 1) := by decide +kernel
theorem dX11_init_50 : decode cX11_init 50 = .ok (.sipush 240, 3) := by decide +kernel
theorem dX11_init_53 : decode cX11_init 53 = .ok (.newarray .int, 2) := by decide +kernel
theorem dX11_init_55 : decode cX11_init 55 = .ok (.putfield 36, 3) := by decide +kernel
theorem dX11_init_58 : decode cX11_init 58 = .ok (.aload_n 0, 1) := by decide +kernel
theorem dX11_init_59 : decode cX11_init 59 = .ok (.iconst 0, 1) := by decide +kernel
theorem dX11_init_60 : decode cX11_init 60 = .ok (.putfield 39, 3) := by decide +kernel
theorem dX11_init_63 : decode cX11_init 63 = .ok (.aload_n 0, 1) := by decide +kernel
theorem dX11_init_64 : decode cX11_init 64 = .ok (.iconst 0, 1) := by decide +kernel
theorem dX11_init_65 : decode cX11_init 65 = .ok (.putfield 1, 3) := by decide +kernel
theorem dX11_init_68 : decode cX11_init 68 = .ok (.aload_n 0, 1) := by decide +kernel
theorem dX11_init_69 : decode cX11_init 69 = .ok (.iconst 5, 1) := by decide +kernel
theorem dX11_init_70 : decode cX11_init 70 = .ok (.newarray .int, 2) := by decide +kernel
theorem dX11_init_72 : decode cX11_init 72 = .ok (.putfield 42, 3) := by decide +kernel
theorem dX11_init_75 : decode cX11_init 75 = .ok (.aload_n 0, 1) := by decide +kernel
theorem dX11_init_76 : decode cX11_init 76 = .ok (.bipush 8, 2) := by decide +kernel
theorem dX11_init_78 : decode cX11_init 78 = .ok (.newarray .int, 2) := by decide +kernel
theorem dX11_init_80 : decode cX11_init 80 = .ok (.putfield 45, 3) := by decide +kernel
theorem dX11_init_83 : decode cX11_init 83 = .ok (.aload_n 0, 1) := by decide +kernel
theorem dX11_init_84 : decode cX11_init 84 = .ok (.bipush 8, 2) := by decide +kernel
theorem dX11_init_86 : decode cX11_init 86 = .ok (.newarray .boolean, 2) := by decide +kernel
theorem dX11_init_88 : decode cX11_init 88 = .ok (.putfield 48, 3) := by decide +kernel
theorem dX11_init_91 : decode cX11_init 91 = .ok (.aload_n 0, 1) := by decide +kernel
theorem dX11_init_92 : decode cX11_init 92 = .ok (.bipush 8, 2) := by decide +kernel
theorem dX11_init_94 : decode cX11_init 94 = .ok (.newarray .int, 2) := by decide +kernel
theorem dX11_init_96 : decode cX11_init 96 = .ok (.putfield 51, 3) := by decide +kernel
theorem dX11_init_99 : decode cX11_init 99 = .ok (.aload_n 0, 1) := by decide +kernel
theorem dX11_init_100 : decode cX11_init 100 = .ok (.bipush 8, 2) := by decide +kernel
theorem dX11_init_102 : decode cX11_init 102 = .ok (.newarray .int, 2) := by decide +kernel
theorem dX11_init_104 : decode cX11_init 104 = .ok (.putfield 54, 3) := by decide +kernel
theorem dX11_init_107 : decode cX11_init 107 = .ok (.aload_n 0, 1) := by decide +kernel
theorem dX11_init_108 : decode cX11_init 108 = .ok (.iconst 0, 1) := by decide +kernel
theorem dX11_init_109 : decode cX11_init 109 = .ok (.putfield 57, 3) := by decide +kernel
theorem dX11_init_112 : decode cX11_init 112 = .ok (.aload_n 0, 1) := by decide +kernel
theorem dX11_init_113 : decode cX11_init 113 = .ok (.iconst 0, 1) := by decide +kernel
theorem dX11_init_114 : decode cX11_init 114 = .ok (.putfield 60, 3) := by decide +kernel
theorem dX11_init_117 : decode cX11_init 117 = .ok (.aload_n 0, 1) := by decide +kernel
theorem dX11_init_118 : decode cX11_init 118 = .ok (.iconst 0, 1) := by decide +kernel
theorem dX11_init_119 : decode cX11_init 119 = .ok (.putfield 63, 3) := by decide +kernel
theorem dX11_init_122 : decode cX11_init 122 = .ok (.aload_n 0, 1) := by decide +kernel
theorem dX11_init_123 : decode cX11_init 123 = .ok (.iconst 0, 1) := by decide +kernel
theorem dX11_init_124 : decode cX11_init 124 = .ok (.putfield 66, 3) := by decide +kernel
theorem dX11_init_127 : decode cX11_init 127 = .ok (.aload_n 0, 1) := by decide +kernel
theorem dX11_init_128 : decode cX11_init 128 = .ok (.bipush 120, 2) := by decide +kernel
theorem dX11_init_130 : decode cX11_init 130 = .ok (.newarray .int, 2) := by decide +kernel
theorem dX11_init_132 : decode cX11_init 132 = .ok (.putfield 69, 3) := by decide +kernel
theorem dX11_init_135 : decode cX11_init 135 = .ok (.ldc 72, 2) := by decide +kernel
theorem dX11_init_137 : decode cX11_init 137 = .ok (.astore_n 1, 1) := by decide +kernel
theorem dX11_init_138 : decode cX11_init 138 = .ok (.iconst 0, 1) := by decide +kernel
theorem dX11_init_139 : decode cX11_init 139 = .ok (.istore_n 2, 1) := by decide +kernel
theorem dX11_init_140 : decode cX11_init 140 = .ok (.iload_n 2, 1) := by decide +kernel
theorem dX11_init_141 : decode cX11_init 141 = .ok (.aload_n 1, 1) := by decide +kernel
theorem dX11_init_142 : decode cX11_init 142 = .ok (.invokevirtual 74, 3) := by decide +kernel
theorem dX11_init_145 : decode cX11_init 145 = .ok (.if_icmp .ge 20, 3) := by decide +kernel
theorem dX11_init_148 : decode cX11_init 148 = .ok (.aload_n 0, 1) := by decide +kernel
theorem dX11_init_149 : decode cX11_init 149 = .ok (.getfield 24, 3) := by decide +kernel
theorem dX11_init_152 : decode cX11_init 152 = .ok (.iload_n 2, 1) := by decide +kernel
theorem dX11_init_153 : decode cX11_init 153 = .ok (.aload_n 1, 1) := by decide +kernel
theorem dX11_init_154 : decode cX11_init 154 = .ok (.iload_n 2, 1) := by decide +kernel
theorem dX11_init_155 : decode cX11_init 155 = .ok (.invokevirtual 79, 3) := by decide +kernel
theorem dX11_init_158 : decode cX11_init 158 = .ok (.iastore, 1) := by decide +kernel
theorem dX11_init_159 : decode cX11_init 159 = .ok (.iinc 2 1, 3) := by decide +kernel
theorem dX11_init_162 : decode cX11_init 162 = .ok (.goto (-22), 3) := by decide +kernel
theorem dX11_init_165 : decode cX11_init 165 = .ok (.aload_n 0, 1) := by decide +kernel
theorem dX11_init_166 : decode cX11_init 166 = .ok (.aload_n 1, 1) := by decide +kernel
theorem dX11_init_167 : decode cX11_init 167 = .ok (.invokevirtual 74, 3) := by decide +kernel
theorem dX11_init_170 : decode cX11_init 170 = .ok (.putfield 27, 3) := by decide +kernel
theorem dX11_init_173 : decode cX11_init 173 = .ok (.aload_n 0, 1) := by decide +kernel
theorem dX11_init_174 : decode cX11_init 174 = .ok (.invokevirtual 83, 3) := by decide +kernel
theorem dX11_init_177 : decode cX11_init 177 = .ok (.aload_n 0, 1) := by decide +kernel
theorem dX11_init_178 : decode cX11_init 178 = .ok (.invokevirtual 86, 3) := by decide +kernel
theorem dX11_init_181 : decode cX11_init 181 = .ok (.pop, 1) := by decide +kernel
theorem dX11_init_182 : decode cX11_init 182 = .ok (.aload_n 0, 1) := by decide +kernel
theorem dX11_init_183 : decode cX11_init 183 = .ok (.iconst 0, 1) := by decide +kernel
theorem dX11_init_184 : decode cX11_init 184 = .ok (.putfield 27, 3) := by decide +kernel
theorem dX11_init_187 : decode cX11_init 187 = .ok (.return_, 1) := by decide +kernel
theorem dX11_fails_0 : decode cX11_fails 0 = .ok (.aload_n 0, 1) := by decide +kernel
theorem dX11_fails_1 : decode cX11_fails 1 = .ok (.iload_n 1, 1) := by decide +kernel
theorem dX11_fails_2 : decode cX11_fails 2 = .ok (.ifCond .eq 7, 3) := by decide +kernel
theorem dX11_fails_5 : decode cX11_fails 5 = .ok (.iconst 1, 1) := by decide +kernel
theorem dX11_fails_6 : decode cX11_fails 6 = .ok (.goto 20, 3) := by decide +kernel
theorem dX11_fails_9 : decode cX11_fails 9 = .ok (.iload_n 2, 1) := by decide +kernel
theorem dX11_fails_10 : decode cX11_fails 10 = .ok (.ifCond .eq 7, 3) := by decide +kernel
theorem dX11_fails_13 : decode cX11_fails 13 = .ok (.iconst 2, 1) := by decide +kernel
theorem dX11_fails_14 : decode cX11_fails 14 = .ok (.goto 12, 3) := by decide +kernel
theorem dX11_fails_17 : decode cX11_fails 17 = .ok (.iload_n 3, 1) := by decide +kernel
theorem dX11_fails_18 : decode cX11_fails 18 = .ok (.ifCond .eq 7, 3) := by decide +kernel
theorem dX11_fails_21 : decode cX11_fails 21 = .ok (.iconst 3, 1) := by decide +kernel
theorem dX11_fails_22 : decode cX11_fails 22 = .ok (.goto 4, 3) := by decide +kernel
theorem dX11_fails_25 : decode cX11_fails 25 = .ok (.iconst 0, 1) := by decide +kernel
theorem dX11_fails_26 : decode cX11_fails 26 = .ok (.putfield 1, 3) := by decide +kernel
theorem dX11_fails_29 : decode cX11_fails 29 = .ok (.aload_n 0, 1) := by decide +kernel
theorem dX11_fails_30 : decode cX11_fails 30 = .ok (.getfield 1, 3) := by decide +kernel
theorem dX11_fails_33 : decode cX11_fails 33 = .ok (.ifCond .le 7, 3) := by decide +kernel
theorem dX11_fails_36 : decode cX11_fails 36 = .ok (.iconst 1, 1) := by decide +kernel
theorem dX11_fails_37 : decode cX11_fails 37 = .ok (.goto 4, 3) := by decide +kernel
theorem dX11_fails_40 : decode cX11_fails 40 = .ok (.iconst 0, 1) := by decide +kernel
theorem dX11_fails_41 : decode cX11_fails 41 = .ok (.ireturn, 1) := by decide +kernel
theorem dX11_in_0 : decode cX11_in 0 = .ok (.iload_n 0, 1) := by decide +kernel
theorem dX11_in_1 : decode cX11_in 1 = .ok (.iload_n 1, 1) := by decide +kernel
theorem dX11_in_2 : decode cX11_in 2 = .ok (.if_icmp .lt 12, 3) := by decide +kernel
theorem dX11_in_5 : decode cX11_in 5 = .ok (.iload_n 0, 1) := by decide +kernel
theorem dX11_in_6 : decode cX11_in 6 = .ok (.iload_n 2, 1) := by decide +kernel
theorem dX11_in_7 : decode cX11_in 7 = .ok (.if_icmp .gt 7, 3) := by decide +kernel
theorem dX11_in_10 : decode cX11_in 10 = .ok (.iconst 1, 1) := by decide +kernel
theorem dX11_in_11 : decode cX11_in 11 = .ok (.goto 4, 3) := by decide +kernel
theorem dX11_in_14 : decode cX11_in 14 = .ok (.iconst 0, 1) := by decide +kernel
theorem dX11_in_15 : decode cX11_in 15 = .ok (.ireturn, 1) := by decide +kernel
theorem dX11_isPasture_0 : decode cX11_isPasture 0 = .ok (.iload_n 1, 1) := by decide +kernel
theorem dX11_isPasture_1 : decode cX11_isPasture 1 = .ok (.iconst 0, 1) := by decide +kernel
theorem dX11_isPasture_2 : decode cX11_isPasture 2 = .ok (.aload_n 0, 1) := by decide +kernel
theorem dX11_isPasture_3 : decode cX11_isPasture 3 = .ok (.getfield 13, 3) := by decide +kernel
theorem dX11_isPasture_6 : decode cX11_isPasture 6 = .ok (.iconst 0, 1) := by decide +kernel
theorem dX11_isPasture_7 : decode cX11_isPasture 7 = .ok (.iaload, 1) := by decide +kernel
theorem dX11_isPasture_8 : decode cX11_isPasture 8 = .ok (.iconst 1, 1) := by decide +kernel
theorem dX11_isPasture_9 : decode cX11_isPasture 9 = .ok (.isub, 1) := by decide +kernel
theorem dX11_isPasture_10 : decode cX11_isPasture 10 = .ok (.invokestatic 90, 3) := by decide +kernel
theorem dX11_isPasture_13 : decode cX11_isPasture 13 = .ok (.ireturn, 1) := by decide +kernel
theorem dX11_isHerd_0 : decode cX11_isHerd 0 = .ok (.iload_n 1, 1) := by decide +kernel
theorem dX11_isHerd_1 : decode cX11_isHerd 1 = .ok (.iconst 0, 1) := by decide +kernel
theorem dX11_isHerd_2 : decode cX11_isHerd 2 = .ok (.aload_n 0, 1) := by decide +kernel
theorem dX11_isHerd_3 : decode cX11_isHerd 3 = .ok (.getfield 13, 3) := by decide +kernel
theorem dX11_isHerd_6 : decode cX11_isHerd 6 = .ok (.iconst 1, 1) := by decide +kernel
theorem dX11_isHerd_7 : decode cX11_isHerd 7 = .ok (.iaload, 1) := by decide +kernel
theorem dX11_isHerd_8 : decode cX11_isHerd 8 = .ok (.iconst 1, 1) := by decide +kernel
theorem dX11_isHerd_9 : decode cX11_isHerd 9 = .ok (.isub, 1) := by decide +kernel
theorem dX11_isHerd_10 : decode cX11_isHerd 10 = .ok (.invokestatic 90, 3) := by decide +kernel
theorem dX11_isHerd_13 : decode cX11_isHerd 13 = .ok (.ireturn, 1) := by decide +kernel
theorem dX11_areThere_0 : decode cX11_areThere 0 = .ok (.aload_n 0, 1) := by decide +kernel
theorem dX11_areThere_1 : decode cX11_areThere 1 = .ok (.iload_n 1, 1) := by decide +kernel
theorem dX11_areThere_2 : decode cX11_areThere 2 = .ok (.invokevirtual 94, 3) := by decide +kernel
theorem dX11_areThere_5 : decode cX11_areThere 5 = .ok (.ifCond .eq 15, 3) := by decide +kernel
theorem dX11_areThere_8 : decode cX11_areThere 8 = .ok (.aload_n 0, 1) := by decide +kernel
theorem dX11_areThere_9 : decode cX11_areThere 9 = .ok (.iload_n 2, 1) := by decide +kernel
theorem dX11_areThere_10 : decode cX11_areThere 10 = .ok (.invokevirtual 98, 3) := by decide +kernel
theorem dX11_areThere_13 : decode cX11_areThere 13 = .ok (.ifCond .eq 7, 3) := by decide +kernel
theorem dX11_areThere_16 : decode cX11_areThere 16 = .ok (.iconst 1, 1) := by decide +kernel
theorem dX11_areThere_17 : decode cX11_areThere 17 = .ok (.goto 4, 3) := by decide +kernel
theorem dX11_areThere_20 : decode cX11_areThere 20 = .ok (.iconst 0, 1) := by decide +kernel
theorem dX11_areThere_21 : decode cX11_areThere 21 = .ok (.ireturn, 1) := by decide +kernel
theorem dX11_of_0 : decode cX11_of 0 = .ok (.aload_n 0, 1) := by decide +kernel
theorem dX11_of_1 : decode cX11_of 1 = .ok (.getfield 13, 3) := by decide +kernel
theorem dX11_of_4 : decode cX11_of 4 = .ok (.bipush 56, 2) := by decide +kernel
theorem dX11_of_6 : decode cX11_of 6 = .ok (.iload_n 1, 1) := by decide +kernel
theorem dX11_of_7 : decode cX11_of 7 = .ok (.bipush 19, 2) := by decide +kernel
theorem dX11_of_9 : decode cX11_of 9 = .ok (.imul, 1) := by decide +kernel
theorem dX11_of_10 : decode cX11_of 10 = .ok (.iadd, 1) := by decide +kernel
theorem dX11_of_11 : decode cX11_of 11 = .ok (.iload_n 2, 1) := by decide +kernel
theorem dX11_of_12 : decode cX11_of 12 = .ok (.iadd, 1) := by decide +kernel
theorem dX11_of_13 : decode cX11_of 13 = .ok (.iaload, 1) := by decide +kernel
theorem dX11_of_14 : decode cX11_of 14 = .ok (.ireturn, 1) := by decide +kernel
theorem dX11_set_0 : decode cX11_set 0 = .ok (.aload_n 0, 1) := by decide +kernel
theorem dX11_set_1 : decode cX11_set 1 = .ok (.getfield 13, 3) := by decide +kernel
theorem dX11_set_4 : decode cX11_set 4 = .ok (.bipush 56, 2) := by decide +kernel
theorem dX11_set_6 : decode cX11_set 6 = .ok (.iload_n 1, 1) := by decide +kernel
theorem dX11_set_7 : decode cX11_set 7 = .ok (.bipush 19, 2) := by decide +kernel
theorem dX11_set_9 : decode cX11_set 9 = .ok (.imul, 1) := by decide +kernel
theorem dX11_set_10 : decode cX11_set 10 = .ok (.iadd, 1) := by decide +kernel
theorem dX11_set_11 : decode cX11_set 11 = .ok (.iload_n 2, 1) := by decide +kernel
theorem dX11_set_12 : decode cX11_set 12 = .ok (.iadd, 1) := by decide +kernel
theorem dX11_set_13 : decode cX11_set 13 = .ok (.iload_n 3, 1) := by decide +kernel
theorem dX11_set_14 : decode cX11_set 14 = .ok (.iastore, 1) := by decide +kernel
theorem dX11_set_15 : decode cX11_set 15 = .ok (.return_, 1) := by decide +kernel
theorem dX11_capacityOf_0 : decode cX11_capacityOf 0 = .ok (.aload_n 0, 1) := by decide +kernel
theorem dX11_capacityOf_1 : decode cX11_capacityOf 1 = .ok (.getfield 13, 3) := by decide +kernel
theorem dX11_capacityOf_4 : decode cX11_capacityOf 4 = .ok (.bipush 16, 2) := by decide +kernel
theorem dX11_capacityOf_6 : decode cX11_capacityOf 6 = .ok (.iload_n 1, 1) := by decide +kernel
theorem dX11_capacityOf_7 : decode cX11_capacityOf 7 = .ok (.bipush 8, 2) := by decide +kernel
theorem dX11_capacityOf_9 : decode cX11_capacityOf 9 = .ok (.imul, 1) := by decide +kernel
theorem dX11_capacityOf_10 : decode cX11_capacityOf 10 = .ok (.iadd, 1) := by decide +kernel
theorem dX11_capacityOf_11 : decode cX11_capacityOf 11 = .ok (.bipush 7, 2) := by decide +kernel
theorem dX11_capacityOf_13 : decode cX11_capacityOf 13 = .ok (.iadd, 1) := by decide +kernel
theorem dX11_capacityOf_14 : decode cX11_capacityOf 14 = .ok (.iaload, 1) := by decide +kernel
theorem dX11_capacityOf_15 : decode cX11_capacityOf 15 = .ok (.ireturn, 1) := by decide +kernel
theorem dX11_setCapacityOf_0 : decode cX11_setCapacityOf 0 = .ok (.aload_n 0, 1) := by decide +kernel
theorem dX11_setCapacityOf_1 : decode cX11_setCapacityOf 1 = .ok (.getfield 13, 3) := by decide +kernel
theorem dX11_setCapacityOf_4 : decode cX11_setCapacityOf 4 = .ok (.bipush 16, 2) := by decide +kernel
theorem dX11_setCapacityOf_6 : decode cX11_setCapacityOf 6 = .ok (.iload_n 1, 1) := by decide +kernel
theorem dX11_setCapacityOf_7 : decode cX11_setCapacityOf 7 = .ok (.bipush 8, 2) := by decide +kernel
theorem dX11_setCapacityOf_9 : decode cX11_setCapacityOf 9 = .ok (.imul, 1) := by decide +kernel
theorem dX11_setCapacityOf_10 : decode cX11_setCapacityOf 10 = .ok (.iadd, 1) := by decide +kernel
theorem dX11_setCapacityOf_11 : decode cX11_setCapacityOf 11 = .ok (.bipush 7, 2) := by decide +kernel
theorem dX11_setCapacityOf_13 : decode cX11_setCapacityOf 13 = .ok (.iadd, 1) := by decide +kernel
theorem dX11_setCapacityOf_14 : decode cX11_setCapacityOf 14 = .ok (.iload_n 2, 1) := by decide +kernel
theorem dX11_setCapacityOf_15 : decode cX11_setCapacityOf 15 = .ok (.iastore, 1) := by decide +kernel
theorem dX11_setCapacityOf_16 : decode cX11_setCapacityOf 16 = .ok (.return_, 1) := by decide +kernel
theorem dX11_debtOf_0 : decode cX11_debtOf 0 = .ok (.aload_n 0, 1) := by decide +kernel
theorem dX11_debtOf_1 : decode cX11_debtOf 1 = .ok (.getfield 13, 3) := by decide +kernel
theorem dX11_debtOf_4 : decode cX11_debtOf 4 = .ok (.sipush 208, 3) := by decide +kernel
theorem dX11_debtOf_7 : decode cX11_debtOf 7 = .ok (.iload_n 1, 1) := by decide +kernel
theorem dX11_debtOf_8 : decode cX11_debtOf 8 = .ok (.bipush 8, 2) := by decide +kernel
theorem dX11_debtOf_10 : decode cX11_debtOf 10 = .ok (.imul, 1) := by decide +kernel
theorem dX11_debtOf_11 : decode cX11_debtOf 11 = .ok (.iadd, 1) := by decide +kernel
theorem dX11_debtOf_12 : decode cX11_debtOf 12 = .ok (.iload_n 2, 1) := by decide +kernel
theorem dX11_debtOf_13 : decode cX11_debtOf 13 = .ok (.iadd, 1) := by decide +kernel
theorem dX11_debtOf_14 : decode cX11_debtOf 14 = .ok (.iaload, 1) := by decide +kernel
theorem dX11_debtOf_15 : decode cX11_debtOf 15 = .ok (.ireturn, 1) := by decide +kernel
theorem dX11_copyBlock_0 : decode cX11_copyBlock 0 = .ok (.iconst 0, 1) := by decide +kernel
theorem dX11_copyBlock_1 : decode cX11_copyBlock 1 = .ok (.istore_n 3, 1) := by decide +kernel
theorem dX11_copyBlock_2 : decode cX11_copyBlock 2 = .ok (.iload_n 3, 1) := by decide +kernel
theorem dX11_copyBlock_3 : decode cX11_copyBlock 3 = .ok (.sipush 272, 3) := by decide +kernel
theorem dX11_copyBlock_6 : decode cX11_copyBlock 6 = .ok (.if_icmp .ge 33, 3) := by decide +kernel
theorem dX11_copyBlock_9 : decode cX11_copyBlock 9 = .ok (.aload_n 0, 1) := by decide +kernel
theorem dX11_copyBlock_10 : decode cX11_copyBlock 10 = .ok (.getfield 13, 3) := by decide +kernel
theorem dX11_copyBlock_13 : decode cX11_copyBlock 13 = .ok (.iload_n 2, 1) := by decide +kernel
theorem dX11_copyBlock_14 : decode cX11_copyBlock 14 = .ok (.sipush 272, 3) := by decide +kernel
theorem dX11_copyBlock_17 : decode cX11_copyBlock 17 = .ok (.imul, 1) := by decide +kernel
theorem dX11_copyBlock_18 : decode cX11_copyBlock 18 = .ok (.iload_n 3, 1) := by decide +kernel
theorem dX11_copyBlock_19 : decode cX11_copyBlock 19 = .ok (.iadd, 1) := by decide +kernel
theorem dX11_copyBlock_20 : decode cX11_copyBlock 20 = .ok (.aload_n 0, 1) := by decide +kernel
theorem dX11_copyBlock_21 : decode cX11_copyBlock 21 = .ok (.getfield 13, 3) := by decide +kernel
theorem dX11_copyBlock_24 : decode cX11_copyBlock 24 = .ok (.iload_n 1, 1) := by decide +kernel
theorem dX11_copyBlock_25 : decode cX11_copyBlock 25 = .ok (.sipush 272, 3) := by decide +kernel
theorem dX11_copyBlock_28 : decode cX11_copyBlock 28 = .ok (.imul, 1) := by decide +kernel
theorem dX11_copyBlock_29 : decode cX11_copyBlock 29 = .ok (.iload_n 3, 1) := by decide +kernel
theorem dX11_copyBlock_30 : decode cX11_copyBlock 30 = .ok (.iadd, 1) := by decide +kernel
theorem dX11_copyBlock_31 : decode cX11_copyBlock 31 = .ok (.iaload, 1) := by decide +kernel
theorem dX11_copyBlock_32 : decode cX11_copyBlock 32 = .ok (.iastore, 1) := by decide +kernel
theorem dX11_copyBlock_33 : decode cX11_copyBlock 33 = .ok (.iinc 3 1, 3) := by decide +kernel
theorem dX11_copyBlock_36 : decode cX11_copyBlock 36 = .ok (.goto (-34), 3) := by decide +kernel
theorem dX11_copyBlock_39 : decode cX11_copyBlock 39 = .ok (.return_, 1) := by decide +kernel
theorem dX11_remember_0 : decode cX11_remember 0 = .ok (.aload_n 0, 1) := by decide +kernel
theorem dX11_remember_1 : decode cX11_remember 1 = .ok (.getfield 21, 3) := by decide +kernel
theorem dX11_remember_4 : decode cX11_remember 4 = .ok (.bipush 6, 2) := by decide +kernel
theorem dX11_remember_6 : decode cX11_remember 6 = .ok (.if_icmp .ne 35, 3) := by decide +kernel
theorem dX11_remember_9 : decode cX11_remember 9 = .ok (.iconst 1, 1) := by decide +kernel
theorem dX11_remember_10 : decode cX11_remember 10 = .ok (.istore_n 2, 1) := by decide +kernel
theorem dX11_remember_11 : decode cX11_remember 11 = .ok (.iload_n 2, 1) := by decide +kernel
theorem dX11_remember_12 : decode cX11_remember 12 = .ok (.bipush 6, 2) := by decide +kernel
theorem dX11_remember_14 : decode cX11_remember 14 = .ok (.if_icmp .ge 17, 3) := by decide +kernel
theorem dX11_remember_17 : decode cX11_remember 17 = .ok (.aload_n 0, 1) := by decide +kernel
theorem dX11_remember_18 : decode cX11_remember 18 = .ok (.iload_n 2, 1) := by decide +kernel
theorem dX11_remember_19 : decode cX11_remember 19 = .ok (.iconst 1, 1) := by decide +kernel
theorem dX11_remember_20 : decode cX11_remember 20 = .ok (.iadd, 1) := by decide +kernel
theorem dX11_remember_21 : decode cX11_remember 21 = .ok (.iload_n 2, 1) := by decide +kernel
theorem dX11_remember_22 : decode cX11_remember 22 = .ok (.invokevirtual 101, 3) := by decide +kernel
theorem dX11_remember_25 : decode cX11_remember 25 = .ok (.iinc 2 1, 3) := by decide +kernel
theorem dX11_remember_28 : decode cX11_remember 28 = .ok (.goto (-17), 3) := by decide +kernel
theorem dX11_remember_31 : decode cX11_remember 31 = .ok (.aload_n 0, 1) := by decide +kernel
theorem dX11_remember_32 : decode cX11_remember 32 = .ok (.dup, 1) := by decide +kernel
theorem dX11_remember_33 : decode cX11_remember 33 = .ok (.getfield 21, 3) := by decide +kernel
theorem dX11_remember_36 : decode cX11_remember 36 = .ok (.iconst 1, 1) := by decide +kernel
theorem dX11_remember_37 : decode cX11_remember 37 = .ok (.isub, 1) := by decide +kernel
theorem dX11_remember_38 : decode cX11_remember 38 = .ok (.putfield 21, 3) := by decide +kernel
theorem dX11_remember_41 : decode cX11_remember 41 = .ok (.aload_n 0, 1) := by decide +kernel
theorem dX11_remember_42 : decode cX11_remember 42 = .ok (.dup, 1) := by decide +kernel
theorem dX11_remember_43 : decode cX11_remember 43 = .ok (.getfield 21, 3) := by decide +kernel
theorem dX11_remember_46 : decode cX11_remember 46 = .ok (.iconst 1, 1) := by decide +kernel
theorem dX11_remember_47 : decode cX11_remember 47 = .ok (.iadd, 1) := by decide +kernel
theorem dX11_remember_48 : decode cX11_remember 48 = .ok (.putfield 21, 3) := by decide +kernel
theorem dX11_remember_51 : decode cX11_remember 51 = .ok (.aload_n 0, 1) := by decide +kernel
theorem dX11_remember_52 : decode cX11_remember 52 = .ok (.iload_n 1, 1) := by decide +kernel
theorem dX11_remember_53 : decode cX11_remember 53 = .ok (.aload_n 0, 1) := by decide +kernel
theorem dX11_remember_54 : decode cX11_remember 54 = .ok (.getfield 21, 3) := by decide +kernel
theorem dX11_remember_57 : decode cX11_remember 57 = .ok (.invokevirtual 101, 3) := by decide +kernel
theorem dX11_remember_60 : decode cX11_remember 60 = .ok (.return_, 1) := by decide +kernel
theorem dX11_allocated_0 : decode cX11_allocated 0 = .ok (.iconst 0, 1) := by decide +kernel
theorem dX11_allocated_1 : decode cX11_allocated 1 = .ok (.istore_n 2, 1) := by decide +kernel
theorem dX11_allocated_2 : decode cX11_allocated 2 = .ok (.iconst 0, 1) := by decide +kernel
theorem dX11_allocated_3 : decode cX11_allocated 3 = .ok (.istore_n 3, 1) := by decide +kernel
theorem dX11_allocated_4 : decode cX11_allocated 4 = .ok (.iload_n 3, 1) := by decide +kernel
theorem dX11_allocated_5 : decode cX11_allocated 5 = .ok (.aload_n 0, 1) := by decide +kernel
theorem dX11_allocated_6 : decode cX11_allocated 6 = .ok (.getfield 13, 3) := by decide +kernel
theorem dX11_allocated_9 : decode cX11_allocated 9 = .ok (.iconst 1, 1) := by decide +kernel
theorem dX11_allocated_10 : decode cX11_allocated 10 = .ok (.iaload, 1) := by decide +kernel
theorem dX11_allocated_11 : decode cX11_allocated 11 = .ok (.if_icmp .ge 21, 3) := by decide +kernel
theorem dX11_allocated_14 : decode cX11_allocated 14 = .ok (.iload_n 2, 1) := by decide +kernel
theorem dX11_allocated_15 : decode cX11_allocated 15 = .ok (.aload_n 0, 1) := by decide +kernel
theorem dX11_allocated_16 : decode cX11_allocated 16 = .ok (.iload_n 3, 1) := by decide +kernel
theorem dX11_allocated_17 : decode cX11_allocated 17 = .ok (.bipush 14, 2) := by decide +kernel
theorem dX11_allocated_19 : decode cX11_allocated 19 = .ok (.iload_n 1, 1) := by decide +kernel
theorem dX11_allocated_20 : decode cX11_allocated 20 = .ok (.iadd, 1) := by decide +kernel
theorem dX11_allocated_21 : decode cX11_allocated 21 = .ok (.invokevirtual 105, 3) := by decide +kernel
theorem dX11_allocated_24 : decode cX11_allocated 24 = .ok (.iadd, 1) := by decide +kernel
theorem dX11_allocated_25 : decode cX11_allocated 25 = .ok (.istore_n 2, 1) := by decide +kernel
theorem dX11_allocated_26 : decode cX11_allocated 26 = .ok (.iinc 3 1, 3) := by decide +kernel
theorem dX11_allocated_29 : decode cX11_allocated 29 = .ok (.goto (-25), 3) := by decide +kernel
theorem dX11_allocated_32 : decode cX11_allocated 32 = .ok (.iload_n 2, 1) := by decide +kernel
theorem dX11_allocated_33 : decode cX11_allocated 33 = .ok (.ireturn, 1) := by decide +kernel
theorem dX11_free_0 : decode cX11_free 0 = .ok (.aload_n 0, 1) := by decide +kernel
theorem dX11_free_1 : decode cX11_free 1 = .ok (.iload_n 1, 1) := by decide +kernel
theorem dX11_free_2 : decode cX11_free 2 = .ok (.invokevirtual 109, 3) := by decide +kernel
theorem dX11_free_5 : decode cX11_free 5 = .ok (.aload_n 0, 1) := by decide +kernel
theorem dX11_free_6 : decode cX11_free 6 = .ok (.iload_n 1, 1) := by decide +kernel
theorem dX11_free_7 : decode cX11_free 7 = .ok (.invokevirtual 113, 3) := by decide +kernel
theorem dX11_free_10 : decode cX11_free 10 = .ok (.isub, 1) := by decide +kernel
theorem dX11_free_11 : decode cX11_free 11 = .ok (.ireturn, 1) := by decide +kernel
theorem dX11_needOf_0 : decode cX11_needOf 0 = .ok (.aload_n 0, 1) := by decide +kernel
theorem dX11_needOf_1 : decode cX11_needOf 1 = .ok (.iload_n 1, 1) := by decide +kernel
theorem dX11_needOf_2 : decode cX11_needOf 2 = .ok (.bipush 9, 2) := by decide +kernel
theorem dX11_needOf_4 : decode cX11_needOf 4 = .ok (.iload_n 2, 1) := by decide +kernel
theorem dX11_needOf_5 : decode cX11_needOf 5 = .ok (.iadd, 1) := by decide +kernel
theorem dX11_needOf_6 : decode cX11_needOf 6 = .ok (.invokevirtual 105, 3) := by decide +kernel
theorem dX11_needOf_9 : decode cX11_needOf 9 = .ok (.aload_n 0, 1) := by decide +kernel
theorem dX11_needOf_10 : decode cX11_needOf 10 = .ok (.iload_n 1, 1) := by decide +kernel
theorem dX11_needOf_11 : decode cX11_needOf 11 = .ok (.bipush 14, 2) := by decide +kernel
theorem dX11_needOf_13 : decode cX11_needOf 13 = .ok (.iload_n 2, 1) := by decide +kernel
theorem dX11_needOf_14 : decode cX11_needOf 14 = .ok (.iadd, 1) := by decide +kernel
theorem dX11_needOf_15 : decode cX11_needOf 15 = .ok (.invokevirtual 105, 3) := by decide +kernel
theorem dX11_needOf_18 : decode cX11_needOf 18 = .ok (.isub, 1) := by decide +kernel
theorem dX11_needOf_19 : decode cX11_needOf 19 = .ok (.ireturn, 1) := by decide +kernel
theorem dX11_takeFree_0 : decode cX11_takeFree 0 = .ok (.iconst 0, 1) := by decide +kernel
theorem dX11_takeFree_1 : decode cX11_takeFree 1 = .ok (.istore_n 1, 1) := by decide +kernel
theorem dX11_takeFree_2 : decode cX11_takeFree 2 = .ok (.iload_n 1, 1) := by decide +kernel
theorem dX11_takeFree_3 : decode cX11_takeFree 3 = .ok (.aload_n 0, 1) := by decide +kernel
theorem dX11_takeFree_4 : decode cX11_takeFree 4 = .ok (.getfield 13, 3) := by decide +kernel
theorem dX11_takeFree_7 : decode cX11_takeFree 7 = .ok (.iconst 0, 1) := by decide +kernel
theorem dX11_takeFree_8 : decode cX11_takeFree 8 = .ok (.iaload, 1) := by decide +kernel
theorem dX11_takeFree_9 : decode cX11_takeFree 9 = .ok (.if_icmp .ge 20, 3) := by decide +kernel
theorem dX11_takeFree_12 : decode cX11_takeFree 12 = .ok (.aload_n 0, 1) := by decide +kernel
theorem dX11_takeFree_13 : decode cX11_takeFree 13 = .ok (.getfield 42, 3) := by decide +kernel
theorem dX11_takeFree_16 : decode cX11_takeFree 16 = .ok (.iload_n 1, 1) := by decide +kernel
theorem dX11_takeFree_17 : decode cX11_takeFree 17 = .ok (.aload_n 0, 1) := by decide +kernel
theorem dX11_takeFree_18 : decode cX11_takeFree 18 = .ok (.iload_n 1, 1) := by decide +kernel
theorem dX11_takeFree_19 : decode cX11_takeFree 19 = .ok (.invokevirtual 116, 3) := by decide +kernel
theorem dX11_takeFree_22 : decode cX11_takeFree 22 = .ok (.iastore, 1) := by decide +kernel
theorem dX11_takeFree_23 : decode cX11_takeFree 23 = .ok (.iinc 1 1, 3) := by decide +kernel
theorem dX11_takeFree_26 : decode cX11_takeFree 26 = .ok (.goto (-24), 3) := by decide +kernel
theorem dX11_takeFree_29 : decode cX11_takeFree 29 = .ok (.iconst 0, 1) := by decide +kernel
theorem dX11_takeFree_30 : decode cX11_takeFree 30 = .ok (.istore_n 1, 1) := by decide +kernel
theorem dX11_takeFree_31 : decode cX11_takeFree 31 = .ok (.iload_n 1, 1) := by decide +kernel
theorem dX11_takeFree_32 : decode cX11_takeFree 32 = .ok (.bipush 8, 2) := by decide +kernel
theorem dX11_takeFree_34 : decode cX11_takeFree 34 = .ok (.if_icmp .ge 16, 3) := by decide +kernel
theorem dX11_takeFree_37 : decode cX11_takeFree 37 = .ok (.aload_n 0, 1) := by decide +kernel
theorem dX11_takeFree_38 : decode cX11_takeFree 38 = .ok (.getfield 48, 3) := by decide +kernel
theorem dX11_takeFree_41 : decode cX11_takeFree 41 = .ok (.iload_n 1, 1) := by decide +kernel
theorem dX11_takeFree_42 : decode cX11_takeFree 42 = .ok (.iconst 0, 1) := by decide +kernel
theorem dX11_takeFree_43 : decode cX11_takeFree 43 = .ok (.bastore, 1) := by decide +kernel
theorem dX11_takeFree_44 : decode cX11_takeFree 44 = .ok (.iinc 1 1, 3) := by decide +kernel
theorem dX11_takeFree_47 : decode cX11_takeFree 47 = .ok (.goto (-16), 3) := by decide +kernel
theorem dX11_takeFree_50 : decode cX11_takeFree 50 = .ok (.return_, 1) := by decide +kernel
theorem dX11_fits_0 : decode cX11_fits 0 = .ok (.iconst 0, 1) := by decide +kernel
theorem dX11_fits_1 : decode cX11_fits 1 = .ok (.istore_n 2, 1) := by decide +kernel
theorem dX11_fits_2 : decode cX11_fits 2 = .ok (.iload_n 2, 1) := by decide +kernel
theorem dX11_fits_3 : decode cX11_fits 3 = .ok (.aload_n 0, 1) := by decide +kernel
theorem dX11_fits_4 : decode cX11_fits 4 = .ok (.getfield 13, 3) := by decide +kernel
theorem dX11_fits_7 : decode cX11_fits 7 = .ok (.iconst 0, 1) := by decide +kernel
theorem dX11_fits_8 : decode cX11_fits 8 = .ok (.iaload, 1) := by decide +kernel
theorem dX11_fits_9 : decode cX11_fits 9 = .ok (.if_icmp .ge 26, 3) := by decide +kernel
theorem dX11_fits_12 : decode cX11_fits 12 = .ok (.aload_n 0, 1) := by decide +kernel
theorem dX11_fits_13 : decode cX11_fits 13 = .ok (.iload_n 1, 1) := by decide +kernel
theorem dX11_fits_14 : decode cX11_fits 14 = .ok (.iload_n 2, 1) := by decide +kernel
theorem dX11_fits_15 : decode cX11_fits 15 = .ok (.invokevirtual 119, 3) := by decide +kernel
theorem dX11_fits_18 : decode cX11_fits 18 = .ok (.aload_n 0, 1) := by decide +kernel
theorem dX11_fits_19 : decode cX11_fits 19 = .ok (.getfield 42, 3) := by decide +kernel
theorem dX11_fits_22 : decode cX11_fits 22 = .ok (.iload_n 2, 1) := by decide +kernel
theorem dX11_fits_23 : decode cX11_fits 23 = .ok (.iaload, 1) := by decide +kernel
theorem dX11_fits_24 : decode cX11_fits 24 = .ok (.if_icmp .le 5, 3) := by decide +kernel
theorem dX11_fits_27 : decode cX11_fits 27 = .ok (.iconst 0, 1) := by decide +kernel
theorem dX11_fits_28 : decode cX11_fits 28 = .ok (.ireturn, 1) := by decide +kernel
theorem dX11_fits_29 : decode cX11_fits 29 = .ok (.iinc 2 1, 3) := by decide +kernel
theorem dX11_fits_32 : decode cX11_fits 32 = .ok (.goto (-30), 3) := by decide +kernel
theorem dX11_fits_35 : decode cX11_fits 35 = .ok (.iconst 1, 1) := by decide +kernel
theorem dX11_fits_36 : decode cX11_fits 36 = .ok (.ireturn, 1) := by decide +kernel
theorem dX11_giveBack_0 : decode cX11_giveBack 0 = .ok (.aload_n 0, 1) := by decide +kernel
theorem dX11_giveBack_1 : decode cX11_giveBack 1 = .ok (.getfield 48, 3) := by decide +kernel
theorem dX11_giveBack_4 : decode cX11_giveBack 4 = .ok (.iload_n 1, 1) := by decide +kernel
theorem dX11_giveBack_5 : decode cX11_giveBack 5 = .ok (.iconst 1, 1) := by decide +kernel
theorem dX11_giveBack_6 : decode cX11_giveBack 6 = .ok (.bastore, 1) := by decide +kernel
theorem dX11_giveBack_7 : decode cX11_giveBack 7 = .ok (.iconst 0, 1) := by decide +kernel
theorem dX11_giveBack_8 : decode cX11_giveBack 8 = .ok (.istore_n 2, 1) := by decide +kernel
theorem dX11_giveBack_9 : decode cX11_giveBack 9 = .ok (.iload_n 2, 1) := by decide +kernel
theorem dX11_giveBack_10 : decode cX11_giveBack 10 = .ok (.aload_n 0, 1) := by decide +kernel
theorem dX11_giveBack_11 : decode cX11_giveBack 11 = .ok (.getfield 13, 3) := by decide +kernel
theorem dX11_giveBack_14 : decode cX11_giveBack 14 = .ok (.iconst 0, 1) := by decide +kernel
theorem dX11_giveBack_15 : decode cX11_giveBack 15 = .ok (.iaload, 1) := by decide +kernel
theorem dX11_giveBack_16 : decode cX11_giveBack 16 = .ok (.if_icmp .ge 27, 3) := by decide +kernel
theorem dX11_giveBack_19 : decode cX11_giveBack 19 = .ok (.aload_n 0, 1) := by decide +kernel
theorem dX11_giveBack_20 : decode cX11_giveBack 20 = .ok (.getfield 42, 3) := by decide +kernel
theorem dX11_giveBack_23 : decode cX11_giveBack 23 = .ok (.iload_n 2, 1) := by decide +kernel
theorem dX11_giveBack_24 : decode cX11_giveBack 24 = .ok (.dup2, 1) := by decide +kernel
theorem dX11_giveBack_25 : decode cX11_giveBack 25 = .ok (.iaload, 1) := by decide +kernel
theorem dX11_giveBack_26 : decode cX11_giveBack 26 = .ok (.aload_n 0, 1) := by decide +kernel
theorem dX11_giveBack_27 : decode cX11_giveBack 27 = .ok (.iload_n 1, 1) := by decide +kernel
theorem dX11_giveBack_28 : decode cX11_giveBack 28 = .ok (.bipush 14, 2) := by decide +kernel
theorem dX11_giveBack_30 : decode cX11_giveBack 30 = .ok (.iload_n 2, 1) := by decide +kernel
theorem dX11_giveBack_31 : decode cX11_giveBack 31 = .ok (.iadd, 1) := by decide +kernel
theorem dX11_giveBack_32 : decode cX11_giveBack 32 = .ok (.invokevirtual 105, 3) := by decide +kernel
theorem dX11_giveBack_35 : decode cX11_giveBack 35 = .ok (.iadd, 1) := by decide +kernel
theorem dX11_giveBack_36 : decode cX11_giveBack 36 = .ok (.iastore, 1) := by decide +kernel
theorem dX11_giveBack_37 : decode cX11_giveBack 37 = .ok (.iinc 2 1, 3) := by decide +kernel
theorem dX11_giveBack_40 : decode cX11_giveBack 40 = .ok (.goto (-31), 3) := by decide +kernel
theorem dX11_giveBack_43 : decode cX11_giveBack 43 = .ok (.return_, 1) := by decide +kernel
theorem dX11_findOrder_0 : decode cX11_findOrder 0 = .ok (.aload_n 0, 1) := by decide +kernel
theorem dX11_findOrder_1 : decode cX11_findOrder 1 = .ok (.invokevirtual 122, 3) := by decide +kernel
theorem dX11_findOrder_4 : decode cX11_findOrder 4 = .ok (.iconst 0, 1) := by decide +kernel
theorem dX11_findOrder_5 : decode cX11_findOrder 5 = .ok (.istore_n 1, 1) := by decide +kernel
theorem dX11_findOrder_6 : decode cX11_findOrder 6 = .ok (.iconst 1, 1) := by decide +kernel
theorem dX11_findOrder_7 : decode cX11_findOrder 7 = .ok (.istore_n 2, 1) := by decide +kernel
theorem dX11_findOrder_8 : decode cX11_findOrder 8 = .ok (.iload_n 2, 1) := by decide +kernel
theorem dX11_findOrder_9 : decode cX11_findOrder 9 = .ok (.ifCond .eq 67, 3) := by decide +kernel
theorem dX11_findOrder_12 : decode cX11_findOrder 12 = .ok (.iconst 0, 1) := by decide +kernel
theorem dX11_findOrder_13 : decode cX11_findOrder 13 = .ok (.istore_n 2, 1) := by decide +kernel
theorem dX11_findOrder_14 : decode cX11_findOrder 14 = .ok (.iconst 0, 1) := by decide +kernel
theorem dX11_findOrder_15 : decode cX11_findOrder 15 = .ok (.istore_n 3, 1) := by decide +kernel
theorem dX11_findOrder_16 : decode cX11_findOrder 16 = .ok (.iload_n 3, 1) := by decide +kernel
theorem dX11_findOrder_17 : decode cX11_findOrder 17 = .ok (.aload_n 0, 1) := by decide +kernel
theorem dX11_findOrder_18 : decode cX11_findOrder 18 = .ok (.getfield 13, 3) := by decide +kernel
theorem dX11_findOrder_21 : decode cX11_findOrder 21 = .ok (.iconst 1, 1) := by decide +kernel
theorem dX11_findOrder_22 : decode cX11_findOrder 22 = .ok (.iaload, 1) := by decide +kernel
theorem dX11_findOrder_23 : decode cX11_findOrder 23 = .ok (.if_icmp .ge 50, 3) := by decide +kernel
theorem dX11_findOrder_26 : decode cX11_findOrder 26 = .ok (.iload_n 2, 1) := by decide +kernel
theorem dX11_findOrder_27 : decode cX11_findOrder 27 = .ok (.ifCond .ne 46, 3) := by decide +kernel
theorem dX11_findOrder_30 : decode cX11_findOrder 30 = .ok (.aload_n 0, 1) := by decide +kernel
theorem dX11_findOrder_31 : decode cX11_findOrder 31 = .ok (.getfield 48, 3) := by decide +kernel
theorem dX11_findOrder_34 : decode cX11_findOrder 34 = .ok (.iload_n 3, 1) := by decide +kernel
theorem dX11_findOrder_35 : decode cX11_findOrder 35 = .ok (.baload, 1) := by decide +kernel
theorem dX11_findOrder_36 : decode cX11_findOrder 36 = .ok (.ifCond .ne 31, 3) := by decide +kernel
theorem dX11_findOrder_39 : decode cX11_findOrder 39 = .ok (.aload_n 0, 1) := by decide +kernel
theorem dX11_findOrder_40 : decode cX11_findOrder 40 = .ok (.iload_n 3, 1) := by decide +kernel
theorem dX11_findOrder_41 : decode cX11_findOrder 41 = .ok (.invokevirtual 125, 3) := by decide +kernel
theorem dX11_findOrder_44 : decode cX11_findOrder 44 = .ok (.ifCond .ne 6, 3) := by decide +kernel
theorem dX11_findOrder_47 : decode cX11_findOrder 47 = .ok (.goto 20, 3) := by decide +kernel
theorem dX11_findOrder_50 : decode cX11_findOrder 50 = .ok (.aload_n 0, 1) := by decide +kernel
theorem dX11_findOrder_51 : decode cX11_findOrder 51 = .ok (.getfield 45, 3) := by decide +kernel
theorem dX11_findOrder_54 : decode cX11_findOrder 54 = .ok (.iload_n 1, 1) := by decide +kernel
theorem dX11_findOrder_55 : decode cX11_findOrder 55 = .ok (.iload_n 3, 1) := by decide +kernel
theorem dX11_findOrder_56 : decode cX11_findOrder 56 = .ok (.iastore, 1) := by decide +kernel
theorem dX11_findOrder_57 : decode cX11_findOrder 57 = .ok (.iinc 1 1, 3) := by decide +kernel
theorem dX11_findOrder_60 : decode cX11_findOrder 60 = .ok (.aload_n 0, 1) := by decide +kernel
theorem dX11_findOrder_61 : decode cX11_findOrder 61 = .ok (.iload_n 3, 1) := by decide +kernel
theorem dX11_findOrder_62 : decode cX11_findOrder 62 = .ok (.invokevirtual 128, 3) := by decide +kernel
theorem dX11_findOrder_65 : decode cX11_findOrder 65 = .ok (.iconst 1, 1) := by decide +kernel
theorem dX11_findOrder_66 : decode cX11_findOrder 66 = .ok (.istore_n 2, 1) := by decide +kernel
theorem dX11_findOrder_67 : decode cX11_findOrder 67 = .ok (.iinc 3 1, 3) := by decide +kernel
theorem dX11_findOrder_70 : decode cX11_findOrder 70 = .ok (.goto (-54), 3) := by decide +kernel
theorem dX11_findOrder_73 : decode cX11_findOrder 73 = .ok (.goto (-65), 3) := by decide +kernel
theorem dX11_findOrder_76 : decode cX11_findOrder 76 = .ok (.iload_n 1, 1) := by decide +kernel
theorem dX11_findOrder_77 : decode cX11_findOrder 77 = .ok (.aload_n 0, 1) := by decide +kernel
theorem dX11_findOrder_78 : decode cX11_findOrder 78 = .ok (.getfield 13, 3) := by decide +kernel
theorem dX11_findOrder_81 : decode cX11_findOrder 81 = .ok (.iconst 1, 1) := by decide +kernel
theorem dX11_findOrder_82 : decode cX11_findOrder 82 = .ok (.iaload, 1) := by decide +kernel
theorem dX11_findOrder_83 : decode cX11_findOrder 83 = .ok (.if_icmp .ne 7, 3) := by decide +kernel
theorem dX11_findOrder_86 : decode cX11_findOrder 86 = .ok (.iconst 1, 1) := by decide +kernel
theorem dX11_findOrder_87 : decode cX11_findOrder 87 = .ok (.goto 4, 3) := by decide +kernel
theorem dX11_findOrder_90 : decode cX11_findOrder 90 = .ok (.iconst 0, 1) := by decide +kernel
theorem dX11_findOrder_91 : decode cX11_findOrder 91 = .ok (.ireturn, 1) := by decide +kernel
theorem dX11_isWaitingHerd_0 : decode cX11_isWaitingHerd 0 = .ok (.aload_n 0, 1) := by decide +kernel
theorem dX11_isWaitingHerd_1 : decode cX11_isWaitingHerd 1 = .ok (.iload_n 1, 1) := by decide +kernel
theorem dX11_isWaitingHerd_2 : decode cX11_isWaitingHerd 2 = .ok (.bipush 7, 2) := by decide +kernel
theorem dX11_isWaitingHerd_4 : decode cX11_isWaitingHerd 4 = .ok (.invokevirtual 105, 3) := by decide +kernel
theorem dX11_isWaitingHerd_7 : decode cX11_isWaitingHerd 7 = .ok (.iconst (-1), 1) := by decide +kernel
theorem dX11_isWaitingHerd_8 : decode cX11_isWaitingHerd 8 = .ok (.if_icmp .eq 7, 3) := by decide +kernel
theorem dX11_isWaitingHerd_11 : decode cX11_isWaitingHerd 11 = .ok (.iconst 1, 1) := by decide +kernel
theorem dX11_isWaitingHerd_12 : decode cX11_isWaitingHerd 12 = .ok (.goto 4, 3) := by decide +kernel
theorem dX11_isWaitingHerd_15 : decode cX11_isWaitingHerd 15 = .ok (.iconst 0, 1) := by decide +kernel
theorem dX11_isWaitingHerd_16 : decode cX11_isWaitingHerd 16 = .ok (.ireturn, 1) := by decide +kernel
theorem dX11_detect_0 : decode cX11_detect 0 = .ok (.aload_n 0, 1) := by decide +kernel
theorem dX11_detect_1 : decode cX11_detect 1 = .ok (.invokevirtual 122, 3) := by decide +kernel
theorem dX11_detect_4 : decode cX11_detect 4 = .ok (.iconst 1, 1) := by decide +kernel
theorem dX11_detect_5 : decode cX11_detect 5 = .ok (.istore_n 1, 1) := by decide +kernel
theorem dX11_detect_6 : decode cX11_detect 6 = .ok (.iload_n 1, 1) := by decide +kernel
theorem dX11_detect_7 : decode cX11_detect 7 = .ok (.ifCond .eq 75, 3) := by decide +kernel
theorem dX11_detect_10 : decode cX11_detect 10 = .ok (.iconst 0, 1) := by decide +kernel
theorem dX11_detect_11 : decode cX11_detect 11 = .ok (.istore_n 1, 1) := by decide +kernel
theorem dX11_detect_12 : decode cX11_detect 12 = .ok (.iconst 0, 1) := by decide +kernel
theorem dX11_detect_13 : decode cX11_detect 13 = .ok (.istore_n 2, 1) := by decide +kernel
theorem dX11_detect_14 : decode cX11_detect 14 = .ok (.iload_n 2, 1) := by decide +kernel
theorem dX11_detect_15 : decode cX11_detect 15 = .ok (.aload_n 0, 1) := by decide +kernel
theorem dX11_detect_16 : decode cX11_detect 16 = .ok (.getfield 13, 3) := by decide +kernel
theorem dX11_detect_19 : decode cX11_detect 19 = .ok (.iconst 1, 1) := by decide +kernel
theorem dX11_detect_20 : decode cX11_detect 20 = .ok (.iaload, 1) := by decide +kernel
theorem dX11_detect_21 : decode cX11_detect 21 = .ok (.if_icmp .ge 58, 3) := by decide +kernel
theorem dX11_detect_24 : decode cX11_detect 24 = .ok (.aload_n 0, 1) := by decide +kernel
theorem dX11_detect_25 : decode cX11_detect 25 = .ok (.getfield 48, 3) := by decide +kernel
theorem dX11_detect_28 : decode cX11_detect 28 = .ok (.iload_n 2, 1) := by decide +kernel
theorem dX11_detect_29 : decode cX11_detect 29 = .ok (.baload, 1) := by decide +kernel
theorem dX11_detect_30 : decode cX11_detect 30 = .ok (.ifCond .ne 43, 3) := by decide +kernel
theorem dX11_detect_33 : decode cX11_detect 33 = .ok (.aload_n 0, 1) := by decide +kernel
theorem dX11_detect_34 : decode cX11_detect 34 = .ok (.iload_n 2, 1) := by decide +kernel
theorem dX11_detect_35 : decode cX11_detect 35 = .ok (.invokevirtual 132, 3) := by decide +kernel
theorem dX11_detect_38 : decode cX11_detect 38 = .ok (.ifCond .eq 28, 3) := by decide +kernel
theorem dX11_detect_41 : decode cX11_detect 41 = .ok (.aload_n 0, 1) := by decide +kernel
theorem dX11_detect_42 : decode cX11_detect 42 = .ok (.iload_n 2, 1) := by decide +kernel
theorem dX11_detect_43 : decode cX11_detect 43 = .ok (.bipush 8, 2) := by decide +kernel
theorem dX11_detect_45 : decode cX11_detect 45 = .ok (.invokevirtual 105, 3) := by decide +kernel
theorem dX11_detect_48 : decode cX11_detect 48 = .ok (.aload_n 0, 1) := by decide +kernel
theorem dX11_detect_49 : decode cX11_detect 49 = .ok (.getfield 42, 3) := by decide +kernel
theorem dX11_detect_52 : decode cX11_detect 52 = .ok (.aload_n 0, 1) := by decide +kernel
theorem dX11_detect_53 : decode cX11_detect 53 = .ok (.iload_n 2, 1) := by decide +kernel
theorem dX11_detect_54 : decode cX11_detect 54 = .ok (.bipush 7, 2) := by decide +kernel
theorem dX11_detect_56 : decode cX11_detect 56 = .ok (.invokevirtual 105, 3) := by decide +kernel
theorem dX11_detect_59 : decode cX11_detect 59 = .ok (.iaload, 1) := by decide +kernel
theorem dX11_detect_60 : decode cX11_detect 60 = .ok (.if_icmp .le 6, 3) := by decide +kernel
theorem dX11_detect_63 : decode cX11_detect 63 = .ok (.goto 10, 3) := by decide +kernel
theorem dX11_detect_66 : decode cX11_detect 66 = .ok (.aload_n 0, 1) := by decide +kernel
theorem dX11_detect_67 : decode cX11_detect 67 = .ok (.iload_n 2, 1) := by decide +kernel
theorem dX11_detect_68 : decode cX11_detect 68 = .ok (.invokevirtual 128, 3) := by decide +kernel
theorem dX11_detect_71 : decode cX11_detect 71 = .ok (.iconst 1, 1) := by decide +kernel
theorem dX11_detect_72 : decode cX11_detect 72 = .ok (.istore_n 1, 1) := by decide +kernel
theorem dX11_detect_73 : decode cX11_detect 73 = .ok (.iinc 2 1, 3) := by decide +kernel
theorem dX11_detect_76 : decode cX11_detect 76 = .ok (.goto (-62), 3) := by decide +kernel
theorem dX11_detect_79 : decode cX11_detect 79 = .ok (.goto (-73), 3) := by decide +kernel
theorem dX11_detect_82 : decode cX11_detect 82 = .ok (.return_, 1) := by decide +kernel
theorem dX11_isSafeWith_0 : decode cX11_isSafeWith 0 = .ok (.aload_n 0, 1) := by decide +kernel
theorem dX11_isSafeWith_1 : decode cX11_isSafeWith 1 = .ok (.iload_n 1, 1) := by decide +kernel
theorem dX11_isSafeWith_2 : decode cX11_isSafeWith 2 = .ok (.bipush 14, 2) := by decide +kernel
theorem dX11_isSafeWith_4 : decode cX11_isSafeWith 4 = .ok (.iload_n 2, 1) := by decide +kernel
theorem dX11_isSafeWith_5 : decode cX11_isSafeWith 5 = .ok (.iadd, 1) := by decide +kernel
theorem dX11_isSafeWith_6 : decode cX11_isSafeWith 6 = .ok (.aload_n 0, 1) := by decide +kernel
theorem dX11_isSafeWith_7 : decode cX11_isSafeWith 7 = .ok (.iload_n 1, 1) := by decide +kernel
theorem dX11_isSafeWith_8 : decode cX11_isSafeWith 8 = .ok (.bipush 14, 2) := by decide +kernel
theorem dX11_isSafeWith_10 : decode cX11_isSafeWith 10 = .ok (.iload_n 2, 1) := by decide +kernel
theorem dX11_isSafeWith_11 : decode cX11_isSafeWith 11 = .ok (.iadd, 1) := by decide +kernel
theorem dX11_isSafeWith_12 : decode cX11_isSafeWith 12 = .ok (.invokevirtual 105, 3) := by decide +kernel
theorem dX11_isSafeWith_15 : decode cX11_isSafeWith 15 = .ok (.iload_n 3, 1) := by decide +kernel
theorem dX11_isSafeWith_16 : decode cX11_isSafeWith 16 = .ok (.iadd, 1) := by decide +kernel
theorem dX11_isSafeWith_17 : decode cX11_isSafeWith 17 = .ok (.invokevirtual 135, 3) := by decide +kernel
theorem dX11_isSafeWith_20 : decode cX11_isSafeWith 20 = .ok (.aload_n 0, 1) := by decide +kernel
theorem dX11_isSafeWith_21 : decode cX11_isSafeWith 21 = .ok (.invokevirtual 139, 3) := by decide +kernel
theorem dX11_isSafeWith_24 : decode cX11_isSafeWith 24 = .ok (.istore 4, 2) := by decide +kernel
theorem dX11_isSafeWith_26 : decode cX11_isSafeWith 26 = .ok (.aload_n 0, 1) := by decide +kernel
theorem dX11_isSafeWith_27 : decode cX11_isSafeWith 27 = .ok (.iload_n 1, 1) := by decide +kernel
theorem dX11_isSafeWith_28 : decode cX11_isSafeWith 28 = .ok (.bipush 14, 2) := by decide +kernel
theorem dX11_isSafeWith_30 : decode cX11_isSafeWith 30 = .ok (.iload_n 2, 1) := by decide +kernel
theorem dX11_isSafeWith_31 : decode cX11_isSafeWith 31 = .ok (.iadd, 1) := by decide +kernel
theorem dX11_isSafeWith_32 : decode cX11_isSafeWith 32 = .ok (.aload_n 0, 1) := by decide +kernel
theorem dX11_isSafeWith_33 : decode cX11_isSafeWith 33 = .ok (.iload_n 1, 1) := by decide +kernel
theorem dX11_isSafeWith_34 : decode cX11_isSafeWith 34 = .ok (.bipush 14, 2) := by decide +kernel
theorem dX11_isSafeWith_36 : decode cX11_isSafeWith 36 = .ok (.iload_n 2, 1) := by decide +kernel
theorem dX11_isSafeWith_37 : decode cX11_isSafeWith 37 = .ok (.iadd, 1) := by decide +kernel
theorem dX11_isSafeWith_38 : decode cX11_isSafeWith 38 = .ok (.invokevirtual 105, 3) := by decide +kernel
theorem dX11_isSafeWith_41 : decode cX11_isSafeWith 41 = .ok (.iload_n 3, 1) := by decide +kernel
theorem dX11_isSafeWith_42 : decode cX11_isSafeWith 42 = .ok (.isub, 1) := by decide +kernel
theorem dX11_isSafeWith_43 : decode cX11_isSafeWith 43 = .ok (.invokevirtual 135, 3) := by decide +kernel
theorem dX11_isSafeWith_46 : decode cX11_isSafeWith 46 = .ok (.iload 4, 2) := by decide +kernel
theorem dX11_isSafeWith_48 : decode cX11_isSafeWith 48 = .ok (.ireturn, 1) := by decide +kernel
theorem dX11_canGrant_0 : decode cX11_canGrant 0 = .ok (.iload_n 3, 1) := by decide +kernel
theorem dX11_canGrant_1 : decode cX11_canGrant 1 = .ok (.aload_n 0, 1) := by decide +kernel
theorem dX11_canGrant_2 : decode cX11_canGrant 2 = .ok (.iload_n 2, 1) := by decide +kernel
theorem dX11_canGrant_3 : decode cX11_canGrant 3 = .ok (.invokevirtual 116, 3) := by decide +kernel
theorem dX11_canGrant_6 : decode cX11_canGrant 6 = .ok (.if_icmp .gt 17, 3) := by decide +kernel
theorem dX11_canGrant_9 : decode cX11_canGrant 9 = .ok (.aload_n 0, 1) := by decide +kernel
theorem dX11_canGrant_10 : decode cX11_canGrant 10 = .ok (.iload_n 1, 1) := by decide +kernel
theorem dX11_canGrant_11 : decode cX11_canGrant 11 = .ok (.iload_n 2, 1) := by decide +kernel
theorem dX11_canGrant_12 : decode cX11_canGrant 12 = .ok (.iload_n 3, 1) := by decide +kernel
theorem dX11_canGrant_13 : decode cX11_canGrant 13 = .ok (.invokevirtual 142, 3) := by decide +kernel
theorem dX11_canGrant_16 : decode cX11_canGrant 16 = .ok (.ifCond .eq 7, 3) := by decide +kernel
theorem dX11_canGrant_19 : decode cX11_canGrant 19 = .ok (.iconst 1, 1) := by decide +kernel
theorem dX11_canGrant_20 : decode cX11_canGrant 20 = .ok (.goto 4, 3) := by decide +kernel
theorem dX11_canGrant_23 : decode cX11_canGrant 23 = .ok (.iconst 0, 1) := by decide +kernel
theorem dX11_canGrant_24 : decode cX11_canGrant 24 = .ok (.ireturn, 1) := by decide +kernel
theorem dX11_refusal_0 : decode cX11_refusal 0 = .ok (.aload_n 0, 1) := by decide +kernel
theorem dX11_refusal_1 : decode cX11_refusal 1 = .ok (.iload_n 1, 1) := by decide +kernel
theorem dX11_refusal_2 : decode cX11_refusal 2 = .ok (.invokevirtual 132, 3) := by decide +kernel
theorem dX11_refusal_5 : decode cX11_refusal 5 = .ok (.ifCond .eq 5, 3) := by decide +kernel
theorem dX11_refusal_8 : decode cX11_refusal 8 = .ok (.iconst 1, 1) := by decide +kernel
theorem dX11_refusal_9 : decode cX11_refusal 9 = .ok (.ireturn, 1) := by decide +kernel
theorem dX11_refusal_10 : decode cX11_refusal 10 = .ok (.iload_n 3, 1) := by decide +kernel
theorem dX11_refusal_11 : decode cX11_refusal 11 = .ok (.aload_n 0, 1) := by decide +kernel
theorem dX11_refusal_12 : decode cX11_refusal 12 = .ok (.iload_n 1, 1) := by decide +kernel
theorem dX11_refusal_13 : decode cX11_refusal 13 = .ok (.iload_n 2, 1) := by decide +kernel
theorem dX11_refusal_14 : decode cX11_refusal 14 = .ok (.invokevirtual 119, 3) := by decide +kernel
theorem dX11_refusal_17 : decode cX11_refusal 17 = .ok (.if_icmp .le 5, 3) := by decide +kernel
theorem dX11_refusal_20 : decode cX11_refusal 20 = .ok (.iconst 2, 1) := by decide +kernel
theorem dX11_refusal_21 : decode cX11_refusal 21 = .ok (.ireturn, 1) := by decide +kernel
theorem dX11_refusal_22 : decode cX11_refusal 22 = .ok (.iload_n 3, 1) := by decide +kernel
theorem dX11_refusal_23 : decode cX11_refusal 23 = .ok (.aload_n 0, 1) := by decide +kernel
theorem dX11_refusal_24 : decode cX11_refusal 24 = .ok (.iload_n 2, 1) := by decide +kernel
theorem dX11_refusal_25 : decode cX11_refusal 25 = .ok (.invokevirtual 116, 3) := by decide +kernel
theorem dX11_refusal_28 : decode cX11_refusal 28 = .ok (.if_icmp .le 5, 3) := by decide +kernel
theorem dX11_refusal_31 : decode cX11_refusal 31 = .ok (.iconst 3, 1) := by decide +kernel
theorem dX11_refusal_32 : decode cX11_refusal 32 = .ok (.ireturn, 1) := by decide +kernel
theorem dX11_refusal_33 : decode cX11_refusal 33 = .ok (.aload_n 0, 1) := by decide +kernel
theorem dX11_refusal_34 : decode cX11_refusal 34 = .ok (.iload_n 1, 1) := by decide +kernel
theorem dX11_refusal_35 : decode cX11_refusal 35 = .ok (.iload_n 2, 1) := by decide +kernel
theorem dX11_refusal_36 : decode cX11_refusal 36 = .ok (.iload_n 3, 1) := by decide +kernel
theorem dX11_refusal_37 : decode cX11_refusal 37 = .ok (.invokevirtual 142, 3) := by decide +kernel
theorem dX11_refusal_40 : decode cX11_refusal 40 = .ok (.ifCond .eq 7, 3) := by decide +kernel
theorem dX11_refusal_43 : decode cX11_refusal 43 = .ok (.iconst 0, 1) := by decide +kernel
theorem dX11_refusal_44 : decode cX11_refusal 44 = .ok (.goto 4, 3) := by decide +kernel
theorem dX11_refusal_47 : decode cX11_refusal 47 = .ok (.iconst 4, 1) := by decide +kernel
theorem dX11_refusal_48 : decode cX11_refusal 48 = .ok (.ireturn, 1) := by decide +kernel
theorem dX11_removeAt_0 : decode cX11_removeAt 0 = .ok (.aload_n 0, 1) := by decide +kernel
theorem dX11_removeAt_1 : decode cX11_removeAt 1 = .ok (.getfield 13, 3) := by decide +kernel
theorem dX11_removeAt_4 : decode cX11_removeAt 4 = .ok (.bipush 8, 2) := by decide +kernel
theorem dX11_removeAt_6 : decode cX11_removeAt 6 = .ok (.iload_n 1, 1) := by decide +kernel
theorem dX11_removeAt_7 : decode cX11_removeAt 7 = .ok (.iadd, 1) := by decide +kernel
theorem dX11_removeAt_8 : decode cX11_removeAt 8 = .ok (.iaload, 1) := by decide +kernel
theorem dX11_removeAt_9 : decode cX11_removeAt 9 = .ok (.istore_n 2, 1) := by decide +kernel
theorem dX11_removeAt_10 : decode cX11_removeAt 10 = .ok (.iload_n 1, 1) := by decide +kernel
theorem dX11_removeAt_11 : decode cX11_removeAt 11 = .ok (.istore_n 3, 1) := by decide +kernel
theorem dX11_removeAt_12 : decode cX11_removeAt 12 = .ok (.iload_n 3, 1) := by decide +kernel
theorem dX11_removeAt_13 : decode cX11_removeAt 13 = .ok (.iconst 1, 1) := by decide +kernel
theorem dX11_removeAt_14 : decode cX11_removeAt 14 = .ok (.iadd, 1) := by decide +kernel
theorem dX11_removeAt_15 : decode cX11_removeAt 15 = .ok (.aload_n 0, 1) := by decide +kernel
theorem dX11_removeAt_16 : decode cX11_removeAt 16 = .ok (.getfield 13, 3) := by decide +kernel
theorem dX11_removeAt_19 : decode cX11_removeAt 19 = .ok (.bipush 6, 2) := by decide +kernel
theorem dX11_removeAt_21 : decode cX11_removeAt 21 = .ok (.iaload, 1) := by decide +kernel
theorem dX11_removeAt_22 : decode cX11_removeAt 22 = .ok (.if_icmp .ge 29, 3) := by decide +kernel
theorem dX11_removeAt_25 : decode cX11_removeAt 25 = .ok (.aload_n 0, 1) := by decide +kernel
theorem dX11_removeAt_26 : decode cX11_removeAt 26 = .ok (.getfield 13, 3) := by decide +kernel
theorem dX11_removeAt_29 : decode cX11_removeAt 29 = .ok (.bipush 8, 2) := by decide +kernel
theorem dX11_removeAt_31 : decode cX11_removeAt 31 = .ok (.iload_n 3, 1) := by decide +kernel
theorem dX11_removeAt_32 : decode cX11_removeAt 32 = .ok (.iadd, 1) := by decide +kernel
theorem dX11_removeAt_33 : decode cX11_removeAt 33 = .ok (.aload_n 0, 1) := by decide +kernel
theorem dX11_removeAt_34 : decode cX11_removeAt 34 = .ok (.getfield 13, 3) := by decide +kernel
theorem dX11_removeAt_37 : decode cX11_removeAt 37 = .ok (.bipush 8, 2) := by decide +kernel
theorem dX11_removeAt_39 : decode cX11_removeAt 39 = .ok (.iload_n 3, 1) := by decide +kernel
theorem dX11_removeAt_40 : decode cX11_removeAt 40 = .ok (.iadd, 1) := by decide +kernel
theorem dX11_removeAt_41 : decode cX11_removeAt 41 = .ok (.iconst 1, 1) := by decide +kernel
theorem dX11_removeAt_42 : decode cX11_removeAt 42 = .ok (.iadd, 1) := by decide +kernel
theorem dX11_removeAt_43 : decode cX11_removeAt 43 = .ok (.iaload, 1) := by decide +kernel
theorem dX11_removeAt_44 : decode cX11_removeAt 44 = .ok (.iastore, 1) := by decide +kernel
theorem dX11_removeAt_45 : decode cX11_removeAt 45 = .ok (.iinc 3 1, 3) := by decide +kernel
theorem dX11_removeAt_48 : decode cX11_removeAt 48 = .ok (.goto (-36), 3) := by decide +kernel
theorem dX11_removeAt_51 : decode cX11_removeAt 51 = .ok (.aload_n 0, 1) := by decide +kernel
theorem dX11_removeAt_52 : decode cX11_removeAt 52 = .ok (.getfield 13, 3) := by decide +kernel
theorem dX11_removeAt_55 : decode cX11_removeAt 55 = .ok (.bipush 6, 2) := by decide +kernel
theorem dX11_removeAt_57 : decode cX11_removeAt 57 = .ok (.dup2, 1) := by decide +kernel
theorem dX11_removeAt_58 : decode cX11_removeAt 58 = .ok (.iaload, 1) := by decide +kernel
theorem dX11_removeAt_59 : decode cX11_removeAt 59 = .ok (.iconst 1, 1) := by decide +kernel
theorem dX11_removeAt_60 : decode cX11_removeAt 60 = .ok (.isub, 1) := by decide +kernel
theorem dX11_removeAt_61 : decode cX11_removeAt 61 = .ok (.iastore, 1) := by decide +kernel
theorem dX11_removeAt_62 : decode cX11_removeAt 62 = .ok (.aload_n 0, 1) := by decide +kernel
theorem dX11_removeAt_63 : decode cX11_removeAt 63 = .ok (.iload_n 2, 1) := by decide +kernel
theorem dX11_removeAt_64 : decode cX11_removeAt 64 = .ok (.bipush 7, 2) := by decide +kernel
theorem dX11_removeAt_66 : decode cX11_removeAt 66 = .ok (.iconst (-1), 1) := by decide +kernel
theorem dX11_removeAt_67 : decode cX11_removeAt 67 = .ok (.invokevirtual 135, 3) := by decide +kernel
theorem dX11_removeAt_70 : decode cX11_removeAt 70 = .ok (.aload_n 0, 1) := by decide +kernel
theorem dX11_removeAt_71 : decode cX11_removeAt 71 = .ok (.iload_n 2, 1) := by decide +kernel
theorem dX11_removeAt_72 : decode cX11_removeAt 72 = .ok (.bipush 8, 2) := by decide +kernel
theorem dX11_removeAt_74 : decode cX11_removeAt 74 = .ok (.iconst 0, 1) := by decide +kernel
theorem dX11_removeAt_75 : decode cX11_removeAt 75 = .ok (.invokevirtual 135, 3) := by decide +kernel
theorem dX11_removeAt_78 : decode cX11_removeAt 78 = .ok (.return_, 1) := by decide +kernel
theorem dX11_grantOnce_0 : decode cX11_grantOnce 0 = .ok (.iconst 0, 1) := by decide +kernel
theorem dX11_grantOnce_1 : decode cX11_grantOnce 1 = .ok (.istore_n 1, 1) := by decide +kernel
theorem dX11_grantOnce_2 : decode cX11_grantOnce 2 = .ok (.iconst 0, 1) := by decide +kernel
theorem dX11_grantOnce_3 : decode cX11_grantOnce 3 = .ok (.istore_n 2, 1) := by decide +kernel
theorem dX11_grantOnce_4 : decode cX11_grantOnce 4 = .ok (.iload_n 2, 1) := by decide +kernel
theorem dX11_grantOnce_5 : decode cX11_grantOnce 5 = .ok (.aload_n 0, 1) := by decide +kernel
theorem dX11_grantOnce_6 : decode cX11_grantOnce 6 = .ok (.getfield 13, 3) := by decide +kernel
theorem dX11_grantOnce_9 : decode cX11_grantOnce 9 = .ok (.bipush 6, 2) := by decide +kernel
theorem dX11_grantOnce_11 : decode cX11_grantOnce 11 = .ok (.iaload, 1) := by decide +kernel
theorem dX11_grantOnce_12 : decode cX11_grantOnce 12 = .ok (.if_icmp .ge 83, 3) := by decide +kernel
theorem dX11_grantOnce_15 : decode cX11_grantOnce 15 = .ok (.aload_n 0, 1) := by decide +kernel
theorem dX11_grantOnce_16 : decode cX11_grantOnce 16 = .ok (.getfield 13, 3) := by decide +kernel
theorem dX11_grantOnce_19 : decode cX11_grantOnce 19 = .ok (.bipush 8, 2) := by decide +kernel
theorem dX11_grantOnce_21 : decode cX11_grantOnce 21 = .ok (.iload_n 2, 1) := by decide +kernel
theorem dX11_grantOnce_22 : decode cX11_grantOnce 22 = .ok (.iadd, 1) := by decide +kernel
theorem dX11_grantOnce_23 : decode cX11_grantOnce 23 = .ok (.iaload, 1) := by decide +kernel
theorem dX11_grantOnce_24 : decode cX11_grantOnce 24 = .ok (.istore_n 3, 1) := by decide +kernel
theorem dX11_grantOnce_25 : decode cX11_grantOnce 25 = .ok (.aload_n 0, 1) := by decide +kernel
theorem dX11_grantOnce_26 : decode cX11_grantOnce 26 = .ok (.iload_n 3, 1) := by decide +kernel
theorem dX11_grantOnce_27 : decode cX11_grantOnce 27 = .ok (.bipush 7, 2) := by decide +kernel
theorem dX11_grantOnce_29 : decode cX11_grantOnce 29 = .ok (.invokevirtual 105, 3) := by decide +kernel
theorem dX11_grantOnce_32 : decode cX11_grantOnce 32 = .ok (.istore 4, 2) := by decide +kernel
theorem dX11_grantOnce_34 : decode cX11_grantOnce 34 = .ok (.aload_n 0, 1) := by decide +kernel
theorem dX11_grantOnce_35 : decode cX11_grantOnce 35 = .ok (.iload_n 3, 1) := by decide +kernel
theorem dX11_grantOnce_36 : decode cX11_grantOnce 36 = .ok (.bipush 8, 2) := by decide +kernel
theorem dX11_grantOnce_38 : decode cX11_grantOnce 38 = .ok (.invokevirtual 105, 3) := by decide +kernel
theorem dX11_grantOnce_41 : decode cX11_grantOnce 41 = .ok (.istore 5, 2) := by decide +kernel
theorem dX11_grantOnce_43 : decode cX11_grantOnce 43 = .ok (.aload_n 0, 1) := by decide +kernel
theorem dX11_grantOnce_44 : decode cX11_grantOnce 44 = .ok (.iload_n 3, 1) := by decide +kernel
theorem dX11_grantOnce_45 : decode cX11_grantOnce 45 = .ok (.iload 4, 2) := by decide +kernel
theorem dX11_grantOnce_47 : decode cX11_grantOnce 47 = .ok (.iload 5, 2) := by decide +kernel
theorem dX11_grantOnce_49 : decode cX11_grantOnce 49 = .ok (.invokevirtual 145, 3) := by decide +kernel
theorem dX11_grantOnce_52 : decode cX11_grantOnce 52 = .ok (.ifCond .ne 9, 3) := by decide +kernel
theorem dX11_grantOnce_55 : decode cX11_grantOnce 55 = .ok (.iinc 2 1, 3) := by decide +kernel
theorem dX11_grantOnce_58 : decode cX11_grantOnce 58 = .ok (.goto (-54), 3) := by decide +kernel
theorem dX11_grantOnce_61 : decode cX11_grantOnce 61 = .ok (.aload_n 0, 1) := by decide +kernel
theorem dX11_grantOnce_62 : decode cX11_grantOnce 62 = .ok (.iload_n 3, 1) := by decide +kernel
theorem dX11_grantOnce_63 : decode cX11_grantOnce 63 = .ok (.bipush 14, 2) := by decide +kernel
theorem dX11_grantOnce_65 : decode cX11_grantOnce 65 = .ok (.iload 4, 2) := by decide +kernel
theorem dX11_grantOnce_67 : decode cX11_grantOnce 67 = .ok (.iadd, 1) := by decide +kernel
theorem dX11_grantOnce_68 : decode cX11_grantOnce 68 = .ok (.aload_n 0, 1) := by decide +kernel
theorem dX11_grantOnce_69 : decode cX11_grantOnce 69 = .ok (.iload_n 3, 1) := by decide +kernel
theorem dX11_grantOnce_70 : decode cX11_grantOnce 70 = .ok (.bipush 14, 2) := by decide +kernel
theorem dX11_grantOnce_72 : decode cX11_grantOnce 72 = .ok (.iload 4, 2) := by decide +kernel
theorem dX11_grantOnce_74 : decode cX11_grantOnce 74 = .ok (.iadd, 1) := by decide +kernel
theorem dX11_grantOnce_75 : decode cX11_grantOnce 75 = .ok (.invokevirtual 105, 3) := by decide +kernel
theorem dX11_grantOnce_78 : decode cX11_grantOnce 78 = .ok (.iload 5, 2) := by decide +kernel
theorem dX11_grantOnce_80 : decode cX11_grantOnce 80 = .ok (.iadd, 1) := by decide +kernel
theorem dX11_grantOnce_81 : decode cX11_grantOnce 81 = .ok (.invokevirtual 135, 3) := by decide +kernel
theorem dX11_grantOnce_84 : decode cX11_grantOnce 84 = .ok (.aload_n 0, 1) := by decide +kernel
theorem dX11_grantOnce_85 : decode cX11_grantOnce 85 = .ok (.iload_n 2, 1) := by decide +kernel
theorem dX11_grantOnce_86 : decode cX11_grantOnce 86 = .ok (.invokevirtual 148, 3) := by decide +kernel
theorem dX11_grantOnce_89 : decode cX11_grantOnce 89 = .ok (.iinc 1 1, 3) := by decide +kernel
theorem dX11_grantOnce_92 : decode cX11_grantOnce 92 = .ok (.goto (-88), 3) := by decide +kernel
theorem dX11_grantOnce_95 : decode cX11_grantOnce 95 = .ok (.iload_n 1, 1) := by decide +kernel
theorem dX11_grantOnce_96 : decode cX11_grantOnce 96 = .ok (.ireturn, 1) := by decide +kernel
theorem dX11_process_0 : decode cX11_process 0 = .ok (.iconst 0, 1) := by decide +kernel
theorem dX11_process_1 : decode cX11_process 1 = .ok (.istore_n 1, 1) := by decide +kernel
theorem dX11_process_2 : decode cX11_process 2 = .ok (.aload_n 0, 1) := by decide +kernel
theorem dX11_process_3 : decode cX11_process 3 = .ok (.invokevirtual 151, 3) := by decide +kernel
theorem dX11_process_6 : decode cX11_process 6 = .ok (.istore_n 2, 1) := by decide +kernel
theorem dX11_process_7 : decode cX11_process 7 = .ok (.iload_n 2, 1) := by decide +kernel
theorem dX11_process_8 : decode cX11_process 8 = .ok (.ifCond .le 15, 3) := by decide +kernel
theorem dX11_process_11 : decode cX11_process 11 = .ok (.iload_n 1, 1) := by decide +kernel
theorem dX11_process_12 : decode cX11_process 12 = .ok (.iload_n 2, 1) := by decide +kernel
theorem dX11_process_13 : decode cX11_process 13 = .ok (.iadd, 1) := by decide +kernel
theorem dX11_process_14 : decode cX11_process 14 = .ok (.istore_n 1, 1) := by decide +kernel
theorem dX11_process_15 : decode cX11_process 15 = .ok (.aload_n 0, 1) := by decide +kernel
theorem dX11_process_16 : decode cX11_process 16 = .ok (.invokevirtual 151, 3) := by decide +kernel
theorem dX11_process_19 : decode cX11_process 19 = .ok (.istore_n 2, 1) := by decide +kernel
theorem dX11_process_20 : decode cX11_process 20 = .ok (.goto (-13), 3) := by decide +kernel
theorem dX11_process_23 : decode cX11_process 23 = .ok (.aload_n 0, 1) := by decide +kernel
theorem dX11_process_24 : decode cX11_process 24 = .ok (.getfield 13, 3) := by decide +kernel
theorem dX11_process_27 : decode cX11_process 27 = .ok (.iconst 3, 1) := by decide +kernel
theorem dX11_process_28 : decode cX11_process 28 = .ok (.dup2, 1) := by decide +kernel
theorem dX11_process_29 : decode cX11_process 29 = .ok (.iaload, 1) := by decide +kernel
theorem dX11_process_30 : decode cX11_process 30 = .ok (.iload_n 1, 1) := by decide +kernel
theorem dX11_process_31 : decode cX11_process 31 = .ok (.iadd, 1) := by decide +kernel
theorem dX11_process_32 : decode cX11_process 32 = .ok (.iastore, 1) := by decide +kernel
theorem dX11_process_33 : decode cX11_process 33 = .ok (.iload_n 1, 1) := by decide +kernel
theorem dX11_process_34 : decode cX11_process 34 = .ok (.ireturn, 1) := by decide +kernel
theorem dX11_withdraw_0 : decode cX11_withdraw 0 = .ok (.iconst 0, 1) := by decide +kernel
theorem dX11_withdraw_1 : decode cX11_withdraw 1 = .ok (.istore_n 2, 1) := by decide +kernel
theorem dX11_withdraw_2 : decode cX11_withdraw 2 = .ok (.aload_n 0, 1) := by decide +kernel
theorem dX11_withdraw_3 : decode cX11_withdraw 3 = .ok (.getfield 13, 3) := by decide +kernel
theorem dX11_withdraw_6 : decode cX11_withdraw 6 = .ok (.bipush 8, 2) := by decide +kernel
theorem dX11_withdraw_8 : decode cX11_withdraw 8 = .ok (.iload_n 2, 1) := by decide +kernel
theorem dX11_withdraw_9 : decode cX11_withdraw 9 = .ok (.iadd, 1) := by decide +kernel
theorem dX11_withdraw_10 : decode cX11_withdraw 10 = .ok (.iaload, 1) := by decide +kernel
theorem dX11_withdraw_11 : decode cX11_withdraw 11 = .ok (.iload_n 1, 1) := by decide +kernel
theorem dX11_withdraw_12 : decode cX11_withdraw 12 = .ok (.if_icmp .eq 9, 3) := by decide +kernel
theorem dX11_withdraw_15 : decode cX11_withdraw 15 = .ok (.iinc 2 1, 3) := by decide +kernel
theorem dX11_withdraw_18 : decode cX11_withdraw 18 = .ok (.goto (-16), 3) := by decide +kernel
theorem dX11_withdraw_21 : decode cX11_withdraw 21 = .ok (.aload_n 0, 1) := by decide +kernel
theorem dX11_withdraw_22 : decode cX11_withdraw 22 = .ok (.iload_n 2, 1) := by decide +kernel
theorem dX11_withdraw_23 : decode cX11_withdraw 23 = .ok (.invokevirtual 148, 3) := by decide +kernel
theorem dX11_withdraw_26 : decode cX11_withdraw 26 = .ok (.aload_n 0, 1) := by decide +kernel
theorem dX11_withdraw_27 : decode cX11_withdraw 27 = .ok (.getfield 13, 3) := by decide +kernel
theorem dX11_withdraw_30 : decode cX11_withdraw 30 = .ok (.iconst 5, 1) := by decide +kernel
theorem dX11_withdraw_31 : decode cX11_withdraw 31 = .ok (.dup2, 1) := by decide +kernel
theorem dX11_withdraw_32 : decode cX11_withdraw 32 = .ok (.iaload, 1) := by decide +kernel
theorem dX11_withdraw_33 : decode cX11_withdraw 33 = .ok (.iconst 1, 1) := by decide +kernel
theorem dX11_withdraw_34 : decode cX11_withdraw 34 = .ok (.iadd, 1) := by decide +kernel
theorem dX11_withdraw_35 : decode cX11_withdraw 35 = .ok (.iastore, 1) := by decide +kernel
theorem dX11_withdraw_36 : decode cX11_withdraw 36 = .ok (.return_, 1) := by decide +kernel
theorem dX11_requestIt_0 : decode cX11_requestIt 0 = .ok (.aload_n 0, 1) := by decide +kernel
theorem dX11_requestIt_1 : decode cX11_requestIt 1 = .ok (.iload_n 1, 1) := by decide +kernel
theorem dX11_requestIt_2 : decode cX11_requestIt 2 = .ok (.iload_n 2, 1) := by decide +kernel
theorem dX11_requestIt_3 : decode cX11_requestIt 3 = .ok (.iload_n 3, 1) := by decide +kernel
theorem dX11_requestIt_4 : decode cX11_requestIt 4 = .ok (.invokevirtual 145, 3) := by decide +kernel
theorem dX11_requestIt_7 : decode cX11_requestIt 7 = .ok (.ifCond .eq 35, 3) := by decide +kernel
theorem dX11_requestIt_10 : decode cX11_requestIt 10 = .ok (.aload_n 0, 1) := by decide +kernel
theorem dX11_requestIt_11 : decode cX11_requestIt 11 = .ok (.iload_n 1, 1) := by decide +kernel
theorem dX11_requestIt_12 : decode cX11_requestIt 12 = .ok (.bipush 14, 2) := by decide +kernel
theorem dX11_requestIt_14 : decode cX11_requestIt 14 = .ok (.iload_n 2, 1) := by decide +kernel
theorem dX11_requestIt_15 : decode cX11_requestIt 15 = .ok (.iadd, 1) := by decide +kernel
theorem dX11_requestIt_16 : decode cX11_requestIt 16 = .ok (.aload_n 0, 1) := by decide +kernel
theorem dX11_requestIt_17 : decode cX11_requestIt 17 = .ok (.iload_n 1, 1) := by decide +kernel
theorem dX11_requestIt_18 : decode cX11_requestIt 18 = .ok (.bipush 14, 2) := by decide +kernel
theorem dX11_requestIt_20 : decode cX11_requestIt 20 = .ok (.iload_n 2, 1) := by decide +kernel
theorem dX11_requestIt_21 : decode cX11_requestIt 21 = .ok (.iadd, 1) := by decide +kernel
theorem dX11_requestIt_22 : decode cX11_requestIt 22 = .ok (.invokevirtual 105, 3) := by decide +kernel
theorem dX11_requestIt_25 : decode cX11_requestIt 25 = .ok (.iload_n 3, 1) := by decide +kernel
theorem dX11_requestIt_26 : decode cX11_requestIt 26 = .ok (.iadd, 1) := by decide +kernel
theorem dX11_requestIt_27 : decode cX11_requestIt 27 = .ok (.invokevirtual 135, 3) := by decide +kernel
theorem dX11_requestIt_30 : decode cX11_requestIt 30 = .ok (.aload_n 0, 1) := by decide +kernel
theorem dX11_requestIt_31 : decode cX11_requestIt 31 = .ok (.getfield 13, 3) := by decide +kernel
theorem dX11_requestIt_34 : decode cX11_requestIt 34 = .ok (.iconst 2, 1) := by decide +kernel
theorem dX11_requestIt_35 : decode cX11_requestIt 35 = .ok (.dup2, 1) := by decide +kernel
theorem dX11_requestIt_36 : decode cX11_requestIt 36 = .ok (.iaload, 1) := by decide +kernel
theorem dX11_requestIt_37 : decode cX11_requestIt 37 = .ok (.iconst 1, 1) := by decide +kernel
theorem dX11_requestIt_38 : decode cX11_requestIt 38 = .ok (.iadd, 1) := by decide +kernel
theorem dX11_requestIt_39 : decode cX11_requestIt 39 = .ok (.iastore, 1) := by decide +kernel
theorem dX11_requestIt_40 : decode cX11_requestIt 40 = .ok (.iconst 1, 1) := by decide +kernel
theorem dX11_requestIt_41 : decode cX11_requestIt 41 = .ok (.ireturn, 1) := by decide +kernel
theorem dX11_requestIt_42 : decode cX11_requestIt 42 = .ok (.aload_n 0, 1) := by decide +kernel
theorem dX11_requestIt_43 : decode cX11_requestIt 43 = .ok (.iload_n 1, 1) := by decide +kernel
theorem dX11_requestIt_44 : decode cX11_requestIt 44 = .ok (.bipush 7, 2) := by decide +kernel
theorem dX11_requestIt_46 : decode cX11_requestIt 46 = .ok (.iload_n 2, 1) := by decide +kernel
theorem dX11_requestIt_47 : decode cX11_requestIt 47 = .ok (.invokevirtual 135, 3) := by decide +kernel
theorem dX11_requestIt_50 : decode cX11_requestIt 50 = .ok (.aload_n 0, 1) := by decide +kernel
theorem dX11_requestIt_51 : decode cX11_requestIt 51 = .ok (.iload_n 1, 1) := by decide +kernel
theorem dX11_requestIt_52 : decode cX11_requestIt 52 = .ok (.bipush 8, 2) := by decide +kernel
theorem dX11_requestIt_54 : decode cX11_requestIt 54 = .ok (.iload_n 3, 1) := by decide +kernel
theorem dX11_requestIt_55 : decode cX11_requestIt 55 = .ok (.invokevirtual 135, 3) := by decide +kernel
theorem dX11_requestIt_58 : decode cX11_requestIt 58 = .ok (.aload_n 0, 1) := by decide +kernel
theorem dX11_requestIt_59 : decode cX11_requestIt 59 = .ok (.getfield 13, 3) := by decide +kernel
theorem dX11_requestIt_62 : decode cX11_requestIt 62 = .ok (.bipush 8, 2) := by decide +kernel
theorem dX11_requestIt_64 : decode cX11_requestIt 64 = .ok (.aload_n 0, 1) := by decide +kernel
theorem dX11_requestIt_65 : decode cX11_requestIt 65 = .ok (.getfield 13, 3) := by decide +kernel
theorem dX11_requestIt_68 : decode cX11_requestIt 68 = .ok (.bipush 6, 2) := by decide +kernel
theorem dX11_requestIt_70 : decode cX11_requestIt 70 = .ok (.iaload, 1) := by decide +kernel
theorem dX11_requestIt_71 : decode cX11_requestIt 71 = .ok (.iadd, 1) := by decide +kernel
theorem dX11_requestIt_72 : decode cX11_requestIt 72 = .ok (.iload_n 1, 1) := by decide +kernel
theorem dX11_requestIt_73 : decode cX11_requestIt 73 = .ok (.iastore, 1) := by decide +kernel
theorem dX11_requestIt_74 : decode cX11_requestIt 74 = .ok (.aload_n 0, 1) := by decide +kernel
theorem dX11_requestIt_75 : decode cX11_requestIt 75 = .ok (.getfield 13, 3) := by decide +kernel
theorem dX11_requestIt_78 : decode cX11_requestIt 78 = .ok (.bipush 6, 2) := by decide +kernel
theorem dX11_requestIt_80 : decode cX11_requestIt 80 = .ok (.dup2, 1) := by decide +kernel
theorem dX11_requestIt_81 : decode cX11_requestIt 81 = .ok (.iaload, 1) := by decide +kernel
theorem dX11_requestIt_82 : decode cX11_requestIt 82 = .ok (.iconst 1, 1) := by decide +kernel
theorem dX11_requestIt_83 : decode cX11_requestIt 83 = .ok (.iadd, 1) := by decide +kernel
theorem dX11_requestIt_84 : decode cX11_requestIt 84 = .ok (.iastore, 1) := by decide +kernel
theorem dX11_requestIt_85 : decode cX11_requestIt 85 = .ok (.aload_n 0, 1) := by decide +kernel
theorem dX11_requestIt_86 : decode cX11_requestIt 86 = .ok (.getfield 13, 3) := by decide +kernel
theorem dX11_requestIt_89 : decode cX11_requestIt 89 = .ok (.iconst 4, 1) := by decide +kernel
theorem dX11_requestIt_90 : decode cX11_requestIt 90 = .ok (.dup2, 1) := by decide +kernel
theorem dX11_requestIt_91 : decode cX11_requestIt 91 = .ok (.iaload, 1) := by decide +kernel
theorem dX11_requestIt_92 : decode cX11_requestIt 92 = .ok (.iconst 1, 1) := by decide +kernel
theorem dX11_requestIt_93 : decode cX11_requestIt 93 = .ok (.iadd, 1) := by decide +kernel
theorem dX11_requestIt_94 : decode cX11_requestIt 94 = .ok (.iastore, 1) := by decide +kernel
theorem dX11_requestIt_95 : decode cX11_requestIt 95 = .ok (.iconst 0, 1) := by decide +kernel
theorem dX11_requestIt_96 : decode cX11_requestIt 96 = .ok (.ireturn, 1) := by decide +kernel
theorem dX11_finishIt_0 : decode cX11_finishIt 0 = .ok (.aload_n 0, 1) := by decide +kernel
theorem dX11_finishIt_1 : decode cX11_finishIt 1 = .ok (.iload_n 1, 1) := by decide +kernel
theorem dX11_finishIt_2 : decode cX11_finishIt 2 = .ok (.invokevirtual 132, 3) := by decide +kernel
theorem dX11_finishIt_5 : decode cX11_finishIt 5 = .ok (.ifCond .eq 8, 3) := by decide +kernel
theorem dX11_finishIt_8 : decode cX11_finishIt 8 = .ok (.aload_n 0, 1) := by decide +kernel
theorem dX11_finishIt_9 : decode cX11_finishIt 9 = .ok (.iload_n 1, 1) := by decide +kernel
theorem dX11_finishIt_10 : decode cX11_finishIt 10 = .ok (.invokevirtual 154, 3) := by decide +kernel
theorem dX11_finishIt_13 : decode cX11_finishIt 13 = .ok (.iconst 0, 1) := by decide +kernel
theorem dX11_finishIt_14 : decode cX11_finishIt 14 = .ok (.istore_n 2, 1) := by decide +kernel
theorem dX11_finishIt_15 : decode cX11_finishIt 15 = .ok (.iload_n 2, 1) := by decide +kernel
theorem dX11_finishIt_16 : decode cX11_finishIt 16 = .ok (.aload_n 0, 1) := by decide +kernel
theorem dX11_finishIt_17 : decode cX11_finishIt 17 = .ok (.getfield 13, 3) := by decide +kernel
theorem dX11_finishIt_20 : decode cX11_finishIt 20 = .ok (.iconst 0, 1) := by decide +kernel
theorem dX11_finishIt_21 : decode cX11_finishIt 21 = .ok (.iaload, 1) := by decide +kernel
theorem dX11_finishIt_22 : decode cX11_finishIt 22 = .ok (.if_icmp .ge 19, 3) := by decide +kernel
theorem dX11_finishIt_25 : decode cX11_finishIt 25 = .ok (.aload_n 0, 1) := by decide +kernel
theorem dX11_finishIt_26 : decode cX11_finishIt 26 = .ok (.iload_n 1, 1) := by decide +kernel
theorem dX11_finishIt_27 : decode cX11_finishIt 27 = .ok (.bipush 14, 2) := by decide +kernel
theorem dX11_finishIt_29 : decode cX11_finishIt 29 = .ok (.iload_n 2, 1) := by decide +kernel
theorem dX11_finishIt_30 : decode cX11_finishIt 30 = .ok (.iadd, 1) := by decide +kernel
theorem dX11_finishIt_31 : decode cX11_finishIt 31 = .ok (.iconst 0, 1) := by decide +kernel
theorem dX11_finishIt_32 : decode cX11_finishIt 32 = .ok (.invokevirtual 135, 3) := by decide +kernel
theorem dX11_finishIt_35 : decode cX11_finishIt 35 = .ok (.iinc 2 1, 3) := by decide +kernel
theorem dX11_finishIt_38 : decode cX11_finishIt 38 = .ok (.goto (-23), 3) := by decide +kernel
theorem dX11_finishIt_41 : decode cX11_finishIt 41 = .ok (.aload_n 0, 1) := by decide +kernel
theorem dX11_finishIt_42 : decode cX11_finishIt 42 = .ok (.invokevirtual 157, 3) := by decide +kernel
theorem dX11_finishIt_45 : decode cX11_finishIt 45 = .ok (.ireturn, 1) := by decide +kernel
theorem dX11_releaseIt_0 : decode cX11_releaseIt 0 = .ok (.aload_n 0, 1) := by decide +kernel
theorem dX11_releaseIt_1 : decode cX11_releaseIt 1 = .ok (.iload_n 1, 1) := by decide +kernel
theorem dX11_releaseIt_2 : decode cX11_releaseIt 2 = .ok (.bipush 14, 2) := by decide +kernel
theorem dX11_releaseIt_4 : decode cX11_releaseIt 4 = .ok (.iload_n 2, 1) := by decide +kernel
theorem dX11_releaseIt_5 : decode cX11_releaseIt 5 = .ok (.iadd, 1) := by decide +kernel
theorem dX11_releaseIt_6 : decode cX11_releaseIt 6 = .ok (.aload_n 0, 1) := by decide +kernel
theorem dX11_releaseIt_7 : decode cX11_releaseIt 7 = .ok (.iload_n 1, 1) := by decide +kernel
theorem dX11_releaseIt_8 : decode cX11_releaseIt 8 = .ok (.bipush 14, 2) := by decide +kernel
theorem dX11_releaseIt_10 : decode cX11_releaseIt 10 = .ok (.iload_n 2, 1) := by decide +kernel
theorem dX11_releaseIt_11 : decode cX11_releaseIt 11 = .ok (.iadd, 1) := by decide +kernel
theorem dX11_releaseIt_12 : decode cX11_releaseIt 12 = .ok (.invokevirtual 105, 3) := by decide +kernel
theorem dX11_releaseIt_15 : decode cX11_releaseIt 15 = .ok (.iload_n 3, 1) := by decide +kernel
theorem dX11_releaseIt_16 : decode cX11_releaseIt 16 = .ok (.isub, 1) := by decide +kernel
theorem dX11_releaseIt_17 : decode cX11_releaseIt 17 = .ok (.invokevirtual 135, 3) := by decide +kernel
theorem dX11_releaseIt_20 : decode cX11_releaseIt 20 = .ok (.aload_n 0, 1) := by decide +kernel
theorem dX11_releaseIt_21 : decode cX11_releaseIt 21 = .ok (.invokevirtual 157, 3) := by decide +kernel
theorem dX11_releaseIt_24 : decode cX11_releaseIt 24 = .ok (.ireturn, 1) := by decide +kernel
theorem dX11_cancelIt_0 : decode cX11_cancelIt 0 = .ok (.aload_n 0, 1) := by decide +kernel
theorem dX11_cancelIt_1 : decode cX11_cancelIt 1 = .ok (.iload_n 1, 1) := by decide +kernel
theorem dX11_cancelIt_2 : decode cX11_cancelIt 2 = .ok (.invokevirtual 154, 3) := by decide +kernel
theorem dX11_cancelIt_5 : decode cX11_cancelIt 5 = .ok (.aload_n 0, 1) := by decide +kernel
theorem dX11_cancelIt_6 : decode cX11_cancelIt 6 = .ok (.invokevirtual 157, 3) := by decide +kernel
theorem dX11_cancelIt_9 : decode cX11_cancelIt 9 = .ok (.ireturn, 1) := by decide +kernel
theorem dX11_resizeIt_0 : decode cX11_resizeIt 0 = .ok (.aload_n 0, 1) := by decide +kernel
theorem dX11_resizeIt_1 : decode cX11_resizeIt 1 = .ok (.iload_n 1, 1) := by decide +kernel
theorem dX11_resizeIt_2 : decode cX11_resizeIt 2 = .ok (.iload_n 2, 1) := by decide +kernel
theorem dX11_resizeIt_3 : decode cX11_resizeIt 3 = .ok (.invokevirtual 160, 3) := by decide +kernel
theorem dX11_resizeIt_6 : decode cX11_resizeIt 6 = .ok (.aload_n 0, 1) := by decide +kernel
theorem dX11_resizeIt_7 : decode cX11_resizeIt 7 = .ok (.invokevirtual 157, 3) := by decide +kernel
theorem dX11_resizeIt_10 : decode cX11_resizeIt 10 = .ok (.ireturn, 1) := by decide +kernel
theorem dX11_walkFrom_0 : decode cX11_walkFrom 0 = .ok (.iconst 0, 1) := by decide +kernel
theorem dX11_walkFrom_1 : decode cX11_walkFrom 1 = .ok (.istore_n 2, 1) := by decide +kernel
theorem dX11_walkFrom_2 : decode cX11_walkFrom 2 = .ok (.iload_n 2, 1) := by decide +kernel
theorem dX11_walkFrom_3 : decode cX11_walkFrom 3 = .ok (.bipush 8, 2) := by decide +kernel
theorem dX11_walkFrom_5 : decode cX11_walkFrom 5 = .ok (.if_icmp .ge 16, 3) := by decide +kernel
theorem dX11_walkFrom_8 : decode cX11_walkFrom 8 = .ok (.aload_n 0, 1) := by decide +kernel
theorem dX11_walkFrom_9 : decode cX11_walkFrom 9 = .ok (.getfield 51, 3) := by decide +kernel
theorem dX11_walkFrom_12 : decode cX11_walkFrom 12 = .ok (.iload_n 2, 1) := by decide +kernel
theorem dX11_walkFrom_13 : decode cX11_walkFrom 13 = .ok (.iconst (-1), 1) := by decide +kernel
theorem dX11_walkFrom_14 : decode cX11_walkFrom 14 = .ok (.iastore, 1) := by decide +kernel
theorem dX11_walkFrom_15 : decode cX11_walkFrom 15 = .ok (.iinc 2 1, 3) := by decide +kernel
theorem dX11_walkFrom_18 : decode cX11_walkFrom 18 = .ok (.goto (-16), 3) := by decide +kernel
theorem dX11_walkFrom_21 : decode cX11_walkFrom 21 = .ok (.aload_n 0, 1) := by decide +kernel
theorem dX11_walkFrom_22 : decode cX11_walkFrom 22 = .ok (.getfield 51, 3) := by decide +kernel
theorem dX11_walkFrom_25 : decode cX11_walkFrom 25 = .ok (.iload_n 1, 1) := by decide +kernel
theorem dX11_walkFrom_26 : decode cX11_walkFrom 26 = .ok (.iconst 0, 1) := by decide +kernel
theorem dX11_walkFrom_27 : decode cX11_walkFrom 27 = .ok (.iastore, 1) := by decide +kernel
theorem dX11_walkFrom_28 : decode cX11_walkFrom 28 = .ok (.iconst 0, 1) := by decide +kernel
theorem dX11_walkFrom_29 : decode cX11_walkFrom 29 = .ok (.istore_n 2, 1) := by decide +kernel
theorem dX11_walkFrom_30 : decode cX11_walkFrom 30 = .ok (.iload_n 2, 1) := by decide +kernel
theorem dX11_walkFrom_31 : decode cX11_walkFrom 31 = .ok (.aload_n 0, 1) := by decide +kernel
theorem dX11_walkFrom_32 : decode cX11_walkFrom 32 = .ok (.getfield 13, 3) := by decide +kernel
theorem dX11_walkFrom_35 : decode cX11_walkFrom 35 = .ok (.iconst 1, 1) := by decide +kernel
theorem dX11_walkFrom_36 : decode cX11_walkFrom 36 = .ok (.iaload, 1) := by decide +kernel
theorem dX11_walkFrom_37 : decode cX11_walkFrom 37 = .ok (.if_icmp .ge 91, 3) := by decide +kernel
theorem dX11_walkFrom_40 : decode cX11_walkFrom 40 = .ok (.iconst 0, 1) := by decide +kernel
theorem dX11_walkFrom_41 : decode cX11_walkFrom 41 = .ok (.istore_n 3, 1) := by decide +kernel
theorem dX11_walkFrom_42 : decode cX11_walkFrom 42 = .ok (.iload_n 3, 1) := by decide +kernel
theorem dX11_walkFrom_43 : decode cX11_walkFrom 43 = .ok (.aload_n 0, 1) := by decide +kernel
theorem dX11_walkFrom_44 : decode cX11_walkFrom 44 = .ok (.getfield 13, 3) := by decide +kernel
theorem dX11_walkFrom_47 : decode cX11_walkFrom 47 = .ok (.iconst 1, 1) := by decide +kernel
theorem dX11_walkFrom_48 : decode cX11_walkFrom 48 = .ok (.iaload, 1) := by decide +kernel
theorem dX11_walkFrom_49 : decode cX11_walkFrom 49 = .ok (.if_icmp .ge 73, 3) := by decide +kernel
theorem dX11_walkFrom_52 : decode cX11_walkFrom 52 = .ok (.aload_n 0, 1) := by decide +kernel
theorem dX11_walkFrom_53 : decode cX11_walkFrom 53 = .ok (.getfield 51, 3) := by decide +kernel
theorem dX11_walkFrom_56 : decode cX11_walkFrom 56 = .ok (.iload_n 3, 1) := by decide +kernel
theorem dX11_walkFrom_57 : decode cX11_walkFrom 57 = .ok (.iaload, 1) := by decide +kernel
theorem dX11_walkFrom_58 : decode cX11_walkFrom 58 = .ok (.iload_n 2, 1) := by decide +kernel
theorem dX11_walkFrom_59 : decode cX11_walkFrom 59 = .ok (.if_icmp .eq 6, 3) := by decide +kernel
theorem dX11_walkFrom_62 : decode cX11_walkFrom 62 = .ok (.goto 54, 3) := by decide +kernel
theorem dX11_walkFrom_65 : decode cX11_walkFrom 65 = .ok (.iconst 0, 1) := by decide +kernel
theorem dX11_walkFrom_66 : decode cX11_walkFrom 66 = .ok (.istore 4, 2) := by decide +kernel
theorem dX11_walkFrom_68 : decode cX11_walkFrom 68 = .ok (.iload 4, 2) := by decide +kernel
theorem dX11_walkFrom_70 : decode cX11_walkFrom 70 = .ok (.aload_n 0, 1) := by decide +kernel
theorem dX11_walkFrom_71 : decode cX11_walkFrom 71 = .ok (.getfield 13, 3) := by decide +kernel
theorem dX11_walkFrom_74 : decode cX11_walkFrom 74 = .ok (.iconst 1, 1) := by decide +kernel
theorem dX11_walkFrom_75 : decode cX11_walkFrom 75 = .ok (.iaload, 1) := by decide +kernel
theorem dX11_walkFrom_76 : decode cX11_walkFrom 76 = .ok (.if_icmp .ge 40, 3) := by decide +kernel
theorem dX11_walkFrom_79 : decode cX11_walkFrom 79 = .ok (.aload_n 0, 1) := by decide +kernel
theorem dX11_walkFrom_80 : decode cX11_walkFrom 80 = .ok (.iload_n 3, 1) := by decide +kernel
theorem dX11_walkFrom_81 : decode cX11_walkFrom 81 = .ok (.iload 4, 2) := by decide +kernel
theorem dX11_walkFrom_83 : decode cX11_walkFrom 83 = .ok (.invokevirtual 163, 3) := by decide +kernel
theorem dX11_walkFrom_86 : decode cX11_walkFrom 86 = .ok (.ifCond .le 24, 3) := by decide +kernel
theorem dX11_walkFrom_89 : decode cX11_walkFrom 89 = .ok (.aload_n 0, 1) := by decide +kernel
theorem dX11_walkFrom_90 : decode cX11_walkFrom 90 = .ok (.getfield 51, 3) := by decide +kernel
theorem dX11_walkFrom_93 : decode cX11_walkFrom 93 = .ok (.iload 4, 2) := by decide +kernel
theorem dX11_walkFrom_95 : decode cX11_walkFrom 95 = .ok (.iaload, 1) := by decide +kernel
theorem dX11_walkFrom_96 : decode cX11_walkFrom 96 = .ok (.iconst (-1), 1) := by decide +kernel
theorem dX11_walkFrom_97 : decode cX11_walkFrom 97 = .ok (.if_icmp .ne 13, 3) := by decide +kernel
theorem dX11_walkFrom_100 : decode cX11_walkFrom 100 = .ok (.aload_n 0, 1) := by decide +kernel
theorem dX11_walkFrom_101 : decode cX11_walkFrom 101 = .ok (.getfield 51, 3) := by decide +kernel
theorem dX11_walkFrom_104 : decode cX11_walkFrom 104 = .ok (.iload 4, 2) := by decide +kernel
theorem dX11_walkFrom_106 : decode cX11_walkFrom 106 = .ok (.iload_n 2, 1) := by decide +kernel
theorem dX11_walkFrom_107 : decode cX11_walkFrom 107 = .ok (.iconst 1, 1) := by decide +kernel
theorem dX11_walkFrom_108 : decode cX11_walkFrom 108 = .ok (.iadd, 1) := by decide +kernel
theorem dX11_walkFrom_109 : decode cX11_walkFrom 109 = .ok (.iastore, 1) := by decide +kernel
theorem dX11_walkFrom_110 : decode cX11_walkFrom 110 = .ok (.iinc 4 1, 3) := by decide +kernel
theorem dX11_walkFrom_113 : decode cX11_walkFrom 113 = .ok (.goto (-45), 3) := by decide +kernel
theorem dX11_walkFrom_116 : decode cX11_walkFrom 116 = .ok (.iinc 3 1, 3) := by decide +kernel
theorem dX11_walkFrom_119 : decode cX11_walkFrom 119 = .ok (.goto (-77), 3) := by decide +kernel
theorem dX11_walkFrom_122 : decode cX11_walkFrom 122 = .ok (.iinc 2 1, 3) := by decide +kernel
theorem dX11_walkFrom_125 : decode cX11_walkFrom 125 = .ok (.goto (-95), 3) := by decide +kernel
theorem dX11_walkFrom_128 : decode cX11_walkFrom 128 = .ok (.return_, 1) := by decide +kernel
theorem dX11_cycleLength_0 : decode cX11_cycleLength 0 = .ok (.aload_n 0, 1) := by decide +kernel
theorem dX11_cycleLength_1 : decode cX11_cycleLength 1 = .ok (.iload_n 2, 1) := by decide +kernel
theorem dX11_cycleLength_2 : decode cX11_cycleLength 2 = .ok (.invokevirtual 166, 3) := by decide +kernel
theorem dX11_cycleLength_5 : decode cX11_cycleLength 5 = .ok (.aload_n 0, 1) := by decide +kernel
theorem dX11_cycleLength_6 : decode cX11_cycleLength 6 = .ok (.getfield 51, 3) := by decide +kernel
theorem dX11_cycleLength_9 : decode cX11_cycleLength 9 = .ok (.iload_n 1, 1) := by decide +kernel
theorem dX11_cycleLength_10 : decode cX11_cycleLength 10 = .ok (.iaload, 1) := by decide +kernel
theorem dX11_cycleLength_11 : decode cX11_cycleLength 11 = .ok (.iconst (-1), 1) := by decide +kernel
theorem dX11_cycleLength_12 : decode cX11_cycleLength 12 = .ok (.if_icmp .ne 7, 3) := by decide +kernel
theorem dX11_cycleLength_15 : decode cX11_cycleLength 15 = .ok (.iconst (-1), 1) := by decide +kernel
theorem dX11_cycleLength_16 : decode cX11_cycleLength 16 = .ok (.goto 11, 3) := by decide +kernel
theorem dX11_cycleLength_19 : decode cX11_cycleLength 19 = .ok (.aload_n 0, 1) := by decide +kernel
theorem dX11_cycleLength_20 : decode cX11_cycleLength 20 = .ok (.getfield 51, 3) := by decide +kernel
theorem dX11_cycleLength_23 : decode cX11_cycleLength 23 = .ok (.iload_n 1, 1) := by decide +kernel
theorem dX11_cycleLength_24 : decode cX11_cycleLength 24 = .ok (.iaload, 1) := by decide +kernel
theorem dX11_cycleLength_25 : decode cX11_cycleLength 25 = .ok (.iconst 1, 1) := by decide +kernel
theorem dX11_cycleLength_26 : decode cX11_cycleLength 26 = .ok (.iadd, 1) := by decide +kernel
theorem dX11_cycleLength_27 : decode cX11_cycleLength 27 = .ok (.ireturn, 1) := by decide +kernel
theorem dX11_computeDepths_0 : decode cX11_computeDepths 0 = .ok (.iconst 0, 1) := by decide +kernel
theorem dX11_computeDepths_1 : decode cX11_computeDepths 1 = .ok (.istore_n 1, 1) := by decide +kernel
theorem dX11_computeDepths_2 : decode cX11_computeDepths 2 = .ok (.iload_n 1, 1) := by decide +kernel
theorem dX11_computeDepths_3 : decode cX11_computeDepths 3 = .ok (.bipush 8, 2) := by decide +kernel
theorem dX11_computeDepths_5 : decode cX11_computeDepths 5 = .ok (.if_icmp .ge 16, 3) := by decide +kernel
theorem dX11_computeDepths_8 : decode cX11_computeDepths 8 = .ok (.aload_n 0, 1) := by decide +kernel
theorem dX11_computeDepths_9 : decode cX11_computeDepths 9 = .ok (.getfield 54, 3) := by decide +kernel
theorem dX11_computeDepths_12 : decode cX11_computeDepths 12 = .ok (.iload_n 1, 1) := by decide +kernel
theorem dX11_computeDepths_13 : decode cX11_computeDepths 13 = .ok (.iconst 0, 1) := by decide +kernel
theorem dX11_computeDepths_14 : decode cX11_computeDepths 14 = .ok (.iastore, 1) := by decide +kernel
theorem dX11_computeDepths_15 : decode cX11_computeDepths 15 = .ok (.iinc 1 1, 3) := by decide +kernel
theorem dX11_computeDepths_18 : decode cX11_computeDepths 18 = .ok (.goto (-16), 3) := by decide +kernel
theorem dX11_computeDepths_21 : decode cX11_computeDepths 21 = .ok (.iconst 0, 1) := by decide +kernel
theorem dX11_computeDepths_22 : decode cX11_computeDepths 22 = .ok (.istore_n 1, 1) := by decide +kernel
theorem dX11_computeDepths_23 : decode cX11_computeDepths 23 = .ok (.iload_n 1, 1) := by decide +kernel
theorem dX11_computeDepths_24 : decode cX11_computeDepths 24 = .ok (.aload_n 0, 1) := by decide +kernel
theorem dX11_computeDepths_25 : decode cX11_computeDepths 25 = .ok (.getfield 13, 3) := by decide +kernel
theorem dX11_computeDepths_28 : decode cX11_computeDepths 28 = .ok (.iconst 1, 1) := by decide +kernel
theorem dX11_computeDepths_29 : decode cX11_computeDepths 29 = .ok (.iaload, 1) := by decide +kernel
theorem dX11_computeDepths_30 : decode cX11_computeDepths 30 = .ok (.if_icmp .ge 85, 3) := by decide +kernel
theorem dX11_computeDepths_33 : decode cX11_computeDepths 33 = .ok (.iconst 0, 1) := by decide +kernel
theorem dX11_computeDepths_34 : decode cX11_computeDepths 34 = .ok (.istore_n 2, 1) := by decide +kernel
theorem dX11_computeDepths_35 : decode cX11_computeDepths 35 = .ok (.iload_n 2, 1) := by decide +kernel
theorem dX11_computeDepths_36 : decode cX11_computeDepths 36 = .ok (.aload_n 0, 1) := by decide +kernel
theorem dX11_computeDepths_37 : decode cX11_computeDepths 37 = .ok (.getfield 13, 3) := by decide +kernel
theorem dX11_computeDepths_40 : decode cX11_computeDepths 40 = .ok (.iconst 1, 1) := by decide +kernel
theorem dX11_computeDepths_41 : decode cX11_computeDepths 41 = .ok (.iaload, 1) := by decide +kernel
theorem dX11_computeDepths_42 : decode cX11_computeDepths 42 = .ok (.if_icmp .ge 67, 3) := by decide +kernel
theorem dX11_computeDepths_45 : decode cX11_computeDepths 45 = .ok (.iconst 0, 1) := by decide +kernel
theorem dX11_computeDepths_46 : decode cX11_computeDepths 46 = .ok (.istore_n 3, 1) := by decide +kernel
theorem dX11_computeDepths_47 : decode cX11_computeDepths 47 = .ok (.iload_n 3, 1) := by decide +kernel
theorem dX11_computeDepths_48 : decode cX11_computeDepths 48 = .ok (.aload_n 0, 1) := by decide +kernel
theorem dX11_computeDepths_49 : decode cX11_computeDepths 49 = .ok (.getfield 13, 3) := by decide +kernel
theorem dX11_computeDepths_52 : decode cX11_computeDepths 52 = .ok (.iconst 1, 1) := by decide +kernel
theorem dX11_computeDepths_53 : decode cX11_computeDepths 53 = .ok (.iaload, 1) := by decide +kernel
theorem dX11_computeDepths_54 : decode cX11_computeDepths 54 = .ok (.if_icmp .ge 49, 3) := by decide +kernel
theorem dX11_computeDepths_57 : decode cX11_computeDepths 57 = .ok (.aload_n 0, 1) := by decide +kernel
theorem dX11_computeDepths_58 : decode cX11_computeDepths 58 = .ok (.iload_n 2, 1) := by decide +kernel
theorem dX11_computeDepths_59 : decode cX11_computeDepths 59 = .ok (.iload_n 3, 1) := by decide +kernel
theorem dX11_computeDepths_60 : decode cX11_computeDepths 60 = .ok (.invokevirtual 163, 3) := by decide +kernel
theorem dX11_computeDepths_63 : decode cX11_computeDepths 63 = .ok (.ifCond .le 34, 3) := by decide +kernel
theorem dX11_computeDepths_66 : decode cX11_computeDepths 66 = .ok (.aload_n 0, 1) := by decide +kernel
theorem dX11_computeDepths_67 : decode cX11_computeDepths 67 = .ok (.getfield 54, 3) := by decide +kernel
theorem dX11_computeDepths_70 : decode cX11_computeDepths 70 = .ok (.iload_n 3, 1) := by decide +kernel
theorem dX11_computeDepths_71 : decode cX11_computeDepths 71 = .ok (.iaload, 1) := by decide +kernel
theorem dX11_computeDepths_72 : decode cX11_computeDepths 72 = .ok (.iconst 1, 1) := by decide +kernel
theorem dX11_computeDepths_73 : decode cX11_computeDepths 73 = .ok (.iadd, 1) := by decide +kernel
theorem dX11_computeDepths_74 : decode cX11_computeDepths 74 = .ok (.aload_n 0, 1) := by decide +kernel
theorem dX11_computeDepths_75 : decode cX11_computeDepths 75 = .ok (.getfield 54, 3) := by decide +kernel
theorem dX11_computeDepths_78 : decode cX11_computeDepths 78 = .ok (.iload_n 2, 1) := by decide +kernel
theorem dX11_computeDepths_79 : decode cX11_computeDepths 79 = .ok (.iaload, 1) := by decide +kernel
theorem dX11_computeDepths_80 : decode cX11_computeDepths 80 = .ok (.if_icmp .le 17, 3) := by decide +kernel
theorem dX11_computeDepths_83 : decode cX11_computeDepths 83 = .ok (.aload_n 0, 1) := by decide +kernel
theorem dX11_computeDepths_84 : decode cX11_computeDepths 84 = .ok (.getfield 54, 3) := by decide +kernel
theorem dX11_computeDepths_87 : decode cX11_computeDepths 87 = .ok (.iload_n 2, 1) := by decide +kernel
theorem dX11_computeDepths_88 : decode cX11_computeDepths 88 = .ok (.aload_n 0, 1) := by decide +kernel
theorem dX11_computeDepths_89 : decode cX11_computeDepths 89 = .ok (.getfield 54, 3) := by decide +kernel
theorem dX11_computeDepths_92 : decode cX11_computeDepths 92 = .ok (.iload_n 3, 1) := by decide +kernel
theorem dX11_computeDepths_93 : decode cX11_computeDepths 93 = .ok (.iaload, 1) := by decide +kernel
theorem dX11_computeDepths_94 : decode cX11_computeDepths 94 = .ok (.iconst 1, 1) := by decide +kernel
theorem dX11_computeDepths_95 : decode cX11_computeDepths 95 = .ok (.iadd, 1) := by decide +kernel
theorem dX11_computeDepths_96 : decode cX11_computeDepths 96 = .ok (.iastore, 1) := by decide +kernel
theorem dX11_computeDepths_97 : decode cX11_computeDepths 97 = .ok (.iinc 3 1, 3) := by decide +kernel
theorem dX11_computeDepths_100 : decode cX11_computeDepths 100 = .ok (.goto (-53), 3) := by decide +kernel
theorem dX11_computeDepths_103 : decode cX11_computeDepths 103 = .ok (.iinc 2 1, 3) := by decide +kernel
theorem dX11_computeDepths_106 : decode cX11_computeDepths 106 = .ok (.goto (-71), 3) := by decide +kernel
theorem dX11_computeDepths_109 : decode cX11_computeDepths 109 = .ok (.iinc 1 1, 3) := by decide +kernel
theorem dX11_computeDepths_112 : decode cX11_computeDepths 112 = .ok (.goto (-89), 3) := by decide +kernel
theorem dX11_computeDepths_115 : decode cX11_computeDepths 115 = .ok (.return_, 1) := by decide +kernel
theorem dX11_canLend_0 : decode cX11_canLend 0 = .ok (.aload_n 0, 1) := by decide +kernel
theorem dX11_canLend_1 : decode cX11_canLend 1 = .ok (.iload_n 2, 1) := by decide +kernel
theorem dX11_canLend_2 : decode cX11_canLend 2 = .ok (.iload_n 1, 1) := by decide +kernel
theorem dX11_canLend_3 : decode cX11_canLend 3 = .ok (.invokevirtual 169, 3) := by decide +kernel
theorem dX11_canLend_6 : decode cX11_canLend 6 = .ok (.iconst (-1), 1) := by decide +kernel
theorem dX11_canLend_7 : decode cX11_canLend 7 = .ok (.if_icmp .ne 21, 3) := by decide +kernel
theorem dX11_canLend_10 : decode cX11_canLend 10 = .ok (.aload_n 0, 1) := by decide +kernel
theorem dX11_canLend_11 : decode cX11_canLend 11 = .ok (.iload_n 2, 1) := by decide +kernel
theorem dX11_canLend_12 : decode cX11_canLend 12 = .ok (.iload_n 1, 1) := by decide +kernel
theorem dX11_canLend_13 : decode cX11_canLend 13 = .ok (.invokevirtual 163, 3) := by decide +kernel
theorem dX11_canLend_16 : decode cX11_canLend 16 = .ok (.iload_n 3, 1) := by decide +kernel
theorem dX11_canLend_17 : decode cX11_canLend 17 = .ok (.iadd, 1) := by decide +kernel
theorem dX11_canLend_18 : decode cX11_canLend 18 = .ok (.sipush 999, 3) := by decide +kernel
theorem dX11_canLend_21 : decode cX11_canLend 21 = .ok (.if_icmp .gt 7, 3) := by decide +kernel
theorem dX11_canLend_24 : decode cX11_canLend 24 = .ok (.iconst 1, 1) := by decide +kernel
theorem dX11_canLend_25 : decode cX11_canLend 25 = .ok (.goto 4, 3) := by decide +kernel
theorem dX11_canLend_28 : decode cX11_canLend 28 = .ok (.iconst 0, 1) := by decide +kernel
theorem dX11_canLend_29 : decode cX11_canLend 29 = .ok (.ireturn, 1) := by decide +kernel
theorem dX11_addDebt_0 : decode cX11_addDebt 0 = .ok (.aload_n 0, 1) := by decide +kernel
theorem dX11_addDebt_1 : decode cX11_addDebt 1 = .ok (.getfield 13, 3) := by decide +kernel
theorem dX11_addDebt_4 : decode cX11_addDebt 4 = .ok (.sipush 208, 3) := by decide +kernel
theorem dX11_addDebt_7 : decode cX11_addDebt 7 = .ok (.iload_n 1, 1) := by decide +kernel
theorem dX11_addDebt_8 : decode cX11_addDebt 8 = .ok (.bipush 8, 2) := by decide +kernel
theorem dX11_addDebt_10 : decode cX11_addDebt 10 = .ok (.imul, 1) := by decide +kernel
theorem dX11_addDebt_11 : decode cX11_addDebt 11 = .ok (.iadd, 1) := by decide +kernel
theorem dX11_addDebt_12 : decode cX11_addDebt 12 = .ok (.iload_n 2, 1) := by decide +kernel
theorem dX11_addDebt_13 : decode cX11_addDebt 13 = .ok (.iadd, 1) := by decide +kernel
theorem dX11_addDebt_14 : decode cX11_addDebt 14 = .ok (.dup2, 1) := by decide +kernel
theorem dX11_addDebt_15 : decode cX11_addDebt 15 = .ok (.iaload, 1) := by decide +kernel
theorem dX11_addDebt_16 : decode cX11_addDebt 16 = .ok (.iload_n 3, 1) := by decide +kernel
theorem dX11_addDebt_17 : decode cX11_addDebt 17 = .ok (.iadd, 1) := by decide +kernel
theorem dX11_addDebt_18 : decode cX11_addDebt 18 = .ok (.iastore, 1) := by decide +kernel
theorem dX11_addDebt_19 : decode cX11_addDebt 19 = .ok (.aload_n 0, 1) := by decide +kernel
theorem dX11_addDebt_20 : decode cX11_addDebt 20 = .ok (.iload_n 1, 1) := by decide +kernel
theorem dX11_addDebt_21 : decode cX11_addDebt 21 = .ok (.iload_n 2, 1) := by decide +kernel
theorem dX11_addDebt_22 : decode cX11_addDebt 22 = .ok (.invokevirtual 163, 3) := by decide +kernel
theorem dX11_addDebt_25 : decode cX11_addDebt 25 = .ok (.ireturn, 1) := by decide +kernel
theorem dX11_appendWord_0 : decode cX11_appendWord 0 = .ok (.bipush 24, 2) := by decide +kernel
theorem dX11_appendWord_2 : decode cX11_appendWord 2 = .ok (.istore_n 2, 1) := by decide +kernel
theorem dX11_appendWord_3 : decode cX11_appendWord 3 = .ok (.iload_n 2, 1) := by decide +kernel
theorem dX11_appendWord_4 : decode cX11_appendWord 4 = .ok (.ifCond .lt 35, 3) := by decide +kernel
theorem dX11_appendWord_7 : decode cX11_appendWord 7 = .ok (.aload_n 0, 1) := by decide +kernel
theorem dX11_appendWord_8 : decode cX11_appendWord 8 = .ok (.getfield 24, 3) := by decide +kernel
theorem dX11_appendWord_11 : decode cX11_appendWord 11 = .ok (.aload_n 0, 1) := by decide +kernel
theorem dX11_appendWord_12 : decode cX11_appendWord 12 = .ok (.getfield 27, 3) := by decide +kernel
theorem dX11_appendWord_15 : decode cX11_appendWord 15 = .ok (.iload_n 1, 1) := by decide +kernel
theorem dX11_appendWord_16 : decode cX11_appendWord 16 = .ok (.iload_n 2, 1) := by decide +kernel
theorem dX11_appendWord_17 : decode cX11_appendWord 17 = .ok (.ishr, 1) := by decide +kernel
theorem dX11_appendWord_18 : decode cX11_appendWord 18 = .ok (.sipush 255, 3) := by decide +kernel
theorem dX11_appendWord_21 : decode cX11_appendWord 21 = .ok (.iand, 1) := by decide +kernel
theorem dX11_appendWord_22 : decode cX11_appendWord 22 = .ok (.iastore, 1) := by decide +kernel
theorem dX11_appendWord_23 : decode cX11_appendWord 23 = .ok (.aload_n 0, 1) := by decide +kernel
theorem dX11_appendWord_24 : decode cX11_appendWord 24 = .ok (.dup, 1) := by decide +kernel
theorem dX11_appendWord_25 : decode cX11_appendWord 25 = .ok (.getfield 27, 3) := by decide +kernel
theorem dX11_appendWord_28 : decode cX11_appendWord 28 = .ok (.iconst 1, 1) := by decide +kernel
theorem dX11_appendWord_29 : decode cX11_appendWord 29 = .ok (.iadd, 1) := by decide +kernel
theorem dX11_appendWord_30 : decode cX11_appendWord 30 = .ok (.putfield 27, 3) := by decide +kernel
theorem dX11_appendWord_33 : decode cX11_appendWord 33 = .ok (.iinc 2 (-8), 3) := by decide +kernel
theorem dX11_appendWord_36 : decode cX11_appendWord 36 = .ok (.goto (-33), 3) := by decide +kernel
theorem dX11_appendWord_39 : decode cX11_appendWord 39 = .ok (.return_, 1) := by decide +kernel
theorem dX11_append_0 : decode cX11_append 0 = .ok (.aload_n 0, 1) := by decide +kernel
theorem dX11_append_1 : decode cX11_append 1 = .ok (.aload_n 0, 1) := by decide +kernel
theorem dX11_append_2 : decode cX11_append 2 = .ok (.getfield 27, 3) := by decide +kernel
theorem dX11_append_5 : decode cX11_append 5 = .ok (.bipush 20, 2) := by decide +kernel
theorem dX11_append_7 : decode cX11_append 7 = .ok (.iadd, 1) := by decide +kernel
theorem dX11_append_8 : decode cX11_append 8 = .ok (.sipush 600, 3) := by decide +kernel
theorem dX11_append_11 : decode cX11_append 11 = .ok (.if_icmp .le 7, 3) := by decide +kernel
theorem dX11_append_14 : decode cX11_append 14 = .ok (.iconst 1, 1) := by decide +kernel
theorem dX11_append_15 : decode cX11_append 15 = .ok (.goto 4, 3) := by decide +kernel
theorem dX11_append_18 : decode cX11_append 18 = .ok (.iconst 0, 1) := by decide +kernel
theorem dX11_append_19 : decode cX11_append 19 = .ok (.iconst 0, 1) := by decide +kernel
theorem dX11_append_20 : decode cX11_append 20 = .ok (.iconst 0, 1) := by decide +kernel
theorem dX11_append_21 : decode cX11_append 21 = .ok (.invokevirtual 172, 3) := by decide +kernel
theorem dX11_append_24 : decode cX11_append 24 = .ok (.ifCond .eq 5, 3) := by decide +kernel
theorem dX11_append_27 : decode cX11_append 27 = .ok (.iconst 0, 1) := by decide +kernel
theorem dX11_append_28 : decode cX11_append 28 = .ok (.ireturn, 1) := by decide +kernel
theorem dX11_append_29 : decode cX11_append 29 = .ok (.aload_n 0, 1) := by decide +kernel
theorem dX11_append_30 : decode cX11_append 30 = .ok (.iload_n 1, 1) := by decide +kernel
theorem dX11_append_31 : decode cX11_append 31 = .ok (.invokevirtual 176, 3) := by decide +kernel
theorem dX11_append_34 : decode cX11_append 34 = .ok (.aload_n 0, 1) := by decide +kernel
theorem dX11_append_35 : decode cX11_append 35 = .ok (.iload_n 2, 1) := by decide +kernel
theorem dX11_append_36 : decode cX11_append 36 = .ok (.invokevirtual 176, 3) := by decide +kernel
theorem dX11_append_39 : decode cX11_append 39 = .ok (.aload_n 0, 1) := by decide +kernel
theorem dX11_append_40 : decode cX11_append 40 = .ok (.iload_n 3, 1) := by decide +kernel
theorem dX11_append_41 : decode cX11_append 41 = .ok (.invokevirtual 176, 3) := by decide +kernel
theorem dX11_append_44 : decode cX11_append 44 = .ok (.aload_n 0, 1) := by decide +kernel
theorem dX11_append_45 : decode cX11_append 45 = .ok (.iload 4, 2) := by decide +kernel
theorem dX11_append_47 : decode cX11_append 47 = .ok (.invokevirtual 176, 3) := by decide +kernel
theorem dX11_append_50 : decode cX11_append 50 = .ok (.aload_n 0, 1) := by decide +kernel
theorem dX11_append_51 : decode cX11_append 51 = .ok (.iload 5, 2) := by decide +kernel
theorem dX11_append_53 : decode cX11_append 53 = .ok (.invokevirtual 176, 3) := by decide +kernel
theorem dX11_append_56 : decode cX11_append 56 = .ok (.aload_n 0, 1) := by decide +kernel
theorem dX11_append_57 : decode cX11_append 57 = .ok (.getfield 27, 3) := by decide +kernel
theorem dX11_append_60 : decode cX11_append 60 = .ok (.ireturn, 1) := by decide +kernel
theorem dX11_truncate_0 : decode cX11_truncate 0 = .ok (.aload_n 0, 1) := by decide +kernel
theorem dX11_truncate_1 : decode cX11_truncate 1 = .ok (.iload_n 1, 1) := by decide +kernel
theorem dX11_truncate_2 : decode cX11_truncate 2 = .ok (.iconst 0, 1) := by decide +kernel
theorem dX11_truncate_3 : decode cX11_truncate 3 = .ok (.aload_n 0, 1) := by decide +kernel
theorem dX11_truncate_4 : decode cX11_truncate 4 = .ok (.getfield 27, 3) := by decide +kernel
theorem dX11_truncate_7 : decode cX11_truncate 7 = .ok (.invokestatic 90, 3) := by decide +kernel
theorem dX11_truncate_10 : decode cX11_truncate 10 = .ok (.ifCond .ne 7, 3) := by decide +kernel
theorem dX11_truncate_13 : decode cX11_truncate 13 = .ok (.iconst 1, 1) := by decide +kernel
theorem dX11_truncate_14 : decode cX11_truncate 14 = .ok (.goto 4, 3) := by decide +kernel
theorem dX11_truncate_17 : decode cX11_truncate 17 = .ok (.iconst 0, 1) := by decide +kernel
theorem dX11_truncate_18 : decode cX11_truncate 18 = .ok (.iconst 0, 1) := by decide +kernel
theorem dX11_truncate_19 : decode cX11_truncate 19 = .ok (.iconst 0, 1) := by decide +kernel
theorem dX11_truncate_20 : decode cX11_truncate 20 = .ok (.invokevirtual 172, 3) := by decide +kernel
theorem dX11_truncate_23 : decode cX11_truncate 23 = .ok (.ifCond .eq 5, 3) := by decide +kernel
theorem dX11_truncate_26 : decode cX11_truncate 26 = .ok (.iconst 0, 1) := by decide +kernel
theorem dX11_truncate_27 : decode cX11_truncate 27 = .ok (.ireturn, 1) := by decide +kernel
theorem dX11_truncate_28 : decode cX11_truncate 28 = .ok (.aload_n 0, 1) := by decide +kernel
theorem dX11_truncate_29 : decode cX11_truncate 29 = .ok (.iload_n 1, 1) := by decide +kernel
theorem dX11_truncate_30 : decode cX11_truncate 30 = .ok (.putfield 27, 3) := by decide +kernel
theorem dX11_truncate_33 : decode cX11_truncate 33 = .ok (.iload_n 1, 1) := by decide +kernel
theorem dX11_truncate_34 : decode cX11_truncate 34 = .ok (.ireturn, 1) := by decide +kernel
theorem dX11_isSmall_0 : decode cX11_isSmall 0 = .ok (.iload_n 0, 1) := by decide +kernel
theorem dX11_isSmall_1 : decode cX11_isSmall 1 = .ok (.bipush 97, 2) := by decide +kernel
theorem dX11_isSmall_3 : decode cX11_isSmall 3 = .ok (.if_icmp .lt 13, 3) := by decide +kernel
theorem dX11_isSmall_6 : decode cX11_isSmall 6 = .ok (.iload_n 0, 1) := by decide +kernel
theorem dX11_isSmall_7 : decode cX11_isSmall 7 = .ok (.bipush 122, 2) := by decide +kernel
theorem dX11_isSmall_9 : decode cX11_isSmall 9 = .ok (.if_icmp .gt 7, 3) := by decide +kernel
theorem dX11_isSmall_12 : decode cX11_isSmall 12 = .ok (.iconst 1, 1) := by decide +kernel
theorem dX11_isSmall_13 : decode cX11_isSmall 13 = .ok (.goto 4, 3) := by decide +kernel
theorem dX11_isSmall_16 : decode cX11_isSmall 16 = .ok (.iconst 0, 1) := by decide +kernel
theorem dX11_isSmall_17 : decode cX11_isSmall 17 = .ok (.ireturn, 1) := by decide +kernel
theorem dX11_isDigit_0 : decode cX11_isDigit 0 = .ok (.iload_n 0, 1) := by decide +kernel
theorem dX11_isDigit_1 : decode cX11_isDigit 1 = .ok (.bipush 48, 2) := by decide +kernel
theorem dX11_isDigit_3 : decode cX11_isDigit 3 = .ok (.if_icmp .lt 13, 3) := by decide +kernel
theorem dX11_isDigit_6 : decode cX11_isDigit 6 = .ok (.iload_n 0, 1) := by decide +kernel
theorem dX11_isDigit_7 : decode cX11_isDigit 7 = .ok (.bipush 57, 2) := by decide +kernel
theorem dX11_isDigit_9 : decode cX11_isDigit 9 = .ok (.if_icmp .gt 7, 3) := by decide +kernel
theorem dX11_isDigit_12 : decode cX11_isDigit 12 = .ok (.iconst 1, 1) := by decide +kernel
theorem dX11_isDigit_13 : decode cX11_isDigit 13 = .ok (.goto 4, 3) := by decide +kernel
theorem dX11_isDigit_16 : decode cX11_isDigit 16 = .ok (.iconst 0, 1) := by decide +kernel
theorem dX11_isDigit_17 : decode cX11_isDigit 17 = .ok (.ireturn, 1) := by decide +kernel
theorem dX11_token_0 : decode cX11_token 0 = .ok (.aload_n 0, 1) := by decide +kernel
theorem dX11_token_1 : decode cX11_token 1 = .ok (.getfield 57, 3) := by decide +kernel
theorem dX11_token_4 : decode cX11_token 4 = .ok (.aload_n 0, 1) := by decide +kernel
theorem dX11_token_5 : decode cX11_token 5 = .ok (.getfield 27, 3) := by decide +kernel
theorem dX11_token_8 : decode cX11_token 8 = .ok (.if_icmp .ge 44, 3) := by decide +kernel
theorem dX11_token_11 : decode cX11_token 11 = .ok (.aload_n 0, 1) := by decide +kernel
theorem dX11_token_12 : decode cX11_token 12 = .ok (.getfield 24, 3) := by decide +kernel
theorem dX11_token_15 : decode cX11_token 15 = .ok (.aload_n 0, 1) := by decide +kernel
theorem dX11_token_16 : decode cX11_token 16 = .ok (.getfield 57, 3) := by decide +kernel
theorem dX11_token_19 : decode cX11_token 19 = .ok (.iaload, 1) := by decide +kernel
theorem dX11_token_20 : decode cX11_token 20 = .ok (.bipush 32, 2) := by decide +kernel
theorem dX11_token_22 : decode cX11_token 22 = .ok (.if_icmp .eq 17, 3) := by decide +kernel
theorem dX11_token_25 : decode cX11_token 25 = .ok (.aload_n 0, 1) := by decide +kernel
theorem dX11_token_26 : decode cX11_token 26 = .ok (.getfield 24, 3) := by decide +kernel
theorem dX11_token_29 : decode cX11_token 29 = .ok (.aload_n 0, 1) := by decide +kernel
theorem dX11_token_30 : decode cX11_token 30 = .ok (.getfield 57, 3) := by decide +kernel
theorem dX11_token_33 : decode cX11_token 33 = .ok (.iaload, 1) := by decide +kernel
theorem dX11_token_34 : decode cX11_token 34 = .ok (.bipush 10, 2) := by decide +kernel
theorem dX11_token_36 : decode cX11_token 36 = .ok (.if_icmp .ne 16, 3) := by decide +kernel
theorem dX11_token_39 : decode cX11_token 39 = .ok (.aload_n 0, 1) := by decide +kernel
theorem dX11_token_40 : decode cX11_token 40 = .ok (.dup, 1) := by decide +kernel
theorem dX11_token_41 : decode cX11_token 41 = .ok (.getfield 57, 3) := by decide +kernel
theorem dX11_token_44 : decode cX11_token 44 = .ok (.iconst 1, 1) := by decide +kernel
theorem dX11_token_45 : decode cX11_token 45 = .ok (.iadd, 1) := by decide +kernel
theorem dX11_token_46 : decode cX11_token 46 = .ok (.putfield 57, 3) := by decide +kernel
theorem dX11_token_49 : decode cX11_token 49 = .ok (.goto (-49), 3) := by decide +kernel
theorem dX11_token_52 : decode cX11_token 52 = .ok (.aload_n 0, 1) := by decide +kernel
theorem dX11_token_53 : decode cX11_token 53 = .ok (.aload_n 0, 1) := by decide +kernel
theorem dX11_token_54 : decode cX11_token 54 = .ok (.getfield 57, 3) := by decide +kernel
theorem dX11_token_57 : decode cX11_token 57 = .ok (.putfield 63, 3) := by decide +kernel
theorem dX11_token_60 : decode cX11_token 60 = .ok (.aload_n 0, 1) := by decide +kernel
theorem dX11_token_61 : decode cX11_token 61 = .ok (.getfield 57, 3) := by decide +kernel
theorem dX11_token_64 : decode cX11_token 64 = .ok (.aload_n 0, 1) := by decide +kernel
theorem dX11_token_65 : decode cX11_token 65 = .ok (.getfield 27, 3) := by decide +kernel
theorem dX11_token_68 : decode cX11_token 68 = .ok (.if_icmp .ne 9, 3) := by decide +kernel
theorem dX11_token_71 : decode cX11_token 71 = .ok (.aload_n 0, 1) := by decide +kernel
theorem dX11_token_72 : decode cX11_token 72 = .ok (.iconst 0, 1) := by decide +kernel
theorem dX11_token_73 : decode cX11_token 73 = .ok (.putfield 60, 3) := by decide +kernel
theorem dX11_token_76 : decode cX11_token 76 = .ok (.return_, 1) := by decide +kernel
theorem dX11_token_77 : decode cX11_token 77 = .ok (.aload_n 0, 1) := by decide +kernel
theorem dX11_token_78 : decode cX11_token 78 = .ok (.getfield 24, 3) := by decide +kernel
theorem dX11_token_81 : decode cX11_token 81 = .ok (.aload_n 0, 1) := by decide +kernel
theorem dX11_token_82 : decode cX11_token 82 = .ok (.getfield 57, 3) := by decide +kernel
theorem dX11_token_85 : decode cX11_token 85 = .ok (.iaload, 1) := by decide +kernel
theorem dX11_token_86 : decode cX11_token 86 = .ok (.invokestatic 179, 3) := by decide +kernel
theorem dX11_token_89 : decode cX11_token 89 = .ok (.ifCond .eq 66, 3) := by decide +kernel
theorem dX11_token_92 : decode cX11_token 92 = .ok (.aload_n 0, 1) := by decide +kernel
theorem dX11_token_93 : decode cX11_token 93 = .ok (.getfield 57, 3) := by decide +kernel
theorem dX11_token_96 : decode cX11_token 96 = .ok (.aload_n 0, 1) := by decide +kernel
theorem dX11_token_97 : decode cX11_token 97 = .ok (.getfield 27, 3) := by decide +kernel
theorem dX11_token_100 : decode cX11_token 100 = .ok (.if_icmp .ge 31, 3) := by decide +kernel
theorem dX11_token_103 : decode cX11_token 103 = .ok (.aload_n 0, 1) := by decide +kernel
theorem dX11_token_104 : decode cX11_token 104 = .ok (.getfield 24, 3) := by decide +kernel
theorem dX11_token_107 : decode cX11_token 107 = .ok (.aload_n 0, 1) := by decide +kernel
theorem dX11_token_108 : decode cX11_token 108 = .ok (.getfield 57, 3) := by decide +kernel
theorem dX11_token_111 : decode cX11_token 111 = .ok (.iaload, 1) := by decide +kernel
theorem dX11_token_112 : decode cX11_token 112 = .ok (.invokestatic 179, 3) := by decide +kernel
theorem dX11_token_115 : decode cX11_token 115 = .ok (.ifCond .eq 16, 3) := by decide +kernel
theorem dX11_token_118 : decode cX11_token 118 = .ok (.aload_n 0, 1) := by decide +kernel
theorem dX11_token_119 : decode cX11_token 119 = .ok (.dup, 1) := by decide +kernel
theorem dX11_token_120 : decode cX11_token 120 = .ok (.getfield 57, 3) := by decide +kernel
theorem dX11_token_123 : decode cX11_token 123 = .ok (.iconst 1, 1) := by decide +kernel
theorem dX11_token_124 : decode cX11_token 124 = .ok (.iadd, 1) := by decide +kernel
theorem dX11_token_125 : decode cX11_token 125 = .ok (.putfield 57, 3) := by decide +kernel
theorem dX11_token_128 : decode cX11_token 128 = .ok (.goto (-36), 3) := by decide +kernel
theorem dX11_token_131 : decode cX11_token 131 = .ok (.aload_n 0, 1) := by decide +kernel
theorem dX11_token_132 : decode cX11_token 132 = .ok (.aload_n 0, 1) := by decide +kernel
theorem dX11_token_133 : decode cX11_token 133 = .ok (.getfield 57, 3) := by decide +kernel
theorem dX11_token_136 : decode cX11_token 136 = .ok (.aload_n 0, 1) := by decide +kernel
theorem dX11_token_137 : decode cX11_token 137 = .ok (.getfield 63, 3) := by decide +kernel
theorem dX11_token_140 : decode cX11_token 140 = .ok (.isub, 1) := by decide +kernel
theorem dX11_token_141 : decode cX11_token 141 = .ok (.bipush 8, 2) := by decide +kernel
theorem dX11_token_143 : decode cX11_token 143 = .ok (.if_icmp .le 7, 3) := by decide +kernel
theorem dX11_token_146 : decode cX11_token 146 = .ok (.iconst 4, 1) := by decide +kernel
theorem dX11_token_147 : decode cX11_token 147 = .ok (.goto 4, 3) := by decide +kernel
theorem dX11_token_150 : decode cX11_token 150 = .ok (.iconst 1, 1) := by decide +kernel
theorem dX11_token_151 : decode cX11_token 151 = .ok (.putfield 60, 3) := by decide +kernel
theorem dX11_token_154 : decode cX11_token 154 = .ok (.return_, 1) := by decide +kernel
theorem dX11_token_155 : decode cX11_token 155 = .ok (.aload_n 0, 1) := by decide +kernel
theorem dX11_token_156 : decode cX11_token 156 = .ok (.getfield 24, 3) := by decide +kernel
theorem dX11_token_159 : decode cX11_token 159 = .ok (.aload_n 0, 1) := by decide +kernel
theorem dX11_token_160 : decode cX11_token 160 = .ok (.getfield 57, 3) := by decide +kernel
theorem dX11_token_163 : decode cX11_token 163 = .ok (.iaload, 1) := by decide +kernel
theorem dX11_token_164 : decode cX11_token 164 = .ok (.invokestatic 182, 3) := by decide +kernel
theorem dX11_token_167 : decode cX11_token 167 = .ok (.ifCond .eq 107, 3) := by decide +kernel
theorem dX11_token_170 : decode cX11_token 170 = .ok (.aload_n 0, 1) := by decide +kernel
theorem dX11_token_171 : decode cX11_token 171 = .ok (.iconst 0, 1) := by decide +kernel
theorem dX11_token_172 : decode cX11_token 172 = .ok (.putfield 66, 3) := by decide +kernel
theorem dX11_token_175 : decode cX11_token 175 = .ok (.aload_n 0, 1) := by decide +kernel
theorem dX11_token_176 : decode cX11_token 176 = .ok (.getfield 57, 3) := by decide +kernel
theorem dX11_token_179 : decode cX11_token 179 = .ok (.aload_n 0, 1) := by decide +kernel
theorem dX11_token_180 : decode cX11_token 180 = .ok (.getfield 27, 3) := by decide +kernel
theorem dX11_token_183 : decode cX11_token 183 = .ok (.if_icmp .ge 68, 3) := by decide +kernel
theorem dX11_token_186 : decode cX11_token 186 = .ok (.aload_n 0, 1) := by decide +kernel
theorem dX11_token_187 : decode cX11_token 187 = .ok (.getfield 24, 3) := by decide +kernel
theorem dX11_token_190 : decode cX11_token 190 = .ok (.aload_n 0, 1) := by decide +kernel
theorem dX11_token_191 : decode cX11_token 191 = .ok (.getfield 57, 3) := by decide +kernel
theorem dX11_token_194 : decode cX11_token 194 = .ok (.iaload, 1) := by decide +kernel
theorem dX11_token_195 : decode cX11_token 195 = .ok (.invokestatic 182, 3) := by decide +kernel
theorem dX11_token_198 : decode cX11_token 198 = .ok (.ifCond .eq 53, 3) := by decide +kernel
theorem dX11_token_201 : decode cX11_token 201 = .ok (.aload_n 0, 1) := by decide +kernel
theorem dX11_token_202 : decode cX11_token 202 = .ok (.getfield 57, 3) := by decide +kernel
theorem dX11_token_205 : decode cX11_token 205 = .ok (.aload_n 0, 1) := by decide +kernel
theorem dX11_token_206 : decode cX11_token 206 = .ok (.getfield 63, 3) := by decide +kernel
theorem dX11_token_209 : decode cX11_token 209 = .ok (.isub, 1) := by decide +kernel
theorem dX11_token_210 : decode cX11_token 210 = .ok (.iconst 3, 1) := by decide +kernel
theorem dX11_token_211 : decode cX11_token 211 = .ok (.if_icmp .ge 27, 3) := by decide +kernel
theorem dX11_token_214 : decode cX11_token 214 = .ok (.aload_n 0, 1) := by decide +kernel
theorem dX11_token_215 : decode cX11_token 215 = .ok (.aload_n 0, 1) := by decide +kernel
theorem dX11_token_216 : decode cX11_token 216 = .ok (.getfield 66, 3) := by decide +kernel
theorem dX11_token_219 : decode cX11_token 219 = .ok (.bipush 10, 2) := by decide +kernel
theorem dX11_token_221 : decode cX11_token 221 = .ok (.imul, 1) := by decide +kernel
theorem dX11_token_222 : decode cX11_token 222 = .ok (.aload_n 0, 1) := by decide +kernel
theorem dX11_token_223 : decode cX11_token 223 = .ok (.getfield 24, 3) := by decide +kernel
theorem dX11_token_226 : decode cX11_token 226 = .ok (.aload_n 0, 1) := by decide +kernel
theorem dX11_token_227 : decode cX11_token 227 = .ok (.getfield 57, 3) := by decide +kernel
theorem dX11_token_230 : decode cX11_token 230 = .ok (.iaload, 1) := by decide +kernel
theorem dX11_token_231 : decode cX11_token 231 = .ok (.iadd, 1) := by decide +kernel
theorem dX11_token_232 : decode cX11_token 232 = .ok (.bipush 48, 2) := by decide +kernel
theorem dX11_token_234 : decode cX11_token 234 = .ok (.isub, 1) := by decide +kernel
theorem dX11_token_235 : decode cX11_token 235 = .ok (.putfield 66, 3) := by decide +kernel
theorem dX11_token_238 : decode cX11_token 238 = .ok (.aload_n 0, 1) := by decide +kernel
theorem dX11_token_239 : decode cX11_token 239 = .ok (.dup, 1) := by decide +kernel
theorem dX11_token_240 : decode cX11_token 240 = .ok (.getfield 57, 3) := by decide +kernel
theorem dX11_token_243 : decode cX11_token 243 = .ok (.iconst 1, 1) := by decide +kernel
theorem dX11_token_244 : decode cX11_token 244 = .ok (.iadd, 1) := by decide +kernel
theorem dX11_token_245 : decode cX11_token 245 = .ok (.putfield 57, 3) := by decide +kernel
theorem dX11_token_248 : decode cX11_token 248 = .ok (.goto (-73), 3) := by decide +kernel
theorem dX11_token_251 : decode cX11_token 251 = .ok (.aload_n 0, 1) := by decide +kernel
theorem dX11_token_252 : decode cX11_token 252 = .ok (.aload_n 0, 1) := by decide +kernel
theorem dX11_token_253 : decode cX11_token 253 = .ok (.getfield 57, 3) := by decide +kernel
theorem dX11_token_256 : decode cX11_token 256 = .ok (.aload_n 0, 1) := by decide +kernel
theorem dX11_token_257 : decode cX11_token 257 = .ok (.getfield 63, 3) := by decide +kernel
theorem dX11_token_260 : decode cX11_token 260 = .ok (.isub, 1) := by decide +kernel
theorem dX11_token_261 : decode cX11_token 261 = .ok (.iconst 3, 1) := by decide +kernel
theorem dX11_token_262 : decode cX11_token 262 = .ok (.if_icmp .le 7, 3) := by decide +kernel
theorem dX11_token_265 : decode cX11_token 265 = .ok (.iconst 4, 1) := by decide +kernel
theorem dX11_token_266 : decode cX11_token 266 = .ok (.goto 4, 3) := by decide +kernel
theorem dX11_token_269 : decode cX11_token 269 = .ok (.iconst 2, 1) := by decide +kernel
theorem dX11_token_270 : decode cX11_token 270 = .ok (.putfield 60, 3) := by decide +kernel
theorem dX11_token_273 : decode cX11_token 273 = .ok (.return_, 1) := by decide +kernel
theorem dX11_token_274 : decode cX11_token 274 = .ok (.aload_n 0, 1) := by decide +kernel
theorem dX11_token_275 : decode cX11_token 275 = .ok (.aload_n 0, 1) := by decide +kernel
theorem dX11_token_276 : decode cX11_token 276 = .ok (.getfield 24, 3) := by decide +kernel
theorem dX11_token_279 : decode cX11_token 279 = .ok (.aload_n 0, 1) := by decide +kernel
theorem dX11_token_280 : decode cX11_token 280 = .ok (.getfield 57, 3) := by decide +kernel
theorem dX11_token_283 : decode cX11_token 283 = .ok (.iaload, 1) := by decide +kernel
theorem dX11_token_284 : decode cX11_token 284 = .ok (.bipush 59, 2) := by decide +kernel
theorem dX11_token_286 : decode cX11_token 286 = .ok (.if_icmp .ne 7, 3) := by decide +kernel
theorem dX11_token_289 : decode cX11_token 289 = .ok (.iconst 3, 1) := by decide +kernel
theorem dX11_token_290 : decode cX11_token 290 = .ok (.goto 4, 3) := by decide +kernel
theorem dX11_token_293 : decode cX11_token 293 = .ok (.iconst 4, 1) := by decide +kernel
theorem dX11_token_294 : decode cX11_token 294 = .ok (.putfield 60, 3) := by decide +kernel
theorem dX11_token_297 : decode cX11_token 297 = .ok (.aload_n 0, 1) := by decide +kernel
theorem dX11_token_298 : decode cX11_token 298 = .ok (.dup, 1) := by decide +kernel
theorem dX11_token_299 : decode cX11_token 299 = .ok (.getfield 57, 3) := by decide +kernel
theorem dX11_token_302 : decode cX11_token 302 = .ok (.iconst 1, 1) := by decide +kernel
theorem dX11_token_303 : decode cX11_token 303 = .ok (.iadd, 1) := by decide +kernel
theorem dX11_token_304 : decode cX11_token 304 = .ok (.putfield 57, 3) := by decide +kernel
theorem dX11_token_307 : decode cX11_token 307 = .ok (.return_, 1) := by decide +kernel
theorem dX11_begin_0 : decode cX11_begin 0 = .ok (.aload_n 0, 1) := by decide +kernel
theorem dX11_begin_1 : decode cX11_begin 1 = .ok (.iconst 0, 1) := by decide +kernel
theorem dX11_begin_2 : decode cX11_begin 2 = .ok (.putfield 30, 3) := by decide +kernel
theorem dX11_begin_5 : decode cX11_begin 5 = .ok (.aload_n 0, 1) := by decide +kernel
theorem dX11_begin_6 : decode cX11_begin 6 = .ok (.iconst (-1), 1) := by decide +kernel
theorem dX11_begin_7 : decode cX11_begin 7 = .ok (.putfield 33, 3) := by decide +kernel
theorem dX11_begin_10 : decode cX11_begin 10 = .ok (.aload_n 0, 1) := by decide +kernel
theorem dX11_begin_11 : decode cX11_begin 11 = .ok (.iconst 0, 1) := by decide +kernel
theorem dX11_begin_12 : decode cX11_begin 12 = .ok (.putfield 57, 3) := by decide +kernel
theorem dX11_begin_15 : decode cX11_begin 15 = .ok (.aload_n 0, 1) := by decide +kernel
theorem dX11_begin_16 : decode cX11_begin 16 = .ok (.invokevirtual 185, 3) := by decide +kernel
theorem dX11_begin_19 : decode cX11_begin 19 = .ok (.return_, 1) := by decide +kernel
theorem dX11_wrong_0 : decode cX11_wrong 0 = .ok (.aload_n 0, 1) := by decide +kernel
theorem dX11_wrong_1 : decode cX11_wrong 1 = .ok (.iload_n 1, 1) := by decide +kernel
theorem dX11_wrong_2 : decode cX11_wrong 2 = .ok (.putfield 30, 3) := by decide +kernel
theorem dX11_wrong_5 : decode cX11_wrong 5 = .ok (.aload_n 0, 1) := by decide +kernel
theorem dX11_wrong_6 : decode cX11_wrong 6 = .ok (.aload_n 0, 1) := by decide +kernel
theorem dX11_wrong_7 : decode cX11_wrong 7 = .ok (.getfield 63, 3) := by decide +kernel
theorem dX11_wrong_10 : decode cX11_wrong 10 = .ok (.putfield 33, 3) := by decide +kernel
theorem dX11_wrong_13 : decode cX11_wrong 13 = .ok (.iconst 0, 1) := by decide +kernel
theorem dX11_wrong_14 : decode cX11_wrong 14 = .ok (.ireturn, 1) := by decide +kernel
theorem dX11_isWord_0 : decode cX11_isWord 0 = .ok (.aload_n 0, 1) := by decide +kernel
theorem dX11_isWord_1 : decode cX11_isWord 1 = .ok (.getfield 60, 3) := by decide +kernel
theorem dX11_isWord_4 : decode cX11_isWord 4 = .ok (.iconst 1, 1) := by decide +kernel
theorem dX11_isWord_5 : decode cX11_isWord 5 = .ok (.if_icmp .ne 19, 3) := by decide +kernel
theorem dX11_isWord_8 : decode cX11_isWord 8 = .ok (.aload_n 0, 1) := by decide +kernel
theorem dX11_isWord_9 : decode cX11_isWord 9 = .ok (.getfield 57, 3) := by decide +kernel
theorem dX11_isWord_12 : decode cX11_isWord 12 = .ok (.aload_n 0, 1) := by decide +kernel
theorem dX11_isWord_13 : decode cX11_isWord 13 = .ok (.getfield 63, 3) := by decide +kernel
theorem dX11_isWord_16 : decode cX11_isWord 16 = .ok (.isub, 1) := by decide +kernel
theorem dX11_isWord_17 : decode cX11_isWord 17 = .ok (.aload_n 1, 1) := by decide +kernel
theorem dX11_isWord_18 : decode cX11_isWord 18 = .ok (.invokevirtual 74, 3) := by decide +kernel
theorem dX11_isWord_21 : decode cX11_isWord 21 = .ok (.if_icmp .eq 5, 3) := by decide +kernel
theorem dX11_isWord_24 : decode cX11_isWord 24 = .ok (.iconst 0, 1) := by decide +kernel
theorem dX11_isWord_25 : decode cX11_isWord 25 = .ok (.ireturn, 1) := by decide +kernel
theorem dX11_isWord_26 : decode cX11_isWord 26 = .ok (.iconst 0, 1) := by decide +kernel
theorem dX11_isWord_27 : decode cX11_isWord 27 = .ok (.istore_n 2, 1) := by decide +kernel
theorem dX11_isWord_28 : decode cX11_isWord 28 = .ok (.iload_n 2, 1) := by decide +kernel
theorem dX11_isWord_29 : decode cX11_isWord 29 = .ok (.aload_n 1, 1) := by decide +kernel
theorem dX11_isWord_30 : decode cX11_isWord 30 = .ok (.invokevirtual 74, 3) := by decide +kernel
theorem dX11_isWord_33 : decode cX11_isWord 33 = .ok (.if_icmp .ge 30, 3) := by decide +kernel
theorem dX11_isWord_36 : decode cX11_isWord 36 = .ok (.aload_n 0, 1) := by decide +kernel
theorem dX11_isWord_37 : decode cX11_isWord 37 = .ok (.getfield 24, 3) := by decide +kernel
theorem dX11_isWord_40 : decode cX11_isWord 40 = .ok (.aload_n 0, 1) := by decide +kernel
theorem dX11_isWord_41 : decode cX11_isWord 41 = .ok (.getfield 63, 3) := by decide +kernel
theorem dX11_isWord_44 : decode cX11_isWord 44 = .ok (.iload_n 2, 1) := by decide +kernel
theorem dX11_isWord_45 : decode cX11_isWord 45 = .ok (.iadd, 1) := by decide +kernel
theorem dX11_isWord_46 : decode cX11_isWord 46 = .ok (.iaload, 1) := by decide +kernel
theorem dX11_isWord_47 : decode cX11_isWord 47 = .ok (.aload_n 1, 1) := by decide +kernel
theorem dX11_isWord_48 : decode cX11_isWord 48 = .ok (.iload_n 2, 1) := by decide +kernel
theorem dX11_isWord_49 : decode cX11_isWord 49 = .ok (.invokevirtual 79, 3) := by decide +kernel
theorem dX11_isWord_52 : decode cX11_isWord 52 = .ok (.if_icmp .eq 5, 3) := by decide +kernel
theorem dX11_isWord_55 : decode cX11_isWord 55 = .ok (.iconst 0, 1) := by decide +kernel
theorem dX11_isWord_56 : decode cX11_isWord 56 = .ok (.ireturn, 1) := by decide +kernel
theorem dX11_isWord_57 : decode cX11_isWord 57 = .ok (.iinc 2 1, 3) := by decide +kernel
theorem dX11_isWord_60 : decode cX11_isWord 60 = .ok (.goto (-32), 3) := by decide +kernel
theorem dX11_isWord_63 : decode cX11_isWord 63 = .ok (.iconst 1, 1) := by decide +kernel
theorem dX11_isWord_64 : decode cX11_isWord 64 = .ok (.ireturn, 1) := by decide +kernel
theorem dX11_semicolon_0 : decode cX11_semicolon 0 = .ok (.aload_n 0, 1) := by decide +kernel
theorem dX11_semicolon_1 : decode cX11_semicolon 1 = .ok (.getfield 60, 3) := by decide +kernel
theorem dX11_semicolon_4 : decode cX11_semicolon 4 = .ok (.iconst 3, 1) := by decide +kernel
theorem dX11_semicolon_5 : decode cX11_semicolon 5 = .ok (.if_icmp .eq 9, 3) := by decide +kernel
theorem dX11_semicolon_8 : decode cX11_semicolon 8 = .ok (.aload_n 0, 1) := by decide +kernel
theorem dX11_semicolon_9 : decode cX11_semicolon 9 = .ok (.iconst 1, 1) := by decide +kernel
theorem dX11_semicolon_10 : decode cX11_semicolon 10 = .ok (.invokevirtual 188, 3) := by decide +kernel
theorem dX11_semicolon_13 : decode cX11_semicolon 13 = .ok (.ireturn, 1) := by decide +kernel
theorem dX11_semicolon_14 : decode cX11_semicolon 14 = .ok (.aload_n 0, 1) := by decide +kernel
theorem dX11_semicolon_15 : decode cX11_semicolon 15 = .ok (.invokevirtual 185, 3) := by decide +kernel
theorem dX11_semicolon_18 : decode cX11_semicolon 18 = .ok (.iconst 1, 1) := by decide +kernel
theorem dX11_semicolon_19 : decode cX11_semicolon 19 = .ok (.ireturn, 1) := by decide +kernel
theorem dX11_isNamed_0 : decode cX11_isNamed 0 = .ok (.aload_n 0, 1) := by decide +kernel
theorem dX11_isNamed_1 : decode cX11_isNamed 1 = .ok (.getfield 13, 3) := by decide +kernel
theorem dX11_isNamed_4 : decode cX11_isNamed 4 = .ok (.iload_n 1, 1) := by decide +kernel
theorem dX11_isNamed_5 : decode cX11_isNamed 5 = .ok (.iaload, 1) := by decide +kernel
theorem dX11_isNamed_6 : decode cX11_isNamed 6 = .ok (.iload_n 3, 1) := by decide +kernel
theorem dX11_isNamed_7 : decode cX11_isNamed 7 = .ok (.if_icmp .eq 5, 3) := by decide +kernel
theorem dX11_isNamed_10 : decode cX11_isNamed 10 = .ok (.iconst 0, 1) := by decide +kernel
theorem dX11_isNamed_11 : decode cX11_isNamed 11 = .ok (.ireturn, 1) := by decide +kernel
theorem dX11_isNamed_12 : decode cX11_isNamed 12 = .ok (.iconst 0, 1) := by decide +kernel
theorem dX11_isNamed_13 : decode cX11_isNamed 13 = .ok (.istore 4, 2) := by decide +kernel
theorem dX11_isNamed_15 : decode cX11_isNamed 15 = .ok (.iload 4, 2) := by decide +kernel
theorem dX11_isNamed_17 : decode cX11_isNamed 17 = .ok (.iload_n 3, 1) := by decide +kernel
theorem dX11_isNamed_18 : decode cX11_isNamed 18 = .ok (.if_icmp .ge 34, 3) := by decide +kernel
theorem dX11_isNamed_21 : decode cX11_isNamed 21 = .ok (.aload_n 0, 1) := by decide +kernel
theorem dX11_isNamed_22 : decode cX11_isNamed 22 = .ok (.getfield 13, 3) := by decide +kernel
theorem dX11_isNamed_25 : decode cX11_isNamed 25 = .ok (.iload_n 1, 1) := by decide +kernel
theorem dX11_isNamed_26 : decode cX11_isNamed 26 = .ok (.iconst 1, 1) := by decide +kernel
theorem dX11_isNamed_27 : decode cX11_isNamed 27 = .ok (.iadd, 1) := by decide +kernel
theorem dX11_isNamed_28 : decode cX11_isNamed 28 = .ok (.iload 4, 2) := by decide +kernel
theorem dX11_isNamed_30 : decode cX11_isNamed 30 = .ok (.iadd, 1) := by decide +kernel
theorem dX11_isNamed_31 : decode cX11_isNamed 31 = .ok (.iaload, 1) := by decide +kernel
theorem dX11_isNamed_32 : decode cX11_isNamed 32 = .ok (.aload_n 0, 1) := by decide +kernel
theorem dX11_isNamed_33 : decode cX11_isNamed 33 = .ok (.getfield 24, 3) := by decide +kernel
theorem dX11_isNamed_36 : decode cX11_isNamed 36 = .ok (.iload_n 2, 1) := by decide +kernel
theorem dX11_isNamed_37 : decode cX11_isNamed 37 = .ok (.iload 4, 2) := by decide +kernel
theorem dX11_isNamed_39 : decode cX11_isNamed 39 = .ok (.iadd, 1) := by decide +kernel
theorem dX11_isNamed_40 : decode cX11_isNamed 40 = .ok (.iaload, 1) := by decide +kernel
theorem dX11_isNamed_41 : decode cX11_isNamed 41 = .ok (.if_icmp .eq 5, 3) := by decide +kernel
theorem dX11_isNamed_44 : decode cX11_isNamed 44 = .ok (.iconst 0, 1) := by decide +kernel
theorem dX11_isNamed_45 : decode cX11_isNamed 45 = .ok (.ireturn, 1) := by decide +kernel
theorem dX11_isNamed_46 : decode cX11_isNamed 46 = .ok (.iinc 4 1, 3) := by decide +kernel
theorem dX11_isNamed_49 : decode cX11_isNamed 49 = .ok (.goto (-34), 3) := by decide +kernel
theorem dX11_isNamed_52 : decode cX11_isNamed 52 = .ok (.iconst 1, 1) := by decide +kernel
theorem dX11_isNamed_53 : decode cX11_isNamed 53 = .ok (.ireturn, 1) := by decide +kernel
theorem dX11_pastureNamed_0 : decode cX11_pastureNamed 0 = .ok (.iconst 0, 1) := by decide +kernel
theorem dX11_pastureNamed_1 : decode cX11_pastureNamed 1 = .ok (.istore_n 3, 1) := by decide +kernel
theorem dX11_pastureNamed_2 : decode cX11_pastureNamed 2 = .ok (.iload_n 3, 1) := by decide +kernel
theorem dX11_pastureNamed_3 : decode cX11_pastureNamed 3 = .ok (.aload_n 0, 1) := by decide +kernel
theorem dX11_pastureNamed_4 : decode cX11_pastureNamed 4 = .ok (.getfield 13, 3) := by decide +kernel
theorem dX11_pastureNamed_7 : decode cX11_pastureNamed 7 = .ok (.iconst 0, 1) := by decide +kernel
theorem dX11_pastureNamed_8 : decode cX11_pastureNamed 8 = .ok (.iaload, 1) := by decide +kernel
theorem dX11_pastureNamed_9 : decode cX11_pastureNamed 9 = .ok (.if_icmp .ge 27, 3) := by decide +kernel
theorem dX11_pastureNamed_12 : decode cX11_pastureNamed 12 = .ok (.aload_n 0, 1) := by decide +kernel
theorem dX11_pastureNamed_13 : decode cX11_pastureNamed 13 = .ok (.bipush 16, 2) := by decide +kernel
theorem dX11_pastureNamed_15 : decode cX11_pastureNamed 15 = .ok (.iload_n 3, 1) := by decide +kernel
theorem dX11_pastureNamed_16 : decode cX11_pastureNamed 16 = .ok (.bipush 8, 2) := by decide +kernel
theorem dX11_pastureNamed_18 : decode cX11_pastureNamed 18 = .ok (.imul, 1) := by decide +kernel
theorem dX11_pastureNamed_19 : decode cX11_pastureNamed 19 = .ok (.iadd, 1) := by decide +kernel
theorem dX11_pastureNamed_20 : decode cX11_pastureNamed 20 = .ok (.iload_n 1, 1) := by decide +kernel
theorem dX11_pastureNamed_21 : decode cX11_pastureNamed 21 = .ok (.iload_n 2, 1) := by decide +kernel
theorem dX11_pastureNamed_22 : decode cX11_pastureNamed 22 = .ok (.invokevirtual 191, 3) := by decide +kernel
theorem dX11_pastureNamed_25 : decode cX11_pastureNamed 25 = .ok (.ifCond .eq 5, 3) := by decide +kernel
theorem dX11_pastureNamed_28 : decode cX11_pastureNamed 28 = .ok (.iload_n 3, 1) := by decide +kernel
theorem dX11_pastureNamed_29 : decode cX11_pastureNamed 29 = .ok (.ireturn, 1) := by decide +kernel
theorem dX11_pastureNamed_30 : decode cX11_pastureNamed 30 = .ok (.iinc 3 1, 3) := by decide +kernel
theorem dX11_pastureNamed_33 : decode cX11_pastureNamed 33 = .ok (.goto (-31), 3) := by decide +kernel
theorem dX11_pastureNamed_36 : decode cX11_pastureNamed 36 = .ok (.iconst (-1), 1) := by decide +kernel
theorem dX11_pastureNamed_37 : decode cX11_pastureNamed 37 = .ok (.ireturn, 1) := by decide +kernel
theorem dX11_herdNamed_0 : decode cX11_herdNamed 0 = .ok (.iconst 0, 1) := by decide +kernel
theorem dX11_herdNamed_1 : decode cX11_herdNamed 1 = .ok (.istore_n 3, 1) := by decide +kernel
theorem dX11_herdNamed_2 : decode cX11_herdNamed 2 = .ok (.iload_n 3, 1) := by decide +kernel
theorem dX11_herdNamed_3 : decode cX11_herdNamed 3 = .ok (.aload_n 0, 1) := by decide +kernel
theorem dX11_herdNamed_4 : decode cX11_herdNamed 4 = .ok (.getfield 13, 3) := by decide +kernel
theorem dX11_herdNamed_7 : decode cX11_herdNamed 7 = .ok (.iconst 1, 1) := by decide +kernel
theorem dX11_herdNamed_8 : decode cX11_herdNamed 8 = .ok (.iaload, 1) := by decide +kernel
theorem dX11_herdNamed_9 : decode cX11_herdNamed 9 = .ok (.if_icmp .ge 27, 3) := by decide +kernel
theorem dX11_herdNamed_12 : decode cX11_herdNamed 12 = .ok (.aload_n 0, 1) := by decide +kernel
theorem dX11_herdNamed_13 : decode cX11_herdNamed 13 = .ok (.bipush 56, 2) := by decide +kernel
theorem dX11_herdNamed_15 : decode cX11_herdNamed 15 = .ok (.iload_n 3, 1) := by decide +kernel
theorem dX11_herdNamed_16 : decode cX11_herdNamed 16 = .ok (.bipush 19, 2) := by decide +kernel
theorem dX11_herdNamed_18 : decode cX11_herdNamed 18 = .ok (.imul, 1) := by decide +kernel
theorem dX11_herdNamed_19 : decode cX11_herdNamed 19 = .ok (.iadd, 1) := by decide +kernel
theorem dX11_herdNamed_20 : decode cX11_herdNamed 20 = .ok (.iload_n 1, 1) := by decide +kernel
theorem dX11_herdNamed_21 : decode cX11_herdNamed 21 = .ok (.iload_n 2, 1) := by decide +kernel
theorem dX11_herdNamed_22 : decode cX11_herdNamed 22 = .ok (.invokevirtual 191, 3) := by decide +kernel
theorem dX11_herdNamed_25 : decode cX11_herdNamed 25 = .ok (.ifCond .eq 5, 3) := by decide +kernel
theorem dX11_herdNamed_28 : decode cX11_herdNamed 28 = .ok (.iload_n 3, 1) := by decide +kernel
theorem dX11_herdNamed_29 : decode cX11_herdNamed 29 = .ok (.ireturn, 1) := by decide +kernel
theorem dX11_herdNamed_30 : decode cX11_herdNamed 30 = .ok (.iinc 3 1, 3) := by decide +kernel
theorem dX11_herdNamed_33 : decode cX11_herdNamed 33 = .ok (.goto (-31), 3) := by decide +kernel
theorem dX11_herdNamed_36 : decode cX11_herdNamed 36 = .ok (.iconst (-1), 1) := by decide +kernel
theorem dX11_herdNamed_37 : decode cX11_herdNamed 37 = .ok (.ireturn, 1) := by decide +kernel
theorem dX11_isShortWord_0 : decode cX11_isShortWord 0 = .ok (.aload_n 0, 1) := by decide +kernel
theorem dX11_isShortWord_1 : decode cX11_isShortWord 1 = .ok (.getfield 60, 3) := by decide +kernel
theorem dX11_isShortWord_4 : decode cX11_isShortWord 4 = .ok (.iconst 1, 1) := by decide +kernel
theorem dX11_isShortWord_5 : decode cX11_isShortWord 5 = .ok (.if_icmp .eq 9, 3) := by decide +kernel
theorem dX11_isShortWord_8 : decode cX11_isShortWord 8 = .ok (.aload_n 0, 1) := by decide +kernel
theorem dX11_isShortWord_9 : decode cX11_isShortWord 9 = .ok (.iconst 1, 1) := by decide +kernel
theorem dX11_isShortWord_10 : decode cX11_isShortWord 10 = .ok (.invokevirtual 188, 3) := by decide +kernel
theorem dX11_isShortWord_13 : decode cX11_isShortWord 13 = .ok (.ireturn, 1) := by decide +kernel
theorem dX11_isShortWord_14 : decode cX11_isShortWord 14 = .ok (.aload_n 0, 1) := by decide +kernel
theorem dX11_isShortWord_15 : decode cX11_isShortWord 15 = .ok (.getfield 57, 3) := by decide +kernel
theorem dX11_isShortWord_18 : decode cX11_isShortWord 18 = .ok (.aload_n 0, 1) := by decide +kernel
theorem dX11_isShortWord_19 : decode cX11_isShortWord 19 = .ok (.getfield 63, 3) := by decide +kernel
theorem dX11_isShortWord_22 : decode cX11_isShortWord 22 = .ok (.isub, 1) := by decide +kernel
theorem dX11_isShortWord_23 : decode cX11_isShortWord 23 = .ok (.bipush 6, 2) := by decide +kernel
theorem dX11_isShortWord_25 : decode cX11_isShortWord 25 = .ok (.if_icmp .le 11, 3) := by decide +kernel
theorem dX11_isShortWord_28 : decode cX11_isShortWord 28 = .ok (.aload_n 0, 1) := by decide +kernel
theorem dX11_isShortWord_29 : decode cX11_isShortWord 29 = .ok (.iconst 3, 1) := by decide +kernel
theorem dX11_isShortWord_30 : decode cX11_isShortWord 30 = .ok (.invokevirtual 188, 3) := by decide +kernel
theorem dX11_isShortWord_33 : decode cX11_isShortWord 33 = .ok (.ifCond .eq 7, 3) := by decide +kernel
theorem dX11_isShortWord_36 : decode cX11_isShortWord 36 = .ok (.iconst 1, 1) := by decide +kernel
theorem dX11_isShortWord_37 : decode cX11_isShortWord 37 = .ok (.goto 4, 3) := by decide +kernel
theorem dX11_isShortWord_40 : decode cX11_isShortWord 40 = .ok (.iconst 0, 1) := by decide +kernel
theorem dX11_isShortWord_41 : decode cX11_isShortWord 41 = .ok (.ireturn, 1) := by decide +kernel
theorem dX11_parseRanged_0 : decode cX11_parseRanged 0 = .ok (.aload_n 0, 1) := by decide +kernel
theorem dX11_parseRanged_1 : decode cX11_parseRanged 1 = .ok (.getfield 60, 3) := by decide +kernel
theorem dX11_parseRanged_4 : decode cX11_parseRanged 4 = .ok (.iconst 2, 1) := by decide +kernel
theorem dX11_parseRanged_5 : decode cX11_parseRanged 5 = .ok (.if_icmp .eq 9, 3) := by decide +kernel
theorem dX11_parseRanged_8 : decode cX11_parseRanged 8 = .ok (.aload_n 0, 1) := by decide +kernel
theorem dX11_parseRanged_9 : decode cX11_parseRanged 9 = .ok (.iconst 1, 1) := by decide +kernel
theorem dX11_parseRanged_10 : decode cX11_parseRanged 10 = .ok (.invokevirtual 188, 3) := by decide +kernel
theorem dX11_parseRanged_13 : decode cX11_parseRanged 13 = .ok (.ireturn, 1) := by decide +kernel
theorem dX11_parseRanged_14 : decode cX11_parseRanged 14 = .ok (.aload_n 0, 1) := by decide +kernel
theorem dX11_parseRanged_15 : decode cX11_parseRanged 15 = .ok (.getfield 66, 3) := by decide +kernel
theorem dX11_parseRanged_18 : decode cX11_parseRanged 18 = .ok (.iload_n 2, 1) := by decide +kernel
theorem dX11_parseRanged_19 : decode cX11_parseRanged 19 = .ok (.iload_n 3, 1) := by decide +kernel
theorem dX11_parseRanged_20 : decode cX11_parseRanged 20 = .ok (.invokestatic 90, 3) := by decide +kernel
theorem dX11_parseRanged_23 : decode cX11_parseRanged 23 = .ok (.ifCond .ne 9, 3) := by decide +kernel
theorem dX11_parseRanged_26 : decode cX11_parseRanged 26 = .ok (.aload_n 0, 1) := by decide +kernel
theorem dX11_parseRanged_27 : decode cX11_parseRanged 27 = .ok (.iconst 2, 1) := by decide +kernel
theorem dX11_parseRanged_28 : decode cX11_parseRanged 28 = .ok (.invokevirtual 188, 3) := by decide +kernel
theorem dX11_parseRanged_31 : decode cX11_parseRanged 31 = .ok (.ireturn, 1) := by decide +kernel
theorem dX11_parseRanged_32 : decode cX11_parseRanged 32 = .ok (.aload_n 0, 1) := by decide +kernel
theorem dX11_parseRanged_33 : decode cX11_parseRanged 33 = .ok (.getfield 13, 3) := by decide +kernel
theorem dX11_parseRanged_36 : decode cX11_parseRanged 36 = .ok (.iload_n 1, 1) := by decide +kernel
theorem dX11_parseRanged_37 : decode cX11_parseRanged 37 = .ok (.aload_n 0, 1) := by decide +kernel
theorem dX11_parseRanged_38 : decode cX11_parseRanged 38 = .ok (.getfield 66, 3) := by decide +kernel
theorem dX11_parseRanged_41 : decode cX11_parseRanged 41 = .ok (.iastore, 1) := by decide +kernel
theorem dX11_parseRanged_42 : decode cX11_parseRanged 42 = .ok (.aload_n 0, 1) := by decide +kernel
theorem dX11_parseRanged_43 : decode cX11_parseRanged 43 = .ok (.invokevirtual 185, 3) := by decide +kernel
theorem dX11_parseRanged_46 : decode cX11_parseRanged 46 = .ok (.iconst 1, 1) := by decide +kernel
theorem dX11_parseRanged_47 : decode cX11_parseRanged 47 = .ok (.ireturn, 1) := by decide +kernel
theorem dX11_putName_0 : decode cX11_putName 0 = .ok (.aload_n 0, 1) := by decide +kernel
theorem dX11_putName_1 : decode cX11_putName 1 = .ok (.getfield 13, 3) := by decide +kernel
theorem dX11_putName_4 : decode cX11_putName 4 = .ok (.iload_n 1, 1) := by decide +kernel
theorem dX11_putName_5 : decode cX11_putName 5 = .ok (.aload_n 0, 1) := by decide +kernel
theorem dX11_putName_6 : decode cX11_putName 6 = .ok (.getfield 57, 3) := by decide +kernel
theorem dX11_putName_9 : decode cX11_putName 9 = .ok (.aload_n 0, 1) := by decide +kernel
theorem dX11_putName_10 : decode cX11_putName 10 = .ok (.getfield 63, 3) := by decide +kernel
theorem dX11_putName_13 : decode cX11_putName 13 = .ok (.isub, 1) := by decide +kernel
theorem dX11_putName_14 : decode cX11_putName 14 = .ok (.iastore, 1) := by decide +kernel
theorem dX11_putName_15 : decode cX11_putName 15 = .ok (.aload_n 0, 1) := by decide +kernel
theorem dX11_putName_16 : decode cX11_putName 16 = .ok (.getfield 63, 3) := by decide +kernel
theorem dX11_putName_19 : decode cX11_putName 19 = .ok (.istore_n 2, 1) := by decide +kernel
theorem dX11_putName_20 : decode cX11_putName 20 = .ok (.iload_n 2, 1) := by decide +kernel
theorem dX11_putName_21 : decode cX11_putName 21 = .ok (.aload_n 0, 1) := by decide +kernel
theorem dX11_putName_22 : decode cX11_putName 22 = .ok (.getfield 57, 3) := by decide +kernel
theorem dX11_putName_25 : decode cX11_putName 25 = .ok (.if_icmp .ge 30, 3) := by decide +kernel
theorem dX11_putName_28 : decode cX11_putName 28 = .ok (.aload_n 0, 1) := by decide +kernel
theorem dX11_putName_29 : decode cX11_putName 29 = .ok (.getfield 13, 3) := by decide +kernel
theorem dX11_putName_32 : decode cX11_putName 32 = .ok (.iload_n 1, 1) := by decide +kernel
theorem dX11_putName_33 : decode cX11_putName 33 = .ok (.iconst 1, 1) := by decide +kernel
theorem dX11_putName_34 : decode cX11_putName 34 = .ok (.iadd, 1) := by decide +kernel
theorem dX11_putName_35 : decode cX11_putName 35 = .ok (.iload_n 2, 1) := by decide +kernel
theorem dX11_putName_36 : decode cX11_putName 36 = .ok (.iadd, 1) := by decide +kernel
theorem dX11_putName_37 : decode cX11_putName 37 = .ok (.aload_n 0, 1) := by decide +kernel
theorem dX11_putName_38 : decode cX11_putName 38 = .ok (.getfield 63, 3) := by decide +kernel
theorem dX11_putName_41 : decode cX11_putName 41 = .ok (.isub, 1) := by decide +kernel
theorem dX11_putName_42 : decode cX11_putName 42 = .ok (.aload_n 0, 1) := by decide +kernel
theorem dX11_putName_43 : decode cX11_putName 43 = .ok (.getfield 24, 3) := by decide +kernel
theorem dX11_putName_46 : decode cX11_putName 46 = .ok (.iload_n 2, 1) := by decide +kernel
theorem dX11_putName_47 : decode cX11_putName 47 = .ok (.iaload, 1) := by decide +kernel
theorem dX11_putName_48 : decode cX11_putName 48 = .ok (.iastore, 1) := by decide +kernel
theorem dX11_putName_49 : decode cX11_putName 49 = .ok (.iinc 2 1, 3) := by decide +kernel
theorem dX11_putName_52 : decode cX11_putName 52 = .ok (.goto (-32), 3) := by decide +kernel
theorem dX11_putName_55 : decode cX11_putName 55 = .ok (.aload_n 0, 1) := by decide +kernel
theorem dX11_putName_56 : decode cX11_putName 56 = .ok (.invokevirtual 185, 3) := by decide +kernel
theorem dX11_putName_59 : decode cX11_putName 59 = .ok (.return_, 1) := by decide +kernel
theorem dX11_parsePasture_0 : decode cX11_parsePasture 0 = .ok (.aload_n 0, 1) := by decide +kernel
theorem dX11_parsePasture_1 : decode cX11_parsePasture 1 = .ok (.getfield 13, 3) := by decide +kernel
theorem dX11_parsePasture_4 : decode cX11_parsePasture 4 = .ok (.iconst 0, 1) := by decide +kernel
theorem dX11_parsePasture_5 : decode cX11_parsePasture 5 = .ok (.iaload, 1) := by decide +kernel
theorem dX11_parsePasture_6 : decode cX11_parsePasture 6 = .ok (.iconst 5, 1) := by decide +kernel
theorem dX11_parsePasture_7 : decode cX11_parsePasture 7 = .ok (.if_icmp .ne 9, 3) := by decide +kernel
theorem dX11_parsePasture_10 : decode cX11_parsePasture 10 = .ok (.aload_n 0, 1) := by decide +kernel
theorem dX11_parsePasture_11 : decode cX11_parsePasture 11 = .ok (.iconst 4, 1) := by decide +kernel
theorem dX11_parsePasture_12 : decode cX11_parsePasture 12 = .ok (.invokevirtual 188, 3) := by decide +kernel
theorem dX11_parsePasture_15 : decode cX11_parsePasture 15 = .ok (.ireturn, 1) := by decide +kernel
theorem dX11_parsePasture_16 : decode cX11_parsePasture 16 = .ok (.aload_n 0, 1) := by decide +kernel
theorem dX11_parsePasture_17 : decode cX11_parsePasture 17 = .ok (.invokevirtual 185, 3) := by decide +kernel
theorem dX11_parsePasture_20 : decode cX11_parsePasture 20 = .ok (.aload_n 0, 1) := by decide +kernel
theorem dX11_parsePasture_21 : decode cX11_parsePasture 21 = .ok (.invokevirtual 194, 3) := by decide +kernel
theorem dX11_parsePasture_24 : decode cX11_parsePasture 24 = .ok (.ifCond .ne 5, 3) := by decide +kernel
theorem dX11_parsePasture_27 : decode cX11_parsePasture 27 = .ok (.iconst 0, 1) := by decide +kernel
theorem dX11_parsePasture_28 : decode cX11_parsePasture 28 = .ok (.ireturn, 1) := by decide +kernel
theorem dX11_parsePasture_29 : decode cX11_parsePasture 29 = .ok (.aload_n 0, 1) := by decide +kernel
theorem dX11_parsePasture_30 : decode cX11_parsePasture 30 = .ok (.aload_n 0, 1) := by decide +kernel
theorem dX11_parsePasture_31 : decode cX11_parsePasture 31 = .ok (.getfield 63, 3) := by decide +kernel
theorem dX11_parsePasture_34 : decode cX11_parsePasture 34 = .ok (.aload_n 0, 1) := by decide +kernel
theorem dX11_parsePasture_35 : decode cX11_parsePasture 35 = .ok (.getfield 57, 3) := by decide +kernel
theorem dX11_parsePasture_38 : decode cX11_parsePasture 38 = .ok (.aload_n 0, 1) := by decide +kernel
theorem dX11_parsePasture_39 : decode cX11_parsePasture 39 = .ok (.getfield 63, 3) := by decide +kernel
theorem dX11_parsePasture_42 : decode cX11_parsePasture 42 = .ok (.isub, 1) := by decide +kernel
theorem dX11_parsePasture_43 : decode cX11_parsePasture 43 = .ok (.invokevirtual 197, 3) := by decide +kernel
theorem dX11_parsePasture_46 : decode cX11_parsePasture 46 = .ok (.iconst (-1), 1) := by decide +kernel
theorem dX11_parsePasture_47 : decode cX11_parsePasture 47 = .ok (.if_icmp .eq 9, 3) := by decide +kernel
theorem dX11_parsePasture_50 : decode cX11_parsePasture 50 = .ok (.aload_n 0, 1) := by decide +kernel
theorem dX11_parsePasture_51 : decode cX11_parsePasture 51 = .ok (.iconst 3, 1) := by decide +kernel
theorem dX11_parsePasture_52 : decode cX11_parsePasture 52 = .ok (.invokevirtual 188, 3) := by decide +kernel
theorem dX11_parsePasture_55 : decode cX11_parsePasture 55 = .ok (.ireturn, 1) := by decide +kernel
theorem dX11_parsePasture_56 : decode cX11_parsePasture 56 = .ok (.bipush 16, 2) := by decide +kernel
theorem dX11_parsePasture_58 : decode cX11_parsePasture 58 = .ok (.aload_n 0, 1) := by decide +kernel
theorem dX11_parsePasture_59 : decode cX11_parsePasture 59 = .ok (.getfield 13, 3) := by decide +kernel
theorem dX11_parsePasture_62 : decode cX11_parsePasture 62 = .ok (.iconst 0, 1) := by decide +kernel
theorem dX11_parsePasture_63 : decode cX11_parsePasture 63 = .ok (.iaload, 1) := by decide +kernel
theorem dX11_parsePasture_64 : decode cX11_parsePasture 64 = .ok (.bipush 8, 2) := by decide +kernel
theorem dX11_parsePasture_66 : decode cX11_parsePasture 66 = .ok (.imul, 1) := by decide +kernel
theorem dX11_parsePasture_67 : decode cX11_parsePasture 67 = .ok (.iadd, 1) := by decide +kernel
theorem dX11_parsePasture_68 : decode cX11_parsePasture 68 = .ok (.istore_n 1, 1) := by decide +kernel
theorem dX11_parsePasture_69 : decode cX11_parsePasture 69 = .ok (.aload_n 0, 1) := by decide +kernel
theorem dX11_parsePasture_70 : decode cX11_parsePasture 70 = .ok (.iload_n 1, 1) := by decide +kernel
theorem dX11_parsePasture_71 : decode cX11_parsePasture 71 = .ok (.invokevirtual 200, 3) := by decide +kernel
theorem dX11_parsePasture_74 : decode cX11_parsePasture 74 = .ok (.aload_n 0, 1) := by decide +kernel
theorem dX11_parsePasture_75 : decode cX11_parsePasture 75 = .ok (.iload_n 1, 1) := by decide +kernel
theorem dX11_parsePasture_76 : decode cX11_parsePasture 76 = .ok (.bipush 7, 2) := by decide +kernel
theorem dX11_parsePasture_78 : decode cX11_parsePasture 78 = .ok (.iadd, 1) := by decide +kernel
theorem dX11_parsePasture_79 : decode cX11_parsePasture 79 = .ok (.iconst 0, 1) := by decide +kernel
theorem dX11_parsePasture_80 : decode cX11_parsePasture 80 = .ok (.bipush 50, 2) := by decide +kernel
theorem dX11_parsePasture_82 : decode cX11_parsePasture 82 = .ok (.invokevirtual 203, 3) := by decide +kernel
theorem dX11_parsePasture_85 : decode cX11_parsePasture 85 = .ok (.ifCond .eq 10, 3) := by decide +kernel
theorem dX11_parsePasture_88 : decode cX11_parsePasture 88 = .ok (.aload_n 0, 1) := by decide +kernel
theorem dX11_parsePasture_89 : decode cX11_parsePasture 89 = .ok (.invokevirtual 206, 3) := by decide +kernel
theorem dX11_parsePasture_92 : decode cX11_parsePasture 92 = .ok (.ifCond .ne 5, 3) := by decide +kernel
theorem dX11_parsePasture_95 : decode cX11_parsePasture 95 = .ok (.iconst 0, 1) := by decide +kernel
theorem dX11_parsePasture_96 : decode cX11_parsePasture 96 = .ok (.ireturn, 1) := by decide +kernel
theorem dX11_parsePasture_97 : decode cX11_parsePasture 97 = .ok (.aload_n 0, 1) := by decide +kernel
theorem dX11_parsePasture_98 : decode cX11_parsePasture 98 = .ok (.getfield 13, 3) := by decide +kernel
theorem dX11_parsePasture_101 : decode cX11_parsePasture 101 = .ok (.iconst 0, 1) := by decide +kernel
theorem dX11_parsePasture_102 : decode cX11_parsePasture 102 = .ok (.dup2, 1) := by decide +kernel
theorem dX11_parsePasture_103 : decode cX11_parsePasture 103 = .ok (.iaload, 1) := by decide +kernel
theorem dX11_parsePasture_104 : decode cX11_parsePasture 104 = .ok (.iconst 1, 1) := by decide +kernel
theorem dX11_parsePasture_105 : decode cX11_parsePasture 105 = .ok (.iadd, 1) := by decide +kernel
theorem dX11_parsePasture_106 : decode cX11_parsePasture 106 = .ok (.iastore, 1) := by decide +kernel
theorem dX11_parsePasture_107 : decode cX11_parsePasture 107 = .ok (.iconst 1, 1) := by decide +kernel
theorem dX11_parsePasture_108 : decode cX11_parsePasture 108 = .ok (.ireturn, 1) := by decide +kernel
theorem dX11_parseHerd_0 : decode cX11_parseHerd 0 = .ok (.aload_n 0, 1) := by decide +kernel
theorem dX11_parseHerd_1 : decode cX11_parseHerd 1 = .ok (.getfield 13, 3) := by decide +kernel
theorem dX11_parseHerd_4 : decode cX11_parseHerd 4 = .ok (.iconst 1, 1) := by decide +kernel
theorem dX11_parseHerd_5 : decode cX11_parseHerd 5 = .ok (.iaload, 1) := by decide +kernel
theorem dX11_parseHerd_6 : decode cX11_parseHerd 6 = .ok (.bipush 8, 2) := by decide +kernel
theorem dX11_parseHerd_8 : decode cX11_parseHerd 8 = .ok (.if_icmp .ne 9, 3) := by decide +kernel
theorem dX11_parseHerd_11 : decode cX11_parseHerd 11 = .ok (.aload_n 0, 1) := by decide +kernel
theorem dX11_parseHerd_12 : decode cX11_parseHerd 12 = .ok (.iconst 4, 1) := by decide +kernel
theorem dX11_parseHerd_13 : decode cX11_parseHerd 13 = .ok (.invokevirtual 188, 3) := by decide +kernel
theorem dX11_parseHerd_16 : decode cX11_parseHerd 16 = .ok (.ireturn, 1) := by decide +kernel
theorem dX11_parseHerd_17 : decode cX11_parseHerd 17 = .ok (.aload_n 0, 1) := by decide +kernel
theorem dX11_parseHerd_18 : decode cX11_parseHerd 18 = .ok (.invokevirtual 185, 3) := by decide +kernel
theorem dX11_parseHerd_21 : decode cX11_parseHerd 21 = .ok (.aload_n 0, 1) := by decide +kernel
theorem dX11_parseHerd_22 : decode cX11_parseHerd 22 = .ok (.invokevirtual 194, 3) := by decide +kernel
theorem dX11_parseHerd_25 : decode cX11_parseHerd 25 = .ok (.ifCond .ne 5, 3) := by decide +kernel
theorem dX11_parseHerd_28 : decode cX11_parseHerd 28 = .ok (.iconst 0, 1) := by decide +kernel
theorem dX11_parseHerd_29 : decode cX11_parseHerd 29 = .ok (.ireturn, 1) := by decide +kernel
theorem dX11_parseHerd_30 : decode cX11_parseHerd 30 = .ok (.aload_n 0, 1) := by decide +kernel
theorem dX11_parseHerd_31 : decode cX11_parseHerd 31 = .ok (.aload_n 0, 1) := by decide +kernel
theorem dX11_parseHerd_32 : decode cX11_parseHerd 32 = .ok (.getfield 63, 3) := by decide +kernel
theorem dX11_parseHerd_35 : decode cX11_parseHerd 35 = .ok (.aload_n 0, 1) := by decide +kernel
theorem dX11_parseHerd_36 : decode cX11_parseHerd 36 = .ok (.getfield 57, 3) := by decide +kernel
theorem dX11_parseHerd_39 : decode cX11_parseHerd 39 = .ok (.aload_n 0, 1) := by decide +kernel
theorem dX11_parseHerd_40 : decode cX11_parseHerd 40 = .ok (.getfield 63, 3) := by decide +kernel
theorem dX11_parseHerd_43 : decode cX11_parseHerd 43 = .ok (.isub, 1) := by decide +kernel
theorem dX11_parseHerd_44 : decode cX11_parseHerd 44 = .ok (.invokevirtual 209, 3) := by decide +kernel
theorem dX11_parseHerd_47 : decode cX11_parseHerd 47 = .ok (.iconst (-1), 1) := by decide +kernel
theorem dX11_parseHerd_48 : decode cX11_parseHerd 48 = .ok (.if_icmp .eq 9, 3) := by decide +kernel
theorem dX11_parseHerd_51 : decode cX11_parseHerd 51 = .ok (.aload_n 0, 1) := by decide +kernel
theorem dX11_parseHerd_52 : decode cX11_parseHerd 52 = .ok (.iconst 3, 1) := by decide +kernel
theorem dX11_parseHerd_53 : decode cX11_parseHerd 53 = .ok (.invokevirtual 188, 3) := by decide +kernel
theorem dX11_parseHerd_56 : decode cX11_parseHerd 56 = .ok (.ireturn, 1) := by decide +kernel
theorem dX11_parseHerd_57 : decode cX11_parseHerd 57 = .ok (.bipush 56, 2) := by decide +kernel
theorem dX11_parseHerd_59 : decode cX11_parseHerd 59 = .ok (.aload_n 0, 1) := by decide +kernel
theorem dX11_parseHerd_60 : decode cX11_parseHerd 60 = .ok (.getfield 13, 3) := by decide +kernel
theorem dX11_parseHerd_63 : decode cX11_parseHerd 63 = .ok (.iconst 1, 1) := by decide +kernel
theorem dX11_parseHerd_64 : decode cX11_parseHerd 64 = .ok (.iaload, 1) := by decide +kernel
theorem dX11_parseHerd_65 : decode cX11_parseHerd 65 = .ok (.bipush 19, 2) := by decide +kernel
theorem dX11_parseHerd_67 : decode cX11_parseHerd 67 = .ok (.imul, 1) := by decide +kernel
theorem dX11_parseHerd_68 : decode cX11_parseHerd 68 = .ok (.iadd, 1) := by decide +kernel
theorem dX11_parseHerd_69 : decode cX11_parseHerd 69 = .ok (.istore_n 1, 1) := by decide +kernel
theorem dX11_parseHerd_70 : decode cX11_parseHerd 70 = .ok (.iconst 0, 1) := by decide +kernel
theorem dX11_parseHerd_71 : decode cX11_parseHerd 71 = .ok (.istore_n 2, 1) := by decide +kernel
theorem dX11_parseHerd_72 : decode cX11_parseHerd 72 = .ok (.iload_n 2, 1) := by decide +kernel
theorem dX11_parseHerd_73 : decode cX11_parseHerd 73 = .ok (.bipush 19, 2) := by decide +kernel
theorem dX11_parseHerd_75 : decode cX11_parseHerd 75 = .ok (.if_icmp .ge 18, 3) := by decide +kernel
theorem dX11_parseHerd_78 : decode cX11_parseHerd 78 = .ok (.aload_n 0, 1) := by decide +kernel
theorem dX11_parseHerd_79 : decode cX11_parseHerd 79 = .ok (.getfield 13, 3) := by decide +kernel
theorem dX11_parseHerd_82 : decode cX11_parseHerd 82 = .ok (.iload_n 1, 1) := by decide +kernel
theorem dX11_parseHerd_83 : decode cX11_parseHerd 83 = .ok (.iload_n 2, 1) := by decide +kernel
theorem dX11_parseHerd_84 : decode cX11_parseHerd 84 = .ok (.iadd, 1) := by decide +kernel
theorem dX11_parseHerd_85 : decode cX11_parseHerd 85 = .ok (.iconst 0, 1) := by decide +kernel
theorem dX11_parseHerd_86 : decode cX11_parseHerd 86 = .ok (.iastore, 1) := by decide +kernel
theorem dX11_parseHerd_87 : decode cX11_parseHerd 87 = .ok (.iinc 2 1, 3) := by decide +kernel
theorem dX11_parseHerd_90 : decode cX11_parseHerd 90 = .ok (.goto (-18), 3) := by decide +kernel
theorem dX11_parseHerd_93 : decode cX11_parseHerd 93 = .ok (.aload_n 0, 1) := by decide +kernel
theorem dX11_parseHerd_94 : decode cX11_parseHerd 94 = .ok (.getfield 13, 3) := by decide +kernel
theorem dX11_parseHerd_97 : decode cX11_parseHerd 97 = .ok (.iload_n 1, 1) := by decide +kernel
theorem dX11_parseHerd_98 : decode cX11_parseHerd 98 = .ok (.bipush 7, 2) := by decide +kernel
theorem dX11_parseHerd_100 : decode cX11_parseHerd 100 = .ok (.iadd, 1) := by decide +kernel
theorem dX11_parseHerd_101 : decode cX11_parseHerd 101 = .ok (.iconst (-1), 1) := by decide +kernel
theorem dX11_parseHerd_102 : decode cX11_parseHerd 102 = .ok (.iastore, 1) := by decide +kernel
theorem dX11_parseHerd_103 : decode cX11_parseHerd 103 = .ok (.aload_n 0, 1) := by decide +kernel
theorem dX11_parseHerd_104 : decode cX11_parseHerd 104 = .ok (.iload_n 1, 1) := by decide +kernel
theorem dX11_parseHerd_105 : decode cX11_parseHerd 105 = .ok (.invokevirtual 200, 3) := by decide +kernel
theorem dX11_parseHerd_108 : decode cX11_parseHerd 108 = .ok (.iconst 0, 1) := by decide +kernel
theorem dX11_parseHerd_109 : decode cX11_parseHerd 109 = .ok (.istore_n 2, 1) := by decide +kernel
theorem dX11_parseHerd_110 : decode cX11_parseHerd 110 = .ok (.iload_n 2, 1) := by decide +kernel
theorem dX11_parseHerd_111 : decode cX11_parseHerd 111 = .ok (.aload_n 0, 1) := by decide +kernel
theorem dX11_parseHerd_112 : decode cX11_parseHerd 112 = .ok (.getfield 13, 3) := by decide +kernel
theorem dX11_parseHerd_115 : decode cX11_parseHerd 115 = .ok (.iconst 0, 1) := by decide +kernel
theorem dX11_parseHerd_116 : decode cX11_parseHerd 116 = .ok (.iaload, 1) := by decide +kernel
theorem dX11_parseHerd_117 : decode cX11_parseHerd 117 = .ok (.if_icmp .ge 30, 3) := by decide +kernel
theorem dX11_parseHerd_120 : decode cX11_parseHerd 120 = .ok (.aload_n 0, 1) := by decide +kernel
theorem dX11_parseHerd_121 : decode cX11_parseHerd 121 = .ok (.iload_n 1, 1) := by decide +kernel
theorem dX11_parseHerd_122 : decode cX11_parseHerd 122 = .ok (.bipush 9, 2) := by decide +kernel
theorem dX11_parseHerd_124 : decode cX11_parseHerd 124 = .ok (.iadd, 1) := by decide +kernel
theorem dX11_parseHerd_125 : decode cX11_parseHerd 125 = .ok (.iload_n 2, 1) := by decide +kernel
theorem dX11_parseHerd_126 : decode cX11_parseHerd 126 = .ok (.iadd, 1) := by decide +kernel
theorem dX11_parseHerd_127 : decode cX11_parseHerd 127 = .ok (.iconst 0, 1) := by decide +kernel
theorem dX11_parseHerd_128 : decode cX11_parseHerd 128 = .ok (.aload_n 0, 1) := by decide +kernel
theorem dX11_parseHerd_129 : decode cX11_parseHerd 129 = .ok (.iload_n 2, 1) := by decide +kernel
theorem dX11_parseHerd_130 : decode cX11_parseHerd 130 = .ok (.invokevirtual 109, 3) := by decide +kernel
theorem dX11_parseHerd_133 : decode cX11_parseHerd 133 = .ok (.invokevirtual 203, 3) := by decide +kernel
theorem dX11_parseHerd_136 : decode cX11_parseHerd 136 = .ok (.ifCond .ne 5, 3) := by decide +kernel
theorem dX11_parseHerd_139 : decode cX11_parseHerd 139 = .ok (.iconst 0, 1) := by decide +kernel
theorem dX11_parseHerd_140 : decode cX11_parseHerd 140 = .ok (.ireturn, 1) := by decide +kernel
theorem dX11_parseHerd_141 : decode cX11_parseHerd 141 = .ok (.iinc 2 1, 3) := by decide +kernel
theorem dX11_parseHerd_144 : decode cX11_parseHerd 144 = .ok (.goto (-34), 3) := by decide +kernel
theorem dX11_parseHerd_147 : decode cX11_parseHerd 147 = .ok (.aload_n 0, 1) := by decide +kernel
theorem dX11_parseHerd_148 : decode cX11_parseHerd 148 = .ok (.invokevirtual 206, 3) := by decide +kernel
theorem dX11_parseHerd_151 : decode cX11_parseHerd 151 = .ok (.ifCond .ne 5, 3) := by decide +kernel
theorem dX11_parseHerd_154 : decode cX11_parseHerd 154 = .ok (.iconst 0, 1) := by decide +kernel
theorem dX11_parseHerd_155 : decode cX11_parseHerd 155 = .ok (.ireturn, 1) := by decide +kernel
theorem dX11_parseHerd_156 : decode cX11_parseHerd 156 = .ok (.aload_n 0, 1) := by decide +kernel
theorem dX11_parseHerd_157 : decode cX11_parseHerd 157 = .ok (.getfield 13, 3) := by decide +kernel
theorem dX11_parseHerd_160 : decode cX11_parseHerd 160 = .ok (.iconst 1, 1) := by decide +kernel
theorem dX11_parseHerd_161 : decode cX11_parseHerd 161 = .ok (.dup2, 1) := by decide +kernel
theorem dX11_parseHerd_162 : decode cX11_parseHerd 162 = .ok (.iaload, 1) := by decide +kernel
theorem dX11_parseHerd_163 : decode cX11_parseHerd 163 = .ok (.iconst 1, 1) := by decide +kernel
theorem dX11_parseHerd_164 : decode cX11_parseHerd 164 = .ok (.iadd, 1) := by decide +kernel
theorem dX11_parseHerd_165 : decode cX11_parseHerd 165 = .ok (.iastore, 1) := by decide +kernel
theorem dX11_parseHerd_166 : decode cX11_parseHerd 166 = .ok (.iconst 1, 1) := by decide +kernel
theorem dX11_parseHerd_167 : decode cX11_parseHerd 167 = .ok (.ireturn, 1) := by decide +kernel
theorem dX11_parseSetup_0 : decode cX11_parseSetup 0 = .ok (.iconst 0, 1) := by decide +kernel
theorem dX11_parseSetup_1 : decode cX11_parseSetup 1 = .ok (.istore_n 1, 1) := by decide +kernel
theorem dX11_parseSetup_2 : decode cX11_parseSetup 2 = .ok (.iload_n 1, 1) := by decide +kernel
theorem dX11_parseSetup_3 : decode cX11_parseSetup 3 = .ok (.sipush 272, 3) := by decide +kernel
theorem dX11_parseSetup_6 : decode cX11_parseSetup 6 = .ok (.if_icmp .ge 16, 3) := by decide +kernel
theorem dX11_parseSetup_9 : decode cX11_parseSetup 9 = .ok (.aload_n 0, 1) := by decide +kernel
theorem dX11_parseSetup_10 : decode cX11_parseSetup 10 = .ok (.getfield 13, 3) := by decide +kernel
theorem dX11_parseSetup_13 : decode cX11_parseSetup 13 = .ok (.iload_n 1, 1) := by decide +kernel
theorem dX11_parseSetup_14 : decode cX11_parseSetup 14 = .ok (.iconst 0, 1) := by decide +kernel
theorem dX11_parseSetup_15 : decode cX11_parseSetup 15 = .ok (.iastore, 1) := by decide +kernel
theorem dX11_parseSetup_16 : decode cX11_parseSetup 16 = .ok (.iinc 1 1, 3) := by decide +kernel
theorem dX11_parseSetup_19 : decode cX11_parseSetup 19 = .ok (.goto (-17), 3) := by decide +kernel
theorem dX11_parseSetup_22 : decode cX11_parseSetup 22 = .ok (.aload_n 0, 1) := by decide +kernel
theorem dX11_parseSetup_23 : decode cX11_parseSetup 23 = .ok (.ldc 212, 2) := by decide +kernel
theorem dX11_parseSetup_25 : decode cX11_parseSetup 25 = .ok (.invokevirtual 214, 3) := by decide +kernel
theorem dX11_parseSetup_28 : decode cX11_parseSetup 28 = .ok (.ifCond .ne 9, 3) := by decide +kernel
theorem dX11_parseSetup_31 : decode cX11_parseSetup 31 = .ok (.aload_n 0, 1) := by decide +kernel
theorem dX11_parseSetup_32 : decode cX11_parseSetup 32 = .ok (.iconst 1, 1) := by decide +kernel
theorem dX11_parseSetup_33 : decode cX11_parseSetup 33 = .ok (.invokevirtual 188, 3) := by decide +kernel
theorem dX11_parseSetup_36 : decode cX11_parseSetup 36 = .ok (.ireturn, 1) := by decide +kernel
theorem dX11_parseSetup_37 : decode cX11_parseSetup 37 = .ok (.aload_n 0, 1) := by decide +kernel
theorem dX11_parseSetup_38 : decode cX11_parseSetup 38 = .ok (.invokevirtual 185, 3) := by decide +kernel
theorem dX11_parseSetup_41 : decode cX11_parseSetup 41 = .ok (.aload_n 0, 1) := by decide +kernel
theorem dX11_parseSetup_42 : decode cX11_parseSetup 42 = .ok (.invokevirtual 206, 3) := by decide +kernel
theorem dX11_parseSetup_45 : decode cX11_parseSetup 45 = .ok (.ifCond .ne 5, 3) := by decide +kernel
theorem dX11_parseSetup_48 : decode cX11_parseSetup 48 = .ok (.iconst 0, 1) := by decide +kernel
theorem dX11_parseSetup_49 : decode cX11_parseSetup 49 = .ok (.ireturn, 1) := by decide +kernel
theorem dX11_parseSetup_50 : decode cX11_parseSetup 50 = .ok (.aload_n 0, 1) := by decide +kernel
theorem dX11_parseSetup_51 : decode cX11_parseSetup 51 = .ok (.ldc 218, 2) := by decide +kernel
theorem dX11_parseSetup_53 : decode cX11_parseSetup 53 = .ok (.invokevirtual 214, 3) := by decide +kernel
theorem dX11_parseSetup_56 : decode cX11_parseSetup 56 = .ok (.ifCond .ne 9, 3) := by decide +kernel
theorem dX11_parseSetup_59 : decode cX11_parseSetup 59 = .ok (.aload_n 0, 1) := by decide +kernel
theorem dX11_parseSetup_60 : decode cX11_parseSetup 60 = .ok (.iconst 1, 1) := by decide +kernel
theorem dX11_parseSetup_61 : decode cX11_parseSetup 61 = .ok (.invokevirtual 188, 3) := by decide +kernel
theorem dX11_parseSetup_64 : decode cX11_parseSetup 64 = .ok (.ireturn, 1) := by decide +kernel
theorem dX11_parseSetup_65 : decode cX11_parseSetup 65 = .ok (.aload_n 0, 1) := by decide +kernel
theorem dX11_parseSetup_66 : decode cX11_parseSetup 66 = .ok (.ldc 218, 2) := by decide +kernel
theorem dX11_parseSetup_68 : decode cX11_parseSetup 68 = .ok (.invokevirtual 214, 3) := by decide +kernel
theorem dX11_parseSetup_71 : decode cX11_parseSetup 71 = .ok (.ifCond .eq 12, 3) := by decide +kernel
theorem dX11_parseSetup_74 : decode cX11_parseSetup 74 = .ok (.aload_n 0, 1) := by decide +kernel
theorem dX11_parseSetup_75 : decode cX11_parseSetup 75 = .ok (.invokevirtual 220, 3) := by decide +kernel
theorem dX11_parseSetup_78 : decode cX11_parseSetup 78 = .ok (.ifCond .ne (-13), 3) := by decide +kernel
theorem dX11_parseSetup_81 : decode cX11_parseSetup 81 = .ok (.iconst 0, 1) := by decide +kernel
theorem dX11_parseSetup_82 : decode cX11_parseSetup 82 = .ok (.ireturn, 1) := by decide +kernel
theorem dX11_parseSetup_83 : decode cX11_parseSetup 83 = .ok (.aload_n 0, 1) := by decide +kernel
theorem dX11_parseSetup_84 : decode cX11_parseSetup 84 = .ok (.ldc 223, 2) := by decide +kernel
theorem dX11_parseSetup_86 : decode cX11_parseSetup 86 = .ok (.invokevirtual 214, 3) := by decide +kernel
theorem dX11_parseSetup_89 : decode cX11_parseSetup 89 = .ok (.ifCond .ne 9, 3) := by decide +kernel
theorem dX11_parseSetup_92 : decode cX11_parseSetup 92 = .ok (.aload_n 0, 1) := by decide +kernel
theorem dX11_parseSetup_93 : decode cX11_parseSetup 93 = .ok (.iconst 1, 1) := by decide +kernel
theorem dX11_parseSetup_94 : decode cX11_parseSetup 94 = .ok (.invokevirtual 188, 3) := by decide +kernel
theorem dX11_parseSetup_97 : decode cX11_parseSetup 97 = .ok (.ireturn, 1) := by decide +kernel
theorem dX11_parseSetup_98 : decode cX11_parseSetup 98 = .ok (.aload_n 0, 1) := by decide +kernel
theorem dX11_parseSetup_99 : decode cX11_parseSetup 99 = .ok (.ldc 223, 2) := by decide +kernel
theorem dX11_parseSetup_101 : decode cX11_parseSetup 101 = .ok (.invokevirtual 214, 3) := by decide +kernel
theorem dX11_parseSetup_104 : decode cX11_parseSetup 104 = .ok (.ifCond .eq 12, 3) := by decide +kernel
theorem dX11_parseSetup_107 : decode cX11_parseSetup 107 = .ok (.aload_n 0, 1) := by decide +kernel
theorem dX11_parseSetup_108 : decode cX11_parseSetup 108 = .ok (.invokevirtual 225, 3) := by decide +kernel
theorem dX11_parseSetup_111 : decode cX11_parseSetup 111 = .ok (.ifCond .ne (-13), 3) := by decide +kernel
theorem dX11_parseSetup_114 : decode cX11_parseSetup 114 = .ok (.iconst 0, 1) := by decide +kernel
theorem dX11_parseSetup_115 : decode cX11_parseSetup 115 = .ok (.ireturn, 1) := by decide +kernel
theorem dX11_parseSetup_116 : decode cX11_parseSetup 116 = .ok (.aload_n 0, 1) := by decide +kernel
theorem dX11_parseSetup_117 : decode cX11_parseSetup 117 = .ok (.getfield 60, 3) := by decide +kernel
theorem dX11_parseSetup_120 : decode cX11_parseSetup 120 = .ok (.ifCond .eq 11, 3) := by decide +kernel
theorem dX11_parseSetup_123 : decode cX11_parseSetup 123 = .ok (.aload_n 0, 1) := by decide +kernel
theorem dX11_parseSetup_124 : decode cX11_parseSetup 124 = .ok (.iconst 1, 1) := by decide +kernel
theorem dX11_parseSetup_125 : decode cX11_parseSetup 125 = .ok (.invokevirtual 188, 3) := by decide +kernel
theorem dX11_parseSetup_128 : decode cX11_parseSetup 128 = .ok (.ifCond .eq 7, 3) := by decide +kernel
theorem dX11_parseSetup_131 : decode cX11_parseSetup 131 = .ok (.iconst 1, 1) := by decide +kernel
theorem dX11_parseSetup_132 : decode cX11_parseSetup 132 = .ok (.goto 4, 3) := by decide +kernel
theorem dX11_parseSetup_135 : decode cX11_parseSetup 135 = .ok (.iconst 0, 1) := by decide +kernel
theorem dX11_parseSetup_136 : decode cX11_parseSetup 136 = .ok (.ireturn, 1) := by decide +kernel
theorem dX11_load_0 : decode cX11_load 0 = .ok (.aload_n 0, 1) := by decide +kernel
theorem dX11_load_1 : decode cX11_load 1 = .ok (.iconst 0, 1) := by decide +kernel
theorem dX11_load_2 : decode cX11_load 2 = .ok (.bipush 9, 2) := by decide +kernel
theorem dX11_load_4 : decode cX11_load 4 = .ok (.invokevirtual 101, 3) := by decide +kernel
theorem dX11_load_7 : decode cX11_load 7 = .ok (.aload_n 0, 1) := by decide +kernel
theorem dX11_load_8 : decode cX11_load 8 = .ok (.invokevirtual 83, 3) := by decide +kernel
theorem dX11_load_11 : decode cX11_load 11 = .ok (.aload_n 0, 1) := by decide +kernel
theorem dX11_load_12 : decode cX11_load 12 = .ok (.invokevirtual 86, 3) := by decide +kernel
theorem dX11_load_15 : decode cX11_load 15 = .ok (.istore_n 1, 1) := by decide +kernel
theorem dX11_load_16 : decode cX11_load 16 = .ok (.aload_n 0, 1) := by decide +kernel
theorem dX11_load_17 : decode cX11_load 17 = .ok (.iconst 0, 1) := by decide +kernel
theorem dX11_load_18 : decode cX11_load 18 = .ok (.putfield 27, 3) := by decide +kernel
theorem dX11_load_21 : decode cX11_load 21 = .ok (.iload_n 1, 1) := by decide +kernel
theorem dX11_load_22 : decode cX11_load 22 = .ok (.ifCond .ne 10, 3) := by decide +kernel
theorem dX11_load_25 : decode cX11_load 25 = .ok (.aload_n 0, 1) := by decide +kernel
theorem dX11_load_26 : decode cX11_load 26 = .ok (.bipush 9, 2) := by decide +kernel
theorem dX11_load_28 : decode cX11_load 28 = .ok (.iconst 0, 1) := by decide +kernel
theorem dX11_load_29 : decode cX11_load 29 = .ok (.invokevirtual 101, 3) := by decide +kernel
theorem dX11_load_32 : decode cX11_load 32 = .ok (.aload_n 0, 1) := by decide +kernel
theorem dX11_load_33 : decode cX11_load 33 = .ok (.iload_n 1, 1) := by decide +kernel
theorem dX11_load_34 : decode cX11_load 34 = .ok (.ifCond .ne 7, 3) := by decide +kernel
theorem dX11_load_37 : decode cX11_load 37 = .ok (.iconst 1, 1) := by decide +kernel
theorem dX11_load_38 : decode cX11_load 38 = .ok (.goto 4, 3) := by decide +kernel
theorem dX11_load_41 : decode cX11_load 41 = .ok (.iconst 0, 1) := by decide +kernel
theorem dX11_load_42 : decode cX11_load 42 = .ok (.iconst 0, 1) := by decide +kernel
theorem dX11_load_43 : decode cX11_load 43 = .ok (.iconst 0, 1) := by decide +kernel
theorem dX11_load_44 : decode cX11_load 44 = .ok (.invokevirtual 172, 3) := by decide +kernel
theorem dX11_load_47 : decode cX11_load 47 = .ok (.ifCond .eq 5, 3) := by decide +kernel
theorem dX11_load_50 : decode cX11_load 50 = .ok (.iconst 0, 1) := by decide +kernel
theorem dX11_load_51 : decode cX11_load 51 = .ok (.ireturn, 1) := by decide +kernel
theorem dX11_load_52 : decode cX11_load 52 = .ok (.aload_n 0, 1) := by decide +kernel
theorem dX11_load_53 : decode cX11_load 53 = .ok (.iconst 0, 1) := by decide +kernel
theorem dX11_load_54 : decode cX11_load 54 = .ok (.putfield 21, 3) := by decide +kernel
theorem dX11_load_57 : decode cX11_load 57 = .ok (.aload_n 0, 1) := by decide +kernel
theorem dX11_load_58 : decode cX11_load 58 = .ok (.getfield 17, 3) := by decide +kernel
theorem dX11_load_61 : decode cX11_load 61 = .ok (.iconst 0, 1) := by decide +kernel
theorem dX11_load_62 : decode cX11_load 62 = .ok (.iconst 0, 1) := by decide +kernel
theorem dX11_load_63 : decode cX11_load 63 = .ok (.bastore, 1) := by decide +kernel
theorem dX11_load_64 : decode cX11_load 64 = .ok (.aload_n 0, 1) := by decide +kernel
theorem dX11_load_65 : decode cX11_load 65 = .ok (.getfield 17, 3) := by decide +kernel
theorem dX11_load_68 : decode cX11_load 68 = .ok (.iconst 1, 1) := by decide +kernel
theorem dX11_load_69 : decode cX11_load 69 = .ok (.iconst 0, 1) := by decide +kernel
theorem dX11_load_70 : decode cX11_load 70 = .ok (.bastore, 1) := by decide +kernel
theorem dX11_load_71 : decode cX11_load 71 = .ok (.aload_n 0, 1) := by decide +kernel
theorem dX11_load_72 : decode cX11_load 72 = .ok (.getfield 13, 3) := by decide +kernel
theorem dX11_load_75 : decode cX11_load 75 = .ok (.iconst 1, 1) := by decide +kernel
theorem dX11_load_76 : decode cX11_load 76 = .ok (.iaload, 1) := by decide +kernel
theorem dX11_load_77 : decode cX11_load 77 = .ok (.ireturn, 1) := by decide +kernel
theorem dX11_nameOf_0 : decode cX11_nameOf 0 = .ok (.iload_n 0, 1) := by decide +kernel
theorem dX11_nameOf_1 : decode cX11_nameOf 1 = .ok (.tableswitch 57 0 5 #[39, 42, 45, 48, 51, 54], 39) := by decide +kernel
theorem dX11_nameOf_40 : decode cX11_nameOf 40 = .ok (.ldc 228, 2) := by decide +kernel
theorem dX11_nameOf_42 : decode cX11_nameOf 42 = .ok (.areturn, 1) := by decide +kernel
theorem dX11_nameOf_43 : decode cX11_nameOf 43 = .ok (.ldc 230, 2) := by decide +kernel
theorem dX11_nameOf_45 : decode cX11_nameOf 45 = .ok (.areturn, 1) := by decide +kernel
theorem dX11_nameOf_46 : decode cX11_nameOf 46 = .ok (.ldc 232, 2) := by decide +kernel
theorem dX11_nameOf_48 : decode cX11_nameOf 48 = .ok (.areturn, 1) := by decide +kernel
theorem dX11_nameOf_49 : decode cX11_nameOf 49 = .ok (.ldc 234, 2) := by decide +kernel
theorem dX11_nameOf_51 : decode cX11_nameOf 51 = .ok (.areturn, 1) := by decide +kernel
theorem dX11_nameOf_52 : decode cX11_nameOf 52 = .ok (.ldc 236, 2) := by decide +kernel
theorem dX11_nameOf_54 : decode cX11_nameOf 54 = .ok (.areturn, 1) := by decide +kernel
theorem dX11_nameOf_55 : decode cX11_nameOf 55 = .ok (.ldc 238, 2) := by decide +kernel
theorem dX11_nameOf_57 : decode cX11_nameOf 57 = .ok (.areturn, 1) := by decide +kernel
theorem dX11_nameOf_58 : decode cX11_nameOf 58 = .ok (.ldc 240, 2) := by decide +kernel
theorem dX11_nameOf_60 : decode cX11_nameOf 60 = .ok (.areturn, 1) := by decide +kernel
theorem dX11_commandHere_0 : decode cX11_commandHere 0 = .ok (.iconst 0, 1) := by decide +kernel
theorem dX11_commandHere_1 : decode cX11_commandHere 1 = .ok (.istore_n 1, 1) := by decide +kernel
theorem dX11_commandHere_2 : decode cX11_commandHere 2 = .ok (.iload_n 1, 1) := by decide +kernel
theorem dX11_commandHere_3 : decode cX11_commandHere 3 = .ok (.bipush 6, 2) := by decide +kernel
theorem dX11_commandHere_5 : decode cX11_commandHere 5 = .ok (.if_icmp .gt 22, 3) := by decide +kernel
theorem dX11_commandHere_8 : decode cX11_commandHere 8 = .ok (.aload_n 0, 1) := by decide +kernel
theorem dX11_commandHere_9 : decode cX11_commandHere 9 = .ok (.iload_n 1, 1) := by decide +kernel
theorem dX11_commandHere_10 : decode cX11_commandHere 10 = .ok (.invokestatic 242, 3) := by decide +kernel
theorem dX11_commandHere_13 : decode cX11_commandHere 13 = .ok (.invokevirtual 214, 3) := by decide +kernel
theorem dX11_commandHere_16 : decode cX11_commandHere 16 = .ok (.ifCond .eq 5, 3) := by decide +kernel
theorem dX11_commandHere_19 : decode cX11_commandHere 19 = .ok (.iload_n 1, 1) := by decide +kernel
theorem dX11_commandHere_20 : decode cX11_commandHere 20 = .ok (.ireturn, 1) := by decide +kernel
theorem dX11_commandHere_21 : decode cX11_commandHere 21 = .ok (.iinc 1 1, 3) := by decide +kernel
theorem dX11_commandHere_24 : decode cX11_commandHere 24 = .ok (.goto (-22), 3) := by decide +kernel
theorem dX11_commandHere_27 : decode cX11_commandHere 27 = .ok (.iconst (-1), 1) := by decide +kernel
theorem dX11_commandHere_28 : decode cX11_commandHere 28 = .ok (.ireturn, 1) := by decide +kernel
theorem dX11_parseNumber_0 : decode cX11_parseNumber 0 = .ok (.aload_n 0, 1) := by decide +kernel
theorem dX11_parseNumber_1 : decode cX11_parseNumber 1 = .ok (.getfield 60, 3) := by decide +kernel
theorem dX11_parseNumber_4 : decode cX11_parseNumber 4 = .ok (.iconst 2, 1) := by decide +kernel
theorem dX11_parseNumber_5 : decode cX11_parseNumber 5 = .ok (.if_icmp .eq 9, 3) := by decide +kernel
theorem dX11_parseNumber_8 : decode cX11_parseNumber 8 = .ok (.aload_n 0, 1) := by decide +kernel
theorem dX11_parseNumber_9 : decode cX11_parseNumber 9 = .ok (.iconst 1, 1) := by decide +kernel
theorem dX11_parseNumber_10 : decode cX11_parseNumber 10 = .ok (.invokevirtual 188, 3) := by decide +kernel
theorem dX11_parseNumber_13 : decode cX11_parseNumber 13 = .ok (.ireturn, 1) := by decide +kernel
theorem dX11_parseNumber_14 : decode cX11_parseNumber 14 = .ok (.aload_n 0, 1) := by decide +kernel
theorem dX11_parseNumber_15 : decode cX11_parseNumber 15 = .ok (.getfield 69, 3) := by decide +kernel
theorem dX11_parseNumber_18 : decode cX11_parseNumber 18 = .ok (.iload_n 1, 1) := by decide +kernel
theorem dX11_parseNumber_19 : decode cX11_parseNumber 19 = .ok (.aload_n 0, 1) := by decide +kernel
theorem dX11_parseNumber_20 : decode cX11_parseNumber 20 = .ok (.getfield 66, 3) := by decide +kernel
theorem dX11_parseNumber_23 : decode cX11_parseNumber 23 = .ok (.iastore, 1) := by decide +kernel
theorem dX11_parseNumber_24 : decode cX11_parseNumber 24 = .ok (.aload_n 0, 1) := by decide +kernel
theorem dX11_parseNumber_25 : decode cX11_parseNumber 25 = .ok (.invokevirtual 185, 3) := by decide +kernel
theorem dX11_parseNumber_28 : decode cX11_parseNumber 28 = .ok (.iconst 1, 1) := by decide +kernel
theorem dX11_parseNumber_29 : decode cX11_parseNumber 29 = .ok (.ireturn, 1) := by decide +kernel
theorem dX11_parseNamed_0 : decode cX11_parseNamed 0 = .ok (.aload_n 0, 1) := by decide +kernel
theorem dX11_parseNamed_1 : decode cX11_parseNamed 1 = .ok (.invokevirtual 194, 3) := by decide +kernel
theorem dX11_parseNamed_4 : decode cX11_parseNamed 4 = .ok (.ifCond .ne 5, 3) := by decide +kernel
theorem dX11_parseNamed_7 : decode cX11_parseNamed 7 = .ok (.iconst 0, 1) := by decide +kernel
theorem dX11_parseNamed_8 : decode cX11_parseNamed 8 = .ok (.ireturn, 1) := by decide +kernel
theorem dX11_parseNamed_9 : decode cX11_parseNamed 9 = .ok (.aload_n 0, 1) := by decide +kernel
theorem dX11_parseNamed_10 : decode cX11_parseNamed 10 = .ok (.getfield 69, 3) := by decide +kernel
theorem dX11_parseNamed_13 : decode cX11_parseNamed 13 = .ok (.iload_n 1, 1) := by decide +kernel
theorem dX11_parseNamed_14 : decode cX11_parseNamed 14 = .ok (.iload_n 2, 1) := by decide +kernel
theorem dX11_parseNamed_15 : decode cX11_parseNamed 15 = .ok (.ifCond .eq 23, 3) := by decide +kernel
theorem dX11_parseNamed_18 : decode cX11_parseNamed 18 = .ok (.aload_n 0, 1) := by decide +kernel
theorem dX11_parseNamed_19 : decode cX11_parseNamed 19 = .ok (.aload_n 0, 1) := by decide +kernel
theorem dX11_parseNamed_20 : decode cX11_parseNamed 20 = .ok (.getfield 63, 3) := by decide +kernel
theorem dX11_parseNamed_23 : decode cX11_parseNamed 23 = .ok (.aload_n 0, 1) := by decide +kernel
theorem dX11_parseNamed_24 : decode cX11_parseNamed 24 = .ok (.getfield 57, 3) := by decide +kernel
theorem dX11_parseNamed_27 : decode cX11_parseNamed 27 = .ok (.aload_n 0, 1) := by decide +kernel
theorem dX11_parseNamed_28 : decode cX11_parseNamed 28 = .ok (.getfield 63, 3) := by decide +kernel
theorem dX11_parseNamed_31 : decode cX11_parseNamed 31 = .ok (.isub, 1) := by decide +kernel
theorem dX11_parseNamed_32 : decode cX11_parseNamed 32 = .ok (.invokevirtual 209, 3) := by decide +kernel
theorem dX11_parseNamed_35 : decode cX11_parseNamed 35 = .ok (.goto 20, 3) := by decide +kernel
theorem dX11_parseNamed_38 : decode cX11_parseNamed 38 = .ok (.aload_n 0, 1) := by decide +kernel
theorem dX11_parseNamed_39 : decode cX11_parseNamed 39 = .ok (.aload_n 0, 1) := by decide +kernel
theorem dX11_parseNamed_40 : decode cX11_parseNamed 40 = .ok (.getfield 63, 3) := by decide +kernel
theorem dX11_parseNamed_43 : decode cX11_parseNamed 43 = .ok (.aload_n 0, 1) := by decide +kernel
theorem dX11_parseNamed_44 : decode cX11_parseNamed 44 = .ok (.getfield 57, 3) := by decide +kernel
theorem dX11_parseNamed_47 : decode cX11_parseNamed 47 = .ok (.aload_n 0, 1) := by decide +kernel
theorem dX11_parseNamed_48 : decode cX11_parseNamed 48 = .ok (.getfield 63, 3) := by decide +kernel
theorem dX11_parseNamed_51 : decode cX11_parseNamed 51 = .ok (.isub, 1) := by decide +kernel
theorem dX11_parseNamed_52 : decode cX11_parseNamed 52 = .ok (.invokevirtual 197, 3) := by decide +kernel
theorem dX11_parseNamed_55 : decode cX11_parseNamed 55 = .ok (.iastore, 1) := by decide +kernel
theorem dX11_parseNamed_56 : decode cX11_parseNamed 56 = .ok (.aload_n 0, 1) := by decide +kernel
theorem dX11_parseNamed_57 : decode cX11_parseNamed 57 = .ok (.getfield 69, 3) := by decide +kernel
theorem dX11_parseNamed_60 : decode cX11_parseNamed 60 = .ok (.iload_n 1, 1) := by decide +kernel
theorem dX11_parseNamed_61 : decode cX11_parseNamed 61 = .ok (.iaload, 1) := by decide +kernel
theorem dX11_parseNamed_62 : decode cX11_parseNamed 62 = .ok (.iconst (-1), 1) := by decide +kernel
theorem dX11_parseNamed_63 : decode cX11_parseNamed 63 = .ok (.if_icmp .ne 9, 3) := by decide +kernel
theorem dX11_parseNamed_66 : decode cX11_parseNamed 66 = .ok (.aload_n 0, 1) := by decide +kernel
theorem dX11_parseNamed_67 : decode cX11_parseNamed 67 = .ok (.iconst 3, 1) := by decide +kernel
theorem dX11_parseNamed_68 : decode cX11_parseNamed 68 = .ok (.invokevirtual 188, 3) := by decide +kernel
theorem dX11_parseNamed_71 : decode cX11_parseNamed 71 = .ok (.ireturn, 1) := by decide +kernel
theorem dX11_parseNamed_72 : decode cX11_parseNamed 72 = .ok (.aload_n 0, 1) := by decide +kernel
theorem dX11_parseNamed_73 : decode cX11_parseNamed 73 = .ok (.invokevirtual 185, 3) := by decide +kernel
theorem dX11_parseNamed_76 : decode cX11_parseNamed 76 = .ok (.iconst 1, 1) := by decide +kernel
theorem dX11_parseNamed_77 : decode cX11_parseNamed 77 = .ok (.ireturn, 1) := by decide +kernel
theorem dX11_parseArguments_0 : decode cX11_parseArguments 0 = .ok (.iload_n 1, 1) := by decide +kernel
theorem dX11_parseArguments_1 : decode cX11_parseArguments 1 = .ok (.tableswitch 140 0 6 #[43, 43, 140, 140, 79, 79, 115], 43) := by decide +kernel
theorem dX11_parseArguments_44 : decode cX11_parseArguments 44 = .ok (.aload_n 0, 1) := by decide +kernel
theorem dX11_parseArguments_45 : decode cX11_parseArguments 45 = .ok (.iload_n 2, 1) := by decide +kernel
theorem dX11_parseArguments_46 : decode cX11_parseArguments 46 = .ok (.iconst 1, 1) := by decide +kernel
theorem dX11_parseArguments_47 : decode cX11_parseArguments 47 = .ok (.invokevirtual 246, 3) := by decide +kernel
theorem dX11_parseArguments_50 : decode cX11_parseArguments 50 = .ok (.ifCond .eq 28, 3) := by decide +kernel
theorem dX11_parseArguments_53 : decode cX11_parseArguments 53 = .ok (.aload_n 0, 1) := by decide +kernel
theorem dX11_parseArguments_54 : decode cX11_parseArguments 54 = .ok (.iload_n 2, 1) := by decide +kernel
theorem dX11_parseArguments_55 : decode cX11_parseArguments 55 = .ok (.iconst 1, 1) := by decide +kernel
theorem dX11_parseArguments_56 : decode cX11_parseArguments 56 = .ok (.iadd, 1) := by decide +kernel
theorem dX11_parseArguments_57 : decode cX11_parseArguments 57 = .ok (.iconst 0, 1) := by decide +kernel
theorem dX11_parseArguments_58 : decode cX11_parseArguments 58 = .ok (.invokevirtual 246, 3) := by decide +kernel
theorem dX11_parseArguments_61 : decode cX11_parseArguments 61 = .ok (.ifCond .eq 17, 3) := by decide +kernel
theorem dX11_parseArguments_64 : decode cX11_parseArguments 64 = .ok (.aload_n 0, 1) := by decide +kernel
theorem dX11_parseArguments_65 : decode cX11_parseArguments 65 = .ok (.iload_n 2, 1) := by decide +kernel
theorem dX11_parseArguments_66 : decode cX11_parseArguments 66 = .ok (.iconst 2, 1) := by decide +kernel
theorem dX11_parseArguments_67 : decode cX11_parseArguments 67 = .ok (.iadd, 1) := by decide +kernel
theorem dX11_parseArguments_68 : decode cX11_parseArguments 68 = .ok (.invokevirtual 250, 3) := by decide +kernel
theorem dX11_parseArguments_71 : decode cX11_parseArguments 71 = .ok (.ifCond .eq 7, 3) := by decide +kernel
theorem dX11_parseArguments_74 : decode cX11_parseArguments 74 = .ok (.iconst 1, 1) := by decide +kernel
theorem dX11_parseArguments_75 : decode cX11_parseArguments 75 = .ok (.goto 4, 3) := by decide +kernel
theorem dX11_parseArguments_78 : decode cX11_parseArguments 78 = .ok (.iconst 0, 1) := by decide +kernel
theorem dX11_parseArguments_79 : decode cX11_parseArguments 79 = .ok (.ireturn, 1) := by decide +kernel
theorem dX11_parseArguments_80 : decode cX11_parseArguments 80 = .ok (.aload_n 0, 1) := by decide +kernel
theorem dX11_parseArguments_81 : decode cX11_parseArguments 81 = .ok (.iload_n 2, 1) := by decide +kernel
theorem dX11_parseArguments_82 : decode cX11_parseArguments 82 = .ok (.iconst 1, 1) := by decide +kernel
theorem dX11_parseArguments_83 : decode cX11_parseArguments 83 = .ok (.invokevirtual 246, 3) := by decide +kernel
theorem dX11_parseArguments_86 : decode cX11_parseArguments 86 = .ok (.ifCond .eq 28, 3) := by decide +kernel
theorem dX11_parseArguments_89 : decode cX11_parseArguments 89 = .ok (.aload_n 0, 1) := by decide +kernel
theorem dX11_parseArguments_90 : decode cX11_parseArguments 90 = .ok (.iload_n 2, 1) := by decide +kernel
theorem dX11_parseArguments_91 : decode cX11_parseArguments 91 = .ok (.iconst 1, 1) := by decide +kernel
theorem dX11_parseArguments_92 : decode cX11_parseArguments 92 = .ok (.iadd, 1) := by decide +kernel
theorem dX11_parseArguments_93 : decode cX11_parseArguments 93 = .ok (.iconst 1, 1) := by decide +kernel
theorem dX11_parseArguments_94 : decode cX11_parseArguments 94 = .ok (.invokevirtual 246, 3) := by decide +kernel
theorem dX11_parseArguments_97 : decode cX11_parseArguments 97 = .ok (.ifCond .eq 17, 3) := by decide +kernel
theorem dX11_parseArguments_100 : decode cX11_parseArguments 100 = .ok (.aload_n 0, 1) := by decide +kernel
theorem dX11_parseArguments_101 : decode cX11_parseArguments 101 = .ok (.iload_n 2, 1) := by decide +kernel
theorem dX11_parseArguments_102 : decode cX11_parseArguments 102 = .ok (.iconst 2, 1) := by decide +kernel
theorem dX11_parseArguments_103 : decode cX11_parseArguments 103 = .ok (.iadd, 1) := by decide +kernel
theorem dX11_parseArguments_104 : decode cX11_parseArguments 104 = .ok (.invokevirtual 250, 3) := by decide +kernel
theorem dX11_parseArguments_107 : decode cX11_parseArguments 107 = .ok (.ifCond .eq 7, 3) := by decide +kernel
theorem dX11_parseArguments_110 : decode cX11_parseArguments 110 = .ok (.iconst 1, 1) := by decide +kernel
theorem dX11_parseArguments_111 : decode cX11_parseArguments 111 = .ok (.goto 4, 3) := by decide +kernel
theorem dX11_parseArguments_114 : decode cX11_parseArguments 114 = .ok (.iconst 0, 1) := by decide +kernel
theorem dX11_parseArguments_115 : decode cX11_parseArguments 115 = .ok (.ireturn, 1) := by decide +kernel
theorem dX11_parseArguments_116 : decode cX11_parseArguments 116 = .ok (.aload_n 0, 1) := by decide +kernel
theorem dX11_parseArguments_117 : decode cX11_parseArguments 117 = .ok (.iload_n 2, 1) := by decide +kernel
theorem dX11_parseArguments_118 : decode cX11_parseArguments 118 = .ok (.iconst 0, 1) := by decide +kernel
theorem dX11_parseArguments_119 : decode cX11_parseArguments 119 = .ok (.invokevirtual 246, 3) := by decide +kernel
theorem dX11_parseArguments_122 : decode cX11_parseArguments 122 = .ok (.ifCond .eq 17, 3) := by decide +kernel
theorem dX11_parseArguments_125 : decode cX11_parseArguments 125 = .ok (.aload_n 0, 1) := by decide +kernel
theorem dX11_parseArguments_126 : decode cX11_parseArguments 126 = .ok (.iload_n 2, 1) := by decide +kernel
theorem dX11_parseArguments_127 : decode cX11_parseArguments 127 = .ok (.iconst 2, 1) := by decide +kernel
theorem dX11_parseArguments_128 : decode cX11_parseArguments 128 = .ok (.iadd, 1) := by decide +kernel
theorem dX11_parseArguments_129 : decode cX11_parseArguments 129 = .ok (.invokevirtual 250, 3) := by decide +kernel
theorem dX11_parseArguments_132 : decode cX11_parseArguments 132 = .ok (.ifCond .eq 7, 3) := by decide +kernel
theorem dX11_parseArguments_135 : decode cX11_parseArguments 135 = .ok (.iconst 1, 1) := by decide +kernel
theorem dX11_parseArguments_136 : decode cX11_parseArguments 136 = .ok (.goto 4, 3) := by decide +kernel
theorem dX11_parseArguments_139 : decode cX11_parseArguments 139 = .ok (.iconst 0, 1) := by decide +kernel
theorem dX11_parseArguments_140 : decode cX11_parseArguments 140 = .ok (.ireturn, 1) := by decide +kernel
theorem dX11_parseArguments_141 : decode cX11_parseArguments 141 = .ok (.aload_n 0, 1) := by decide +kernel
theorem dX11_parseArguments_142 : decode cX11_parseArguments 142 = .ok (.iload_n 2, 1) := by decide +kernel
theorem dX11_parseArguments_143 : decode cX11_parseArguments 143 = .ok (.iconst 1, 1) := by decide +kernel
theorem dX11_parseArguments_144 : decode cX11_parseArguments 144 = .ok (.invokevirtual 246, 3) := by decide +kernel
theorem dX11_parseArguments_147 : decode cX11_parseArguments 147 = .ok (.ireturn, 1) := by decide +kernel
theorem dX11_parseScript_0 : decode cX11_parseScript 0 = .ok (.iconst 0, 1) := by decide +kernel
theorem dX11_parseScript_1 : decode cX11_parseScript 1 = .ok (.istore_n 1, 1) := by decide +kernel
theorem dX11_parseScript_2 : decode cX11_parseScript 2 = .ok (.aload_n 0, 1) := by decide +kernel
theorem dX11_parseScript_3 : decode cX11_parseScript 3 = .ok (.getfield 60, 3) := by decide +kernel
theorem dX11_parseScript_6 : decode cX11_parseScript 6 = .ok (.ifCond .eq 88, 3) := by decide +kernel
theorem dX11_parseScript_9 : decode cX11_parseScript 9 = .ok (.aload_n 0, 1) := by decide +kernel
theorem dX11_parseScript_10 : decode cX11_parseScript 10 = .ok (.invokevirtual 253, 3) := by decide +kernel
theorem dX11_parseScript_13 : decode cX11_parseScript 13 = .ok (.istore_n 2, 1) := by decide +kernel
theorem dX11_parseScript_14 : decode cX11_parseScript 14 = .ok (.iload_n 2, 1) := by decide +kernel
theorem dX11_parseScript_15 : decode cX11_parseScript 15 = .ok (.iconst (-1), 1) := by decide +kernel
theorem dX11_parseScript_16 : decode cX11_parseScript 16 = .ok (.if_icmp .eq 25, 3) := by decide +kernel
theorem dX11_parseScript_19 : decode cX11_parseScript 19 = .ok (.iload_n 1, 1) := by decide +kernel
theorem dX11_parseScript_20 : decode cX11_parseScript 20 = .ok (.bipush 30, 2) := by decide +kernel
theorem dX11_parseScript_22 : decode cX11_parseScript 22 = .ok (.if_icmp .lt 11, 3) := by decide +kernel
theorem dX11_parseScript_25 : decode cX11_parseScript 25 = .ok (.aload_n 0, 1) := by decide +kernel
theorem dX11_parseScript_26 : decode cX11_parseScript 26 = .ok (.iconst 4, 1) := by decide +kernel
theorem dX11_parseScript_27 : decode cX11_parseScript 27 = .ok (.invokevirtual 188, 3) := by decide +kernel
theorem dX11_parseScript_30 : decode cX11_parseScript 30 = .ok (.ifCond .eq 7, 3) := by decide +kernel
theorem dX11_parseScript_33 : decode cX11_parseScript 33 = .ok (.iconst 1, 1) := by decide +kernel
theorem dX11_parseScript_34 : decode cX11_parseScript 34 = .ok (.goto 12, 3) := by decide +kernel
theorem dX11_parseScript_37 : decode cX11_parseScript 37 = .ok (.iconst 0, 1) := by decide +kernel
theorem dX11_parseScript_38 : decode cX11_parseScript 38 = .ok (.goto 8, 3) := by decide +kernel
theorem dX11_parseScript_41 : decode cX11_parseScript 41 = .ok (.aload_n 0, 1) := by decide +kernel
theorem dX11_parseScript_42 : decode cX11_parseScript 42 = .ok (.iconst 1, 1) := by decide +kernel
theorem dX11_parseScript_43 : decode cX11_parseScript 43 = .ok (.invokevirtual 188, 3) := by decide +kernel
theorem dX11_parseScript_46 : decode cX11_parseScript 46 = .ok (.istore_n 3, 1) := by decide +kernel
theorem dX11_parseScript_47 : decode cX11_parseScript 47 = .ok (.iload_n 3, 1) := by decide +kernel
theorem dX11_parseScript_48 : decode cX11_parseScript 48 = .ok (.ifCond .ne 5, 3) := by decide +kernel
theorem dX11_parseScript_51 : decode cX11_parseScript 51 = .ok (.iconst (-1), 1) := by decide +kernel
theorem dX11_parseScript_52 : decode cX11_parseScript 52 = .ok (.ireturn, 1) := by decide +kernel
theorem dX11_parseScript_53 : decode cX11_parseScript 53 = .ok (.aload_n 0, 1) := by decide +kernel
theorem dX11_parseScript_54 : decode cX11_parseScript 54 = .ok (.invokevirtual 185, 3) := by decide +kernel
theorem dX11_parseScript_57 : decode cX11_parseScript 57 = .ok (.aload_n 0, 1) := by decide +kernel
theorem dX11_parseScript_58 : decode cX11_parseScript 58 = .ok (.getfield 69, 3) := by decide +kernel
theorem dX11_parseScript_61 : decode cX11_parseScript 61 = .ok (.iload_n 1, 1) := by decide +kernel
theorem dX11_parseScript_62 : decode cX11_parseScript 62 = .ok (.iconst 4, 1) := by decide +kernel
theorem dX11_parseScript_63 : decode cX11_parseScript 63 = .ok (.imul, 1) := by decide +kernel
theorem dX11_parseScript_64 : decode cX11_parseScript 64 = .ok (.iload_n 2, 1) := by decide +kernel
theorem dX11_parseScript_65 : decode cX11_parseScript 65 = .ok (.iastore, 1) := by decide +kernel
theorem dX11_parseScript_66 : decode cX11_parseScript 66 = .ok (.aload_n 0, 1) := by decide +kernel
theorem dX11_parseScript_67 : decode cX11_parseScript 67 = .ok (.iload_n 2, 1) := by decide +kernel
theorem dX11_parseScript_68 : decode cX11_parseScript 68 = .ok (.iload_n 1, 1) := by decide +kernel
theorem dX11_parseScript_69 : decode cX11_parseScript 69 = .ok (.iconst 4, 1) := by decide +kernel
theorem dX11_parseScript_70 : decode cX11_parseScript 70 = .ok (.imul, 1) := by decide +kernel
theorem dX11_parseScript_71 : decode cX11_parseScript 71 = .ok (.iconst 1, 1) := by decide +kernel
theorem dX11_parseScript_72 : decode cX11_parseScript 72 = .ok (.iadd, 1) := by decide +kernel
theorem dX11_parseScript_73 : decode cX11_parseScript 73 = .ok (.invokevirtual 256, 3) := by decide +kernel
theorem dX11_parseScript_76 : decode cX11_parseScript 76 = .ok (.ifCond .eq 10, 3) := by decide +kernel
theorem dX11_parseScript_79 : decode cX11_parseScript 79 = .ok (.aload_n 0, 1) := by decide +kernel
theorem dX11_parseScript_80 : decode cX11_parseScript 80 = .ok (.invokevirtual 206, 3) := by decide +kernel
theorem dX11_parseScript_83 : decode cX11_parseScript 83 = .ok (.ifCond .ne 5, 3) := by decide +kernel
theorem dX11_parseScript_86 : decode cX11_parseScript 86 = .ok (.iconst (-1), 1) := by decide +kernel
theorem dX11_parseScript_87 : decode cX11_parseScript 87 = .ok (.ireturn, 1) := by decide +kernel
theorem dX11_parseScript_88 : decode cX11_parseScript 88 = .ok (.iinc 1 1, 3) := by decide +kernel
theorem dX11_parseScript_91 : decode cX11_parseScript 91 = .ok (.goto (-89), 3) := by decide +kernel
theorem dX11_parseScript_94 : decode cX11_parseScript 94 = .ok (.iload_n 1, 1) := by decide +kernel
theorem dX11_parseScript_95 : decode cX11_parseScript 95 = .ok (.ireturn, 1) := by decide +kernel
theorem dX11_canDo_0 : decode cX11_canDo 0 = .ok (.iload_n 1, 1) := by decide +kernel
theorem dX11_canDo_1 : decode cX11_canDo 1 = .ok (.tableswitch 172 0 5 #[39, 75, 106, 108, 114, 143], 39) := by decide +kernel
theorem dX11_canDo_40 : decode cX11_canDo 40 = .ok (.iload 4, 2) := by decide +kernel
theorem dX11_canDo_42 : decode cX11_canDo 42 = .ok (.iconst 1, 1) := by decide +kernel
theorem dX11_canDo_43 : decode cX11_canDo 43 = .ok (.bipush 50, 2) := by decide +kernel
theorem dX11_canDo_45 : decode cX11_canDo 45 = .ok (.invokestatic 90, 3) := by decide +kernel
theorem dX11_canDo_48 : decode cX11_canDo 48 = .ok (.ifCond .eq 26, 3) := by decide +kernel
theorem dX11_canDo_51 : decode cX11_canDo 51 = .ok (.aload_n 0, 1) := by decide +kernel
theorem dX11_canDo_52 : decode cX11_canDo 52 = .ok (.iload_n 2, 1) := by decide +kernel
theorem dX11_canDo_53 : decode cX11_canDo 53 = .ok (.invokevirtual 132, 3) := by decide +kernel
theorem dX11_canDo_56 : decode cX11_canDo 56 = .ok (.ifCond .ne 18, 3) := by decide +kernel
theorem dX11_canDo_59 : decode cX11_canDo 59 = .ok (.iload 4, 2) := by decide +kernel
theorem dX11_canDo_61 : decode cX11_canDo 61 = .ok (.aload_n 0, 1) := by decide +kernel
theorem dX11_canDo_62 : decode cX11_canDo 62 = .ok (.iload_n 2, 1) := by decide +kernel
theorem dX11_canDo_63 : decode cX11_canDo 63 = .ok (.iload_n 3, 1) := by decide +kernel
theorem dX11_canDo_64 : decode cX11_canDo 64 = .ok (.invokevirtual 119, 3) := by decide +kernel
theorem dX11_canDo_67 : decode cX11_canDo 67 = .ok (.if_icmp .gt 7, 3) := by decide +kernel
theorem dX11_canDo_70 : decode cX11_canDo 70 = .ok (.iconst 1, 1) := by decide +kernel
theorem dX11_canDo_71 : decode cX11_canDo 71 = .ok (.goto 4, 3) := by decide +kernel
theorem dX11_canDo_74 : decode cX11_canDo 74 = .ok (.iconst 0, 1) := by decide +kernel
theorem dX11_canDo_75 : decode cX11_canDo 75 = .ok (.ireturn, 1) := by decide +kernel
theorem dX11_canDo_76 : decode cX11_canDo 76 = .ok (.iload 4, 2) := by decide +kernel
theorem dX11_canDo_78 : decode cX11_canDo 78 = .ok (.iconst 1, 1) := by decide +kernel
theorem dX11_canDo_79 : decode cX11_canDo 79 = .ok (.bipush 50, 2) := by decide +kernel
theorem dX11_canDo_81 : decode cX11_canDo 81 = .ok (.invokestatic 90, 3) := by decide +kernel
theorem dX11_canDo_84 : decode cX11_canDo 84 = .ok (.ifCond .eq 21, 3) := by decide +kernel
theorem dX11_canDo_87 : decode cX11_canDo 87 = .ok (.iload 4, 2) := by decide +kernel
theorem dX11_canDo_89 : decode cX11_canDo 89 = .ok (.aload_n 0, 1) := by decide +kernel
theorem dX11_canDo_90 : decode cX11_canDo 90 = .ok (.iload_n 2, 1) := by decide +kernel
theorem dX11_canDo_91 : decode cX11_canDo 91 = .ok (.bipush 14, 2) := by decide +kernel
theorem dX11_canDo_93 : decode cX11_canDo 93 = .ok (.iload_n 3, 1) := by decide +kernel
theorem dX11_canDo_94 : decode cX11_canDo 94 = .ok (.iadd, 1) := by decide +kernel
theorem dX11_canDo_95 : decode cX11_canDo 95 = .ok (.invokevirtual 105, 3) := by decide +kernel
theorem dX11_canDo_98 : decode cX11_canDo 98 = .ok (.if_icmp .gt 7, 3) := by decide +kernel
theorem dX11_canDo_101 : decode cX11_canDo 101 = .ok (.iconst 1, 1) := by decide +kernel
theorem dX11_canDo_102 : decode cX11_canDo 102 = .ok (.goto 4, 3) := by decide +kernel
theorem dX11_canDo_105 : decode cX11_canDo 105 = .ok (.iconst 0, 1) := by decide +kernel
theorem dX11_canDo_106 : decode cX11_canDo 106 = .ok (.ireturn, 1) := by decide +kernel
theorem dX11_canDo_107 : decode cX11_canDo 107 = .ok (.iconst 1, 1) := by decide +kernel
theorem dX11_canDo_108 : decode cX11_canDo 108 = .ok (.ireturn, 1) := by decide +kernel
theorem dX11_canDo_109 : decode cX11_canDo 109 = .ok (.aload_n 0, 1) := by decide +kernel
theorem dX11_canDo_110 : decode cX11_canDo 110 = .ok (.iload_n 2, 1) := by decide +kernel
theorem dX11_canDo_111 : decode cX11_canDo 111 = .ok (.invokevirtual 132, 3) := by decide +kernel
theorem dX11_canDo_114 : decode cX11_canDo 114 = .ok (.ireturn, 1) := by decide +kernel
theorem dX11_canDo_115 : decode cX11_canDo 115 = .ok (.iload 4, 2) := by decide +kernel
theorem dX11_canDo_117 : decode cX11_canDo 117 = .ok (.iconst 1, 1) := by decide +kernel
theorem dX11_canDo_118 : decode cX11_canDo 118 = .ok (.sipush 999, 3) := by decide +kernel
theorem dX11_canDo_121 : decode cX11_canDo 121 = .ok (.invokestatic 90, 3) := by decide +kernel
theorem dX11_canDo_124 : decode cX11_canDo 124 = .ok (.ifCond .eq 18, 3) := by decide +kernel
theorem dX11_canDo_127 : decode cX11_canDo 127 = .ok (.aload_n 0, 1) := by decide +kernel
theorem dX11_canDo_128 : decode cX11_canDo 128 = .ok (.iload_n 2, 1) := by decide +kernel
theorem dX11_canDo_129 : decode cX11_canDo 129 = .ok (.iload_n 3, 1) := by decide +kernel
theorem dX11_canDo_130 : decode cX11_canDo 130 = .ok (.iload 4, 2) := by decide +kernel
theorem dX11_canDo_132 : decode cX11_canDo 132 = .ok (.invokevirtual 260, 3) := by decide +kernel
theorem dX11_canDo_135 : decode cX11_canDo 135 = .ok (.ifCond .eq 7, 3) := by decide +kernel
theorem dX11_canDo_138 : decode cX11_canDo 138 = .ok (.iconst 1, 1) := by decide +kernel
theorem dX11_canDo_139 : decode cX11_canDo 139 = .ok (.goto 4, 3) := by decide +kernel
theorem dX11_canDo_142 : decode cX11_canDo 142 = .ok (.iconst 0, 1) := by decide +kernel
theorem dX11_canDo_143 : decode cX11_canDo 143 = .ok (.ireturn, 1) := by decide +kernel
theorem dX11_canDo_144 : decode cX11_canDo 144 = .ok (.iload 4, 2) := by decide +kernel
theorem dX11_canDo_146 : decode cX11_canDo 146 = .ok (.iconst 1, 1) := by decide +kernel
theorem dX11_canDo_147 : decode cX11_canDo 147 = .ok (.sipush 999, 3) := by decide +kernel
theorem dX11_canDo_150 : decode cX11_canDo 150 = .ok (.invokestatic 90, 3) := by decide +kernel
theorem dX11_canDo_153 : decode cX11_canDo 153 = .ok (.ifCond .eq 18, 3) := by decide +kernel
theorem dX11_canDo_156 : decode cX11_canDo 156 = .ok (.iload 4, 2) := by decide +kernel
theorem dX11_canDo_158 : decode cX11_canDo 158 = .ok (.aload_n 0, 1) := by decide +kernel
theorem dX11_canDo_159 : decode cX11_canDo 159 = .ok (.iload_n 2, 1) := by decide +kernel
theorem dX11_canDo_160 : decode cX11_canDo 160 = .ok (.iload_n 3, 1) := by decide +kernel
theorem dX11_canDo_161 : decode cX11_canDo 161 = .ok (.invokevirtual 163, 3) := by decide +kernel
theorem dX11_canDo_164 : decode cX11_canDo 164 = .ok (.if_icmp .gt 7, 3) := by decide +kernel
theorem dX11_canDo_167 : decode cX11_canDo 167 = .ok (.iconst 1, 1) := by decide +kernel
theorem dX11_canDo_168 : decode cX11_canDo 168 = .ok (.goto 4, 3) := by decide +kernel
theorem dX11_canDo_171 : decode cX11_canDo 171 = .ok (.iconst 0, 1) := by decide +kernel
theorem dX11_canDo_172 : decode cX11_canDo 172 = .ok (.ireturn, 1) := by decide +kernel
theorem dX11_canDo_173 : decode cX11_canDo 173 = .ok (.iload 4, 2) := by decide +kernel
theorem dX11_canDo_175 : decode cX11_canDo 175 = .ok (.iconst 0, 1) := by decide +kernel
theorem dX11_canDo_176 : decode cX11_canDo 176 = .ok (.bipush 50, 2) := by decide +kernel
theorem dX11_canDo_178 : decode cX11_canDo 178 = .ok (.invokestatic 90, 3) := by decide +kernel
theorem dX11_canDo_181 : decode cX11_canDo 181 = .ok (.ifCond .eq 17, 3) := by decide +kernel
theorem dX11_canDo_184 : decode cX11_canDo 184 = .ok (.iload 4, 2) := by decide +kernel
theorem dX11_canDo_186 : decode cX11_canDo 186 = .ok (.aload_n 0, 1) := by decide +kernel
theorem dX11_canDo_187 : decode cX11_canDo 187 = .ok (.iload_n 2, 1) := by decide +kernel
theorem dX11_canDo_188 : decode cX11_canDo 188 = .ok (.invokevirtual 113, 3) := by decide +kernel
theorem dX11_canDo_191 : decode cX11_canDo 191 = .ok (.if_icmp .lt 7, 3) := by decide +kernel
theorem dX11_canDo_194 : decode cX11_canDo 194 = .ok (.iconst 1, 1) := by decide +kernel
theorem dX11_canDo_195 : decode cX11_canDo 195 = .ok (.goto 4, 3) := by decide +kernel
theorem dX11_canDo_198 : decode cX11_canDo 198 = .ok (.iconst 0, 1) := by decide +kernel
theorem dX11_canDo_199 : decode cX11_canDo 199 = .ok (.ireturn, 1) := by decide +kernel
theorem dX11_doIt_0 : decode cX11_doIt 0 = .ok (.iload_n 1, 1) := by decide +kernel
theorem dX11_doIt_1 : decode cX11_doIt 1 = .ok (.tableswitch 106 0 5 #[39, 51, 63, 72, 81, 93], 39) := by decide +kernel
theorem dX11_doIt_40 : decode cX11_doIt 40 = .ok (.aload_n 0, 1) := by decide +kernel
theorem dX11_doIt_41 : decode cX11_doIt 41 = .ok (.iload_n 2, 1) := by decide +kernel
theorem dX11_doIt_42 : decode cX11_doIt 42 = .ok (.iload_n 3, 1) := by decide +kernel
theorem dX11_doIt_43 : decode cX11_doIt 43 = .ok (.iload 4, 2) := by decide +kernel
theorem dX11_doIt_45 : decode cX11_doIt 45 = .ok (.invokevirtual 263, 3) := by decide +kernel
theorem dX11_doIt_48 : decode cX11_doIt 48 = .ok (.pop, 1) := by decide +kernel
theorem dX11_doIt_49 : decode cX11_doIt 49 = .ok (.goto 66, 3) := by decide +kernel
theorem dX11_doIt_52 : decode cX11_doIt 52 = .ok (.aload_n 0, 1) := by decide +kernel
theorem dX11_doIt_53 : decode cX11_doIt 53 = .ok (.iload_n 2, 1) := by decide +kernel
theorem dX11_doIt_54 : decode cX11_doIt 54 = .ok (.iload_n 3, 1) := by decide +kernel
theorem dX11_doIt_55 : decode cX11_doIt 55 = .ok (.iload 4, 2) := by decide +kernel
theorem dX11_doIt_57 : decode cX11_doIt 57 = .ok (.invokevirtual 266, 3) := by decide +kernel
theorem dX11_doIt_60 : decode cX11_doIt 60 = .ok (.pop, 1) := by decide +kernel
theorem dX11_doIt_61 : decode cX11_doIt 61 = .ok (.goto 54, 3) := by decide +kernel
theorem dX11_doIt_64 : decode cX11_doIt 64 = .ok (.aload_n 0, 1) := by decide +kernel
theorem dX11_doIt_65 : decode cX11_doIt 65 = .ok (.iload_n 2, 1) := by decide +kernel
theorem dX11_doIt_66 : decode cX11_doIt 66 = .ok (.invokevirtual 270, 3) := by decide +kernel
theorem dX11_doIt_69 : decode cX11_doIt 69 = .ok (.pop, 1) := by decide +kernel
theorem dX11_doIt_70 : decode cX11_doIt 70 = .ok (.goto 45, 3) := by decide +kernel
theorem dX11_doIt_73 : decode cX11_doIt 73 = .ok (.aload_n 0, 1) := by decide +kernel
theorem dX11_doIt_74 : decode cX11_doIt 74 = .ok (.iload_n 2, 1) := by decide +kernel
theorem dX11_doIt_75 : decode cX11_doIt 75 = .ok (.invokevirtual 273, 3) := by decide +kernel
theorem dX11_doIt_78 : decode cX11_doIt 78 = .ok (.pop, 1) := by decide +kernel
theorem dX11_doIt_79 : decode cX11_doIt 79 = .ok (.goto 36, 3) := by decide +kernel
theorem dX11_doIt_82 : decode cX11_doIt 82 = .ok (.aload_n 0, 1) := by decide +kernel
theorem dX11_doIt_83 : decode cX11_doIt 83 = .ok (.iload_n 3, 1) := by decide +kernel
theorem dX11_doIt_84 : decode cX11_doIt 84 = .ok (.iload_n 2, 1) := by decide +kernel
theorem dX11_doIt_85 : decode cX11_doIt 85 = .ok (.iload 4, 2) := by decide +kernel
theorem dX11_doIt_87 : decode cX11_doIt 87 = .ok (.invokevirtual 276, 3) := by decide +kernel
theorem dX11_doIt_90 : decode cX11_doIt 90 = .ok (.pop, 1) := by decide +kernel
theorem dX11_doIt_91 : decode cX11_doIt 91 = .ok (.goto 24, 3) := by decide +kernel
theorem dX11_doIt_94 : decode cX11_doIt 94 = .ok (.aload_n 0, 1) := by decide +kernel
theorem dX11_doIt_95 : decode cX11_doIt 95 = .ok (.iload_n 2, 1) := by decide +kernel
theorem dX11_doIt_96 : decode cX11_doIt 96 = .ok (.iload_n 3, 1) := by decide +kernel
theorem dX11_doIt_97 : decode cX11_doIt 97 = .ok (.iload 4, 2) := by decide +kernel
theorem dX11_doIt_99 : decode cX11_doIt 99 = .ok (.ineg, 1) := by decide +kernel
theorem dX11_doIt_100 : decode cX11_doIt 100 = .ok (.invokevirtual 276, 3) := by decide +kernel
theorem dX11_doIt_103 : decode cX11_doIt 103 = .ok (.pop, 1) := by decide +kernel
theorem dX11_doIt_104 : decode cX11_doIt 104 = .ok (.goto 11, 3) := by decide +kernel
theorem dX11_doIt_107 : decode cX11_doIt 107 = .ok (.aload_n 0, 1) := by decide +kernel
theorem dX11_doIt_108 : decode cX11_doIt 108 = .ok (.iload_n 2, 1) := by decide +kernel
theorem dX11_doIt_109 : decode cX11_doIt 109 = .ok (.iload 4, 2) := by decide +kernel
theorem dX11_doIt_111 : decode cX11_doIt 111 = .ok (.invokevirtual 279, 3) := by decide +kernel
theorem dX11_doIt_114 : decode cX11_doIt 114 = .ok (.pop, 1) := by decide +kernel
theorem dX11_doIt_115 : decode cX11_doIt 115 = .ok (.return_, 1) := by decide +kernel
theorem dX11_runScript_0 : decode cX11_runScript 0 = .ok (.aload_n 0, 1) := by decide +kernel
theorem dX11_runScript_1 : decode cX11_runScript 1 = .ok (.invokevirtual 83, 3) := by decide +kernel
theorem dX11_runScript_4 : decode cX11_runScript 4 = .ok (.aload_n 0, 1) := by decide +kernel
theorem dX11_runScript_5 : decode cX11_runScript 5 = .ok (.invokevirtual 282, 3) := by decide +kernel
theorem dX11_runScript_8 : decode cX11_runScript 8 = .ok (.istore_n 1, 1) := by decide +kernel
theorem dX11_runScript_9 : decode cX11_runScript 9 = .ok (.aload_n 0, 1) := by decide +kernel
theorem dX11_runScript_10 : decode cX11_runScript 10 = .ok (.iconst 0, 1) := by decide +kernel
theorem dX11_runScript_11 : decode cX11_runScript 11 = .ok (.putfield 27, 3) := by decide +kernel
theorem dX11_runScript_14 : decode cX11_runScript 14 = .ok (.aload_n 0, 1) := by decide +kernel
theorem dX11_runScript_15 : decode cX11_runScript 15 = .ok (.iload_n 1, 1) := by decide +kernel
theorem dX11_runScript_16 : decode cX11_runScript 16 = .ok (.iconst (-1), 1) := by decide +kernel
theorem dX11_runScript_17 : decode cX11_runScript 17 = .ok (.if_icmp .ne 7, 3) := by decide +kernel
theorem dX11_runScript_20 : decode cX11_runScript 20 = .ok (.iconst 1, 1) := by decide +kernel
theorem dX11_runScript_21 : decode cX11_runScript 21 = .ok (.goto 4, 3) := by decide +kernel
theorem dX11_runScript_24 : decode cX11_runScript 24 = .ok (.iconst 0, 1) := by decide +kernel
theorem dX11_runScript_25 : decode cX11_runScript 25 = .ok (.iconst 0, 1) := by decide +kernel
theorem dX11_runScript_26 : decode cX11_runScript 26 = .ok (.iconst 0, 1) := by decide +kernel
theorem dX11_runScript_27 : decode cX11_runScript 27 = .ok (.invokevirtual 172, 3) := by decide +kernel
theorem dX11_runScript_30 : decode cX11_runScript 30 = .ok (.ifCond .eq 5, 3) := by decide +kernel
theorem dX11_runScript_33 : decode cX11_runScript 33 = .ok (.iconst 0, 1) := by decide +kernel
theorem dX11_runScript_34 : decode cX11_runScript 34 = .ok (.ireturn, 1) := by decide +kernel
theorem dX11_runScript_35 : decode cX11_runScript 35 = .ok (.aload_n 0, 1) := by decide +kernel
theorem dX11_runScript_36 : decode cX11_runScript 36 = .ok (.iconst 0, 1) := by decide +kernel
theorem dX11_runScript_37 : decode cX11_runScript 37 = .ok (.invokevirtual 285, 3) := by decide +kernel
theorem dX11_runScript_40 : decode cX11_runScript 40 = .ok (.iconst 0, 1) := by decide +kernel
theorem dX11_runScript_41 : decode cX11_runScript 41 = .ok (.istore_n 2, 1) := by decide +kernel
theorem dX11_runScript_42 : decode cX11_runScript 42 = .ok (.iload_n 2, 1) := by decide +kernel
theorem dX11_runScript_43 : decode cX11_runScript 43 = .ok (.iload_n 1, 1) := by decide +kernel
theorem dX11_runScript_44 : decode cX11_runScript 44 = .ok (.if_icmp .ge 86, 3) := by decide +kernel
theorem dX11_runScript_47 : decode cX11_runScript 47 = .ok (.iload_n 2, 1) := by decide +kernel
theorem dX11_runScript_48 : decode cX11_runScript 48 = .ok (.iconst 4, 1) := by decide +kernel
theorem dX11_runScript_49 : decode cX11_runScript 49 = .ok (.imul, 1) := by decide +kernel
theorem dX11_runScript_50 : decode cX11_runScript 50 = .ok (.istore_n 3, 1) := by decide +kernel
theorem dX11_runScript_51 : decode cX11_runScript 51 = .ok (.aload_n 0, 1) := by decide +kernel
theorem dX11_runScript_52 : decode cX11_runScript 52 = .ok (.aload_n 0, 1) := by decide +kernel
theorem dX11_runScript_53 : decode cX11_runScript 53 = .ok (.getfield 69, 3) := by decide +kernel
theorem dX11_runScript_56 : decode cX11_runScript 56 = .ok (.iload_n 3, 1) := by decide +kernel
theorem dX11_runScript_57 : decode cX11_runScript 57 = .ok (.iaload, 1) := by decide +kernel
theorem dX11_runScript_58 : decode cX11_runScript 58 = .ok (.aload_n 0, 1) := by decide +kernel
theorem dX11_runScript_59 : decode cX11_runScript 59 = .ok (.getfield 69, 3) := by decide +kernel
theorem dX11_runScript_62 : decode cX11_runScript 62 = .ok (.iload_n 3, 1) := by decide +kernel
theorem dX11_runScript_63 : decode cX11_runScript 63 = .ok (.iconst 1, 1) := by decide +kernel
theorem dX11_runScript_64 : decode cX11_runScript 64 = .ok (.iadd, 1) := by decide +kernel
theorem dX11_runScript_65 : decode cX11_runScript 65 = .ok (.iaload, 1) := by decide +kernel
theorem dX11_runScript_66 : decode cX11_runScript 66 = .ok (.aload_n 0, 1) := by decide +kernel
theorem dX11_runScript_67 : decode cX11_runScript 67 = .ok (.getfield 69, 3) := by decide +kernel
theorem dX11_runScript_70 : decode cX11_runScript 70 = .ok (.iload_n 3, 1) := by decide +kernel
theorem dX11_runScript_71 : decode cX11_runScript 71 = .ok (.iconst 2, 1) := by decide +kernel
theorem dX11_runScript_72 : decode cX11_runScript 72 = .ok (.iadd, 1) := by decide +kernel
theorem dX11_runScript_73 : decode cX11_runScript 73 = .ok (.iaload, 1) := by decide +kernel
theorem dX11_runScript_74 : decode cX11_runScript 74 = .ok (.aload_n 0, 1) := by decide +kernel
theorem dX11_runScript_75 : decode cX11_runScript 75 = .ok (.getfield 69, 3) := by decide +kernel
theorem dX11_runScript_78 : decode cX11_runScript 78 = .ok (.iload_n 3, 1) := by decide +kernel
theorem dX11_runScript_79 : decode cX11_runScript 79 = .ok (.iconst 3, 1) := by decide +kernel
theorem dX11_runScript_80 : decode cX11_runScript 80 = .ok (.iadd, 1) := by decide +kernel
theorem dX11_runScript_81 : decode cX11_runScript 81 = .ok (.iaload, 1) := by decide +kernel
theorem dX11_runScript_82 : decode cX11_runScript 82 = .ok (.invokevirtual 288, 3) := by decide +kernel
theorem dX11_runScript_85 : decode cX11_runScript 85 = .ok (.ifCond .ne 5, 3) := by decide +kernel
theorem dX11_runScript_88 : decode cX11_runScript 88 = .ok (.iload_n 2, 1) := by decide +kernel
theorem dX11_runScript_89 : decode cX11_runScript 89 = .ok (.ireturn, 1) := by decide +kernel
theorem dX11_runScript_90 : decode cX11_runScript 90 = .ok (.aload_n 0, 1) := by decide +kernel
theorem dX11_runScript_91 : decode cX11_runScript 91 = .ok (.aload_n 0, 1) := by decide +kernel
theorem dX11_runScript_92 : decode cX11_runScript 92 = .ok (.getfield 69, 3) := by decide +kernel
theorem dX11_runScript_95 : decode cX11_runScript 95 = .ok (.iload_n 3, 1) := by decide +kernel
theorem dX11_runScript_96 : decode cX11_runScript 96 = .ok (.iaload, 1) := by decide +kernel
theorem dX11_runScript_97 : decode cX11_runScript 97 = .ok (.aload_n 0, 1) := by decide +kernel
theorem dX11_runScript_98 : decode cX11_runScript 98 = .ok (.getfield 69, 3) := by decide +kernel
theorem dX11_runScript_101 : decode cX11_runScript 101 = .ok (.iload_n 3, 1) := by decide +kernel
theorem dX11_runScript_102 : decode cX11_runScript 102 = .ok (.iconst 1, 1) := by decide +kernel
theorem dX11_runScript_103 : decode cX11_runScript 103 = .ok (.iadd, 1) := by decide +kernel
theorem dX11_runScript_104 : decode cX11_runScript 104 = .ok (.iaload, 1) := by decide +kernel
theorem dX11_runScript_105 : decode cX11_runScript 105 = .ok (.aload_n 0, 1) := by decide +kernel
theorem dX11_runScript_106 : decode cX11_runScript 106 = .ok (.getfield 69, 3) := by decide +kernel
theorem dX11_runScript_109 : decode cX11_runScript 109 = .ok (.iload_n 3, 1) := by decide +kernel
theorem dX11_runScript_110 : decode cX11_runScript 110 = .ok (.iconst 2, 1) := by decide +kernel
theorem dX11_runScript_111 : decode cX11_runScript 111 = .ok (.iadd, 1) := by decide +kernel
theorem dX11_runScript_112 : decode cX11_runScript 112 = .ok (.iaload, 1) := by decide +kernel
theorem dX11_runScript_113 : decode cX11_runScript 113 = .ok (.aload_n 0, 1) := by decide +kernel
theorem dX11_runScript_114 : decode cX11_runScript 114 = .ok (.getfield 69, 3) := by decide +kernel
theorem dX11_runScript_117 : decode cX11_runScript 117 = .ok (.iload_n 3, 1) := by decide +kernel
theorem dX11_runScript_118 : decode cX11_runScript 118 = .ok (.iconst 3, 1) := by decide +kernel
theorem dX11_runScript_119 : decode cX11_runScript 119 = .ok (.iadd, 1) := by decide +kernel
theorem dX11_runScript_120 : decode cX11_runScript 120 = .ok (.iaload, 1) := by decide +kernel
theorem dX11_runScript_121 : decode cX11_runScript 121 = .ok (.invokevirtual 292, 3) := by decide +kernel
theorem dX11_runScript_124 : decode cX11_runScript 124 = .ok (.iinc 2 1, 3) := by decide +kernel
theorem dX11_runScript_127 : decode cX11_runScript 127 = .ok (.goto (-85), 3) := by decide +kernel
theorem dX11_runScript_130 : decode cX11_runScript 130 = .ok (.iload_n 1, 1) := by decide +kernel
theorem dX11_runScript_131 : decode cX11_runScript 131 = .ok (.ireturn, 1) := by decide +kernel
theorem dX11_errorCode_0 : decode cX11_errorCode 0 = .ok (.aload_n 0, 1) := by decide +kernel
theorem dX11_errorCode_1 : decode cX11_errorCode 1 = .ok (.iconst 0, 1) := by decide +kernel
theorem dX11_errorCode_2 : decode cX11_errorCode 2 = .ok (.putfield 1, 3) := by decide +kernel
theorem dX11_errorCode_5 : decode cX11_errorCode 5 = .ok (.aload_n 0, 1) := by decide +kernel
theorem dX11_errorCode_6 : decode cX11_errorCode 6 = .ok (.getfield 30, 3) := by decide +kernel
theorem dX11_errorCode_9 : decode cX11_errorCode 9 = .ok (.ireturn, 1) := by decide +kernel
theorem dX11_errorPosition_0 : decode cX11_errorPosition 0 = .ok (.aload_n 0, 1) := by decide +kernel
theorem dX11_errorPosition_1 : decode cX11_errorPosition 1 = .ok (.iconst 0, 1) := by decide +kernel
theorem dX11_errorPosition_2 : decode cX11_errorPosition 2 = .ok (.putfield 1, 3) := by decide +kernel
theorem dX11_errorPosition_5 : decode cX11_errorPosition 5 = .ok (.aload_n 0, 1) := by decide +kernel
theorem dX11_errorPosition_6 : decode cX11_errorPosition 6 = .ok (.getfield 33, 3) := by decide +kernel
theorem dX11_errorPosition_9 : decode cX11_errorPosition 9 = .ok (.ireturn, 1) := by decide +kernel
theorem dX11_plain_0 : decode cX11_plain 0 = .ok (.aload_n 0, 1) := by decide +kernel
theorem dX11_plain_1 : decode cX11_plain 1 = .ok (.iconst 0, 1) := by decide +kernel
theorem dX11_plain_2 : decode cX11_plain 2 = .ok (.putfield 1, 3) := by decide +kernel
theorem dX11_plain_5 : decode cX11_plain 5 = .ok (.iload_n 1, 1) := by decide +kernel
theorem dX11_plain_6 : decode cX11_plain 6 = .ok (.ireturn, 1) := by decide +kernel
theorem dX11_pastureCount_0 : decode cX11_pastureCount 0 = .ok (.aload_n 0, 1) := by decide +kernel
theorem dX11_pastureCount_1 : decode cX11_pastureCount 1 = .ok (.aload_n 0, 1) := by decide +kernel
theorem dX11_pastureCount_2 : decode cX11_pastureCount 2 = .ok (.getfield 13, 3) := by decide +kernel
theorem dX11_pastureCount_5 : decode cX11_pastureCount 5 = .ok (.iconst 0, 1) := by decide +kernel
theorem dX11_pastureCount_6 : decode cX11_pastureCount 6 = .ok (.iaload, 1) := by decide +kernel
theorem dX11_pastureCount_7 : decode cX11_pastureCount 7 = .ok (.invokevirtual 296, 3) := by decide +kernel
theorem dX11_pastureCount_10 : decode cX11_pastureCount 10 = .ok (.ireturn, 1) := by decide +kernel
theorem dX11_herdCount_0 : decode cX11_herdCount 0 = .ok (.aload_n 0, 1) := by decide +kernel
theorem dX11_herdCount_1 : decode cX11_herdCount 1 = .ok (.aload_n 0, 1) := by decide +kernel
theorem dX11_herdCount_2 : decode cX11_herdCount 2 = .ok (.getfield 13, 3) := by decide +kernel
theorem dX11_herdCount_5 : decode cX11_herdCount 5 = .ok (.iconst 1, 1) := by decide +kernel
theorem dX11_herdCount_6 : decode cX11_herdCount 6 = .ok (.iaload, 1) := by decide +kernel
theorem dX11_herdCount_7 : decode cX11_herdCount 7 = .ok (.invokevirtual 296, 3) := by decide +kernel
theorem dX11_herdCount_10 : decode cX11_herdCount 10 = .ok (.ireturn, 1) := by decide +kernel
theorem dX11_capacity_0 : decode cX11_capacity 0 = .ok (.aload_n 0, 1) := by decide +kernel
theorem dX11_capacity_1 : decode cX11_capacity 1 = .ok (.aload_n 0, 1) := by decide +kernel
theorem dX11_capacity_2 : decode cX11_capacity 2 = .ok (.iload_n 1, 1) := by decide +kernel
theorem dX11_capacity_3 : decode cX11_capacity 3 = .ok (.invokevirtual 98, 3) := by decide +kernel
theorem dX11_capacity_6 : decode cX11_capacity 6 = .ok (.ifCond .ne 7, 3) := by decide +kernel
theorem dX11_capacity_9 : decode cX11_capacity 9 = .ok (.iconst 1, 1) := by decide +kernel
theorem dX11_capacity_10 : decode cX11_capacity 10 = .ok (.goto 4, 3) := by decide +kernel
theorem dX11_capacity_13 : decode cX11_capacity 13 = .ok (.iconst 0, 1) := by decide +kernel
theorem dX11_capacity_14 : decode cX11_capacity 14 = .ok (.iconst 0, 1) := by decide +kernel
theorem dX11_capacity_15 : decode cX11_capacity 15 = .ok (.iconst 0, 1) := by decide +kernel
theorem dX11_capacity_16 : decode cX11_capacity 16 = .ok (.invokevirtual 172, 3) := by decide +kernel
theorem dX11_capacity_19 : decode cX11_capacity 19 = .ok (.ifCond .eq 5, 3) := by decide +kernel
theorem dX11_capacity_22 : decode cX11_capacity 22 = .ok (.iconst 0, 1) := by decide +kernel
theorem dX11_capacity_23 : decode cX11_capacity 23 = .ok (.ireturn, 1) := by decide +kernel
theorem dX11_capacity_24 : decode cX11_capacity 24 = .ok (.aload_n 0, 1) := by decide +kernel
theorem dX11_capacity_25 : decode cX11_capacity 25 = .ok (.iload_n 1, 1) := by decide +kernel
theorem dX11_capacity_26 : decode cX11_capacity 26 = .ok (.invokevirtual 109, 3) := by decide +kernel
theorem dX11_capacity_29 : decode cX11_capacity 29 = .ok (.ireturn, 1) := by decide +kernel
theorem dX11_available_0 : decode cX11_available 0 = .ok (.aload_n 0, 1) := by decide +kernel
theorem dX11_available_1 : decode cX11_available 1 = .ok (.aload_n 0, 1) := by decide +kernel
theorem dX11_available_2 : decode cX11_available 2 = .ok (.iload_n 1, 1) := by decide +kernel
theorem dX11_available_3 : decode cX11_available 3 = .ok (.invokevirtual 98, 3) := by decide +kernel
theorem dX11_available_6 : decode cX11_available 6 = .ok (.ifCond .ne 7, 3) := by decide +kernel
theorem dX11_available_9 : decode cX11_available 9 = .ok (.iconst 1, 1) := by decide +kernel
theorem dX11_available_10 : decode cX11_available 10 = .ok (.goto 4, 3) := by decide +kernel
theorem dX11_available_13 : decode cX11_available 13 = .ok (.iconst 0, 1) := by decide +kernel
theorem dX11_available_14 : decode cX11_available 14 = .ok (.iconst 0, 1) := by decide +kernel
theorem dX11_available_15 : decode cX11_available 15 = .ok (.iconst 0, 1) := by decide +kernel
theorem dX11_available_16 : decode cX11_available 16 = .ok (.invokevirtual 172, 3) := by decide +kernel
theorem dX11_available_19 : decode cX11_available 19 = .ok (.ifCond .eq 5, 3) := by decide +kernel
theorem dX11_available_22 : decode cX11_available 22 = .ok (.iconst 0, 1) := by decide +kernel
theorem dX11_available_23 : decode cX11_available 23 = .ok (.ireturn, 1) := by decide +kernel
theorem dX11_available_24 : decode cX11_available 24 = .ok (.aload_n 0, 1) := by decide +kernel
theorem dX11_available_25 : decode cX11_available 25 = .ok (.iload_n 1, 1) := by decide +kernel
theorem dX11_available_26 : decode cX11_available 26 = .ok (.invokevirtual 116, 3) := by decide +kernel
theorem dX11_available_29 : decode cX11_available 29 = .ok (.ireturn, 1) := by decide +kernel
theorem dX11_maximum_0 : decode cX11_maximum 0 = .ok (.aload_n 0, 1) := by decide +kernel
theorem dX11_maximum_1 : decode cX11_maximum 1 = .ok (.aload_n 0, 1) := by decide +kernel
theorem dX11_maximum_2 : decode cX11_maximum 2 = .ok (.iload_n 1, 1) := by decide +kernel
theorem dX11_maximum_3 : decode cX11_maximum 3 = .ok (.iload_n 2, 1) := by decide +kernel
theorem dX11_maximum_4 : decode cX11_maximum 4 = .ok (.invokevirtual 299, 3) := by decide +kernel
theorem dX11_maximum_7 : decode cX11_maximum 7 = .ok (.ifCond .ne 7, 3) := by decide +kernel
theorem dX11_maximum_10 : decode cX11_maximum 10 = .ok (.iconst 1, 1) := by decide +kernel
theorem dX11_maximum_11 : decode cX11_maximum 11 = .ok (.goto 4, 3) := by decide +kernel
theorem dX11_maximum_14 : decode cX11_maximum 14 = .ok (.iconst 0, 1) := by decide +kernel
theorem dX11_maximum_15 : decode cX11_maximum 15 = .ok (.iconst 0, 1) := by decide +kernel
theorem dX11_maximum_16 : decode cX11_maximum 16 = .ok (.iconst 0, 1) := by decide +kernel
theorem dX11_maximum_17 : decode cX11_maximum 17 = .ok (.invokevirtual 172, 3) := by decide +kernel
theorem dX11_maximum_20 : decode cX11_maximum 20 = .ok (.ifCond .eq 5, 3) := by decide +kernel
theorem dX11_maximum_23 : decode cX11_maximum 23 = .ok (.iconst 0, 1) := by decide +kernel
theorem dX11_maximum_24 : decode cX11_maximum 24 = .ok (.ireturn, 1) := by decide +kernel
theorem dX11_maximum_25 : decode cX11_maximum 25 = .ok (.aload_n 0, 1) := by decide +kernel
theorem dX11_maximum_26 : decode cX11_maximum 26 = .ok (.iload_n 1, 1) := by decide +kernel
theorem dX11_maximum_27 : decode cX11_maximum 27 = .ok (.bipush 9, 2) := by decide +kernel
theorem dX11_maximum_29 : decode cX11_maximum 29 = .ok (.iload_n 2, 1) := by decide +kernel
theorem dX11_maximum_30 : decode cX11_maximum 30 = .ok (.iadd, 1) := by decide +kernel
theorem dX11_maximum_31 : decode cX11_maximum 31 = .ok (.invokevirtual 105, 3) := by decide +kernel
theorem dX11_maximum_34 : decode cX11_maximum 34 = .ok (.ireturn, 1) := by decide +kernel
theorem dX11_allocation_0 : decode cX11_allocation 0 = .ok (.aload_n 0, 1) := by decide +kernel
theorem dX11_allocation_1 : decode cX11_allocation 1 = .ok (.aload_n 0, 1) := by decide +kernel
theorem dX11_allocation_2 : decode cX11_allocation 2 = .ok (.iload_n 1, 1) := by decide +kernel
theorem dX11_allocation_3 : decode cX11_allocation 3 = .ok (.iload_n 2, 1) := by decide +kernel
theorem dX11_allocation_4 : decode cX11_allocation 4 = .ok (.invokevirtual 299, 3) := by decide +kernel
theorem dX11_allocation_7 : decode cX11_allocation 7 = .ok (.ifCond .ne 7, 3) := by decide +kernel
theorem dX11_allocation_10 : decode cX11_allocation 10 = .ok (.iconst 1, 1) := by decide +kernel
theorem dX11_allocation_11 : decode cX11_allocation 11 = .ok (.goto 4, 3) := by decide +kernel
theorem dX11_allocation_14 : decode cX11_allocation 14 = .ok (.iconst 0, 1) := by decide +kernel
theorem dX11_allocation_15 : decode cX11_allocation 15 = .ok (.iconst 0, 1) := by decide +kernel
theorem dX11_allocation_16 : decode cX11_allocation 16 = .ok (.iconst 0, 1) := by decide +kernel
theorem dX11_allocation_17 : decode cX11_allocation 17 = .ok (.invokevirtual 172, 3) := by decide +kernel
theorem dX11_allocation_20 : decode cX11_allocation 20 = .ok (.ifCond .eq 5, 3) := by decide +kernel
theorem dX11_allocation_23 : decode cX11_allocation 23 = .ok (.iconst 0, 1) := by decide +kernel
theorem dX11_allocation_24 : decode cX11_allocation 24 = .ok (.ireturn, 1) := by decide +kernel
theorem dX11_allocation_25 : decode cX11_allocation 25 = .ok (.aload_n 0, 1) := by decide +kernel
theorem dX11_allocation_26 : decode cX11_allocation 26 = .ok (.iload_n 1, 1) := by decide +kernel
theorem dX11_allocation_27 : decode cX11_allocation 27 = .ok (.bipush 14, 2) := by decide +kernel
theorem dX11_allocation_29 : decode cX11_allocation 29 = .ok (.iload_n 2, 1) := by decide +kernel
theorem dX11_allocation_30 : decode cX11_allocation 30 = .ok (.iadd, 1) := by decide +kernel
theorem dX11_allocation_31 : decode cX11_allocation 31 = .ok (.invokevirtual 105, 3) := by decide +kernel
theorem dX11_allocation_34 : decode cX11_allocation 34 = .ok (.ireturn, 1) := by decide +kernel
theorem dX11_need_0 : decode cX11_need 0 = .ok (.aload_n 0, 1) := by decide +kernel
theorem dX11_need_1 : decode cX11_need 1 = .ok (.aload_n 0, 1) := by decide +kernel
theorem dX11_need_2 : decode cX11_need 2 = .ok (.iload_n 1, 1) := by decide +kernel
theorem dX11_need_3 : decode cX11_need 3 = .ok (.iload_n 2, 1) := by decide +kernel
theorem dX11_need_4 : decode cX11_need 4 = .ok (.invokevirtual 299, 3) := by decide +kernel
theorem dX11_need_7 : decode cX11_need 7 = .ok (.ifCond .ne 7, 3) := by decide +kernel
theorem dX11_need_10 : decode cX11_need 10 = .ok (.iconst 1, 1) := by decide +kernel
theorem dX11_need_11 : decode cX11_need 11 = .ok (.goto 4, 3) := by decide +kernel
theorem dX11_need_14 : decode cX11_need 14 = .ok (.iconst 0, 1) := by decide +kernel
theorem dX11_need_15 : decode cX11_need 15 = .ok (.iconst 0, 1) := by decide +kernel
theorem dX11_need_16 : decode cX11_need 16 = .ok (.iconst 0, 1) := by decide +kernel
theorem dX11_need_17 : decode cX11_need 17 = .ok (.invokevirtual 172, 3) := by decide +kernel
theorem dX11_need_20 : decode cX11_need 20 = .ok (.ifCond .eq 5, 3) := by decide +kernel
theorem dX11_need_23 : decode cX11_need 23 = .ok (.iconst 0, 1) := by decide +kernel
theorem dX11_need_24 : decode cX11_need 24 = .ok (.ireturn, 1) := by decide +kernel
theorem dX11_need_25 : decode cX11_need 25 = .ok (.aload_n 0, 1) := by decide +kernel
theorem dX11_need_26 : decode cX11_need 26 = .ok (.iload_n 1, 1) := by decide +kernel
theorem dX11_need_27 : decode cX11_need 27 = .ok (.iload_n 2, 1) := by decide +kernel
theorem dX11_need_28 : decode cX11_need 28 = .ok (.invokevirtual 119, 3) := by decide +kernel
theorem dX11_need_31 : decode cX11_need 31 = .ok (.ireturn, 1) := by decide +kernel
theorem dX11_letterAt_0 : decode cX11_letterAt 0 = .ok (.aload_n 0, 1) := by decide +kernel
theorem dX11_letterAt_1 : decode cX11_letterAt 1 = .ok (.iload_n 1, 1) := by decide +kernel
theorem dX11_letterAt_2 : decode cX11_letterAt 2 = .ok (.ifCond .eq 27, 3) := by decide +kernel
theorem dX11_letterAt_5 : decode cX11_letterAt 5 = .ok (.iload_n 3, 1) := by decide +kernel
theorem dX11_letterAt_6 : decode cX11_letterAt 6 = .ok (.iconst 0, 1) := by decide +kernel
theorem dX11_letterAt_7 : decode cX11_letterAt 7 = .ok (.aload_n 0, 1) := by decide +kernel
theorem dX11_letterAt_8 : decode cX11_letterAt 8 = .ok (.getfield 13, 3) := by decide +kernel
theorem dX11_letterAt_11 : decode cX11_letterAt 11 = .ok (.iload_n 1, 1) := by decide +kernel
theorem dX11_letterAt_12 : decode cX11_letterAt 12 = .ok (.ifCond .eq 7, 3) := by decide +kernel
theorem dX11_letterAt_15 : decode cX11_letterAt 15 = .ok (.iload_n 2, 1) := by decide +kernel
theorem dX11_letterAt_16 : decode cX11_letterAt 16 = .ok (.goto 4, 3) := by decide +kernel
theorem dX11_letterAt_19 : decode cX11_letterAt 19 = .ok (.iconst 0, 1) := by decide +kernel
theorem dX11_letterAt_20 : decode cX11_letterAt 20 = .ok (.iaload, 1) := by decide +kernel
theorem dX11_letterAt_21 : decode cX11_letterAt 21 = .ok (.iconst 1, 1) := by decide +kernel
theorem dX11_letterAt_22 : decode cX11_letterAt 22 = .ok (.isub, 1) := by decide +kernel
theorem dX11_letterAt_23 : decode cX11_letterAt 23 = .ok (.invokestatic 90, 3) := by decide +kernel
theorem dX11_letterAt_26 : decode cX11_letterAt 26 = .ok (.ifCond .ne 7, 3) := by decide +kernel
theorem dX11_letterAt_29 : decode cX11_letterAt 29 = .ok (.iconst 1, 1) := by decide +kernel
theorem dX11_letterAt_30 : decode cX11_letterAt 30 = .ok (.goto 4, 3) := by decide +kernel
theorem dX11_letterAt_33 : decode cX11_letterAt 33 = .ok (.iconst 0, 1) := by decide +kernel
theorem dX11_letterAt_34 : decode cX11_letterAt 34 = .ok (.iconst 0, 1) := by decide +kernel
theorem dX11_letterAt_35 : decode cX11_letterAt 35 = .ok (.iconst 0, 1) := by decide +kernel
theorem dX11_letterAt_36 : decode cX11_letterAt 36 = .ok (.invokevirtual 172, 3) := by decide +kernel
theorem dX11_letterAt_39 : decode cX11_letterAt 39 = .ok (.ifCond .eq 5, 3) := by decide +kernel
theorem dX11_letterAt_42 : decode cX11_letterAt 42 = .ok (.iconst 0, 1) := by decide +kernel
theorem dX11_letterAt_43 : decode cX11_letterAt 43 = .ok (.ireturn, 1) := by decide +kernel
theorem dX11_letterAt_44 : decode cX11_letterAt 44 = .ok (.aload_n 0, 1) := by decide +kernel
theorem dX11_letterAt_45 : decode cX11_letterAt 45 = .ok (.getfield 13, 3) := by decide +kernel
theorem dX11_letterAt_48 : decode cX11_letterAt 48 = .ok (.iload_n 2, 1) := by decide +kernel
theorem dX11_letterAt_49 : decode cX11_letterAt 49 = .ok (.iconst 1, 1) := by decide +kernel
theorem dX11_letterAt_50 : decode cX11_letterAt 50 = .ok (.iadd, 1) := by decide +kernel
theorem dX11_letterAt_51 : decode cX11_letterAt 51 = .ok (.iload_n 3, 1) := by decide +kernel
theorem dX11_letterAt_52 : decode cX11_letterAt 52 = .ok (.iadd, 1) := by decide +kernel
theorem dX11_letterAt_53 : decode cX11_letterAt 53 = .ok (.iaload, 1) := by decide +kernel
theorem dX11_letterAt_54 : decode cX11_letterAt 54 = .ok (.ireturn, 1) := by decide +kernel
theorem dX11_herdNameByte_0 : decode cX11_herdNameByte 0 = .ok (.aload_n 0, 1) := by decide +kernel
theorem dX11_herdNameByte_1 : decode cX11_herdNameByte 1 = .ok (.aload_n 0, 1) := by decide +kernel
theorem dX11_herdNameByte_2 : decode cX11_herdNameByte 2 = .ok (.iload_n 1, 1) := by decide +kernel
theorem dX11_herdNameByte_3 : decode cX11_herdNameByte 3 = .ok (.invokevirtual 94, 3) := by decide +kernel
theorem dX11_herdNameByte_6 : decode cX11_herdNameByte 6 = .ok (.aload_n 0, 1) := by decide +kernel
theorem dX11_herdNameByte_7 : decode cX11_herdNameByte 7 = .ok (.iload_n 1, 1) := by decide +kernel
theorem dX11_herdNameByte_8 : decode cX11_herdNameByte 8 = .ok (.invokevirtual 94, 3) := by decide +kernel
theorem dX11_herdNameByte_11 : decode cX11_herdNameByte 11 = .ok (.ifCond .eq 13, 3) := by decide +kernel
theorem dX11_herdNameByte_14 : decode cX11_herdNameByte 14 = .ok (.bipush 56, 2) := by decide +kernel
theorem dX11_herdNameByte_16 : decode cX11_herdNameByte 16 = .ok (.iload_n 1, 1) := by decide +kernel
theorem dX11_herdNameByte_17 : decode cX11_herdNameByte 17 = .ok (.bipush 19, 2) := by decide +kernel
theorem dX11_herdNameByte_19 : decode cX11_herdNameByte 19 = .ok (.imul, 1) := by decide +kernel
theorem dX11_herdNameByte_20 : decode cX11_herdNameByte 20 = .ok (.iadd, 1) := by decide +kernel
theorem dX11_herdNameByte_21 : decode cX11_herdNameByte 21 = .ok (.goto 4, 3) := by decide +kernel
theorem dX11_herdNameByte_24 : decode cX11_herdNameByte 24 = .ok (.iconst 0, 1) := by decide +kernel
theorem dX11_herdNameByte_25 : decode cX11_herdNameByte 25 = .ok (.iload_n 2, 1) := by decide +kernel
theorem dX11_herdNameByte_26 : decode cX11_herdNameByte 26 = .ok (.invokevirtual 302, 3) := by decide +kernel
theorem dX11_herdNameByte_29 : decode cX11_herdNameByte 29 = .ok (.ireturn, 1) := by decide +kernel
theorem dX11_pastureNameByte_0 : decode cX11_pastureNameByte 0 = .ok (.aload_n 0, 1) := by decide +kernel
theorem dX11_pastureNameByte_1 : decode cX11_pastureNameByte 1 = .ok (.aload_n 0, 1) := by decide +kernel
theorem dX11_pastureNameByte_2 : decode cX11_pastureNameByte 2 = .ok (.iload_n 1, 1) := by decide +kernel
theorem dX11_pastureNameByte_3 : decode cX11_pastureNameByte 3 = .ok (.invokevirtual 98, 3) := by decide +kernel
theorem dX11_pastureNameByte_6 : decode cX11_pastureNameByte 6 = .ok (.aload_n 0, 1) := by decide +kernel
theorem dX11_pastureNameByte_7 : decode cX11_pastureNameByte 7 = .ok (.iload_n 1, 1) := by decide +kernel
theorem dX11_pastureNameByte_8 : decode cX11_pastureNameByte 8 = .ok (.invokevirtual 98, 3) := by decide +kernel
theorem dX11_pastureNameByte_11 : decode cX11_pastureNameByte 11 = .ok (.ifCond .eq 13, 3) := by decide +kernel
theorem dX11_pastureNameByte_14 : decode cX11_pastureNameByte 14 = .ok (.bipush 16, 2) := by decide +kernel
theorem dX11_pastureNameByte_16 : decode cX11_pastureNameByte 16 = .ok (.iload_n 1, 1) := by decide +kernel
theorem dX11_pastureNameByte_17 : decode cX11_pastureNameByte 17 = .ok (.bipush 8, 2) := by decide +kernel
theorem dX11_pastureNameByte_19 : decode cX11_pastureNameByte 19 = .ok (.imul, 1) := by decide +kernel
theorem dX11_pastureNameByte_20 : decode cX11_pastureNameByte 20 = .ok (.iadd, 1) := by decide +kernel
theorem dX11_pastureNameByte_21 : decode cX11_pastureNameByte 21 = .ok (.goto 4, 3) := by decide +kernel
theorem dX11_pastureNameByte_24 : decode cX11_pastureNameByte 24 = .ok (.iconst 0, 1) := by decide +kernel
theorem dX11_pastureNameByte_25 : decode cX11_pastureNameByte 25 = .ok (.iload_n 2, 1) := by decide +kernel
theorem dX11_pastureNameByte_26 : decode cX11_pastureNameByte 26 = .ok (.invokevirtual 302, 3) := by decide +kernel
theorem dX11_pastureNameByte_29 : decode cX11_pastureNameByte 29 = .ok (.ireturn, 1) := by decide +kernel
theorem dX11_findHerd_0 : decode cX11_findHerd 0 = .ok (.aload_n 0, 1) := by decide +kernel
theorem dX11_findHerd_1 : decode cX11_findHerd 1 = .ok (.iconst 0, 1) := by decide +kernel
theorem dX11_findHerd_2 : decode cX11_findHerd 2 = .ok (.aload_n 0, 1) := by decide +kernel
theorem dX11_findHerd_3 : decode cX11_findHerd 3 = .ok (.getfield 27, 3) := by decide +kernel
theorem dX11_findHerd_6 : decode cX11_findHerd 6 = .ok (.invokevirtual 209, 3) := by decide +kernel
theorem dX11_findHerd_9 : decode cX11_findHerd 9 = .ok (.istore_n 1, 1) := by decide +kernel
theorem dX11_findHerd_10 : decode cX11_findHerd 10 = .ok (.aload_n 0, 1) := by decide +kernel
theorem dX11_findHerd_11 : decode cX11_findHerd 11 = .ok (.iload_n 1, 1) := by decide +kernel
theorem dX11_findHerd_12 : decode cX11_findHerd 12 = .ok (.iconst (-1), 1) := by decide +kernel
theorem dX11_findHerd_13 : decode cX11_findHerd 13 = .ok (.if_icmp .ne 7, 3) := by decide +kernel
theorem dX11_findHerd_16 : decode cX11_findHerd 16 = .ok (.iconst 1, 1) := by decide +kernel
theorem dX11_findHerd_17 : decode cX11_findHerd 17 = .ok (.goto 4, 3) := by decide +kernel
theorem dX11_findHerd_20 : decode cX11_findHerd 20 = .ok (.iconst 0, 1) := by decide +kernel
theorem dX11_findHerd_21 : decode cX11_findHerd 21 = .ok (.iconst 0, 1) := by decide +kernel
theorem dX11_findHerd_22 : decode cX11_findHerd 22 = .ok (.iconst 0, 1) := by decide +kernel
theorem dX11_findHerd_23 : decode cX11_findHerd 23 = .ok (.invokevirtual 172, 3) := by decide +kernel
theorem dX11_findHerd_26 : decode cX11_findHerd 26 = .ok (.ifCond .eq 5, 3) := by decide +kernel
theorem dX11_findHerd_29 : decode cX11_findHerd 29 = .ok (.iconst 0, 1) := by decide +kernel
theorem dX11_findHerd_30 : decode cX11_findHerd 30 = .ok (.ireturn, 1) := by decide +kernel
theorem dX11_findHerd_31 : decode cX11_findHerd 31 = .ok (.iload_n 1, 1) := by decide +kernel
theorem dX11_findHerd_32 : decode cX11_findHerd 32 = .ok (.ireturn, 1) := by decide +kernel
theorem dX11_isSafe_0 : decode cX11_isSafe 0 = .ok (.aload_n 0, 1) := by decide +kernel
theorem dX11_isSafe_1 : decode cX11_isSafe 1 = .ok (.iconst 0, 1) := by decide +kernel
theorem dX11_isSafe_2 : decode cX11_isSafe 2 = .ok (.putfield 1, 3) := by decide +kernel
theorem dX11_isSafe_5 : decode cX11_isSafe 5 = .ok (.aload_n 0, 1) := by decide +kernel
theorem dX11_isSafe_6 : decode cX11_isSafe 6 = .ok (.invokevirtual 139, 3) := by decide +kernel
theorem dX11_isSafe_9 : decode cX11_isSafe 9 = .ok (.ireturn, 1) := by decide +kernel
theorem dX11_safeOrder_0 : decode cX11_safeOrder 0 = .ok (.aload_n 0, 1) := by decide +kernel
theorem dX11_safeOrder_1 : decode cX11_safeOrder 1 = .ok (.iconst 0, 1) := by decide +kernel
theorem dX11_safeOrder_2 : decode cX11_safeOrder 2 = .ok (.putfield 1, 3) := by decide +kernel
theorem dX11_safeOrder_5 : decode cX11_safeOrder 5 = .ok (.iload_n 1, 1) := by decide +kernel
theorem dX11_safeOrder_6 : decode cX11_safeOrder 6 = .ok (.iconst 0, 1) := by decide +kernel
theorem dX11_safeOrder_7 : decode cX11_safeOrder 7 = .ok (.aload_n 0, 1) := by decide +kernel
theorem dX11_safeOrder_8 : decode cX11_safeOrder 8 = .ok (.getfield 13, 3) := by decide +kernel
theorem dX11_safeOrder_11 : decode cX11_safeOrder 11 = .ok (.iconst 1, 1) := by decide +kernel
theorem dX11_safeOrder_12 : decode cX11_safeOrder 12 = .ok (.iaload, 1) := by decide +kernel
theorem dX11_safeOrder_13 : decode cX11_safeOrder 13 = .ok (.iconst 1, 1) := by decide +kernel
theorem dX11_safeOrder_14 : decode cX11_safeOrder 14 = .ok (.isub, 1) := by decide +kernel
theorem dX11_safeOrder_15 : decode cX11_safeOrder 15 = .ok (.invokestatic 90, 3) := by decide +kernel
theorem dX11_safeOrder_18 : decode cX11_safeOrder 18 = .ok (.ifCond .eq 19, 3) := by decide +kernel
theorem dX11_safeOrder_21 : decode cX11_safeOrder 21 = .ok (.aload_n 0, 1) := by decide +kernel
theorem dX11_safeOrder_22 : decode cX11_safeOrder 22 = .ok (.invokevirtual 139, 3) := by decide +kernel
theorem dX11_safeOrder_25 : decode cX11_safeOrder 25 = .ok (.ifCond .eq 12, 3) := by decide +kernel
theorem dX11_safeOrder_28 : decode cX11_safeOrder 28 = .ok (.aload_n 0, 1) := by decide +kernel
theorem dX11_safeOrder_29 : decode cX11_safeOrder 29 = .ok (.getfield 45, 3) := by decide +kernel
theorem dX11_safeOrder_32 : decode cX11_safeOrder 32 = .ok (.iload_n 1, 1) := by decide +kernel
theorem dX11_safeOrder_33 : decode cX11_safeOrder 33 = .ok (.iaload, 1) := by decide +kernel
theorem dX11_safeOrder_34 : decode cX11_safeOrder 34 = .ok (.goto 4, 3) := by decide +kernel
theorem dX11_safeOrder_37 : decode cX11_safeOrder 37 = .ok (.iconst (-1), 1) := by decide +kernel
theorem dX11_safeOrder_38 : decode cX11_safeOrder 38 = .ok (.ireturn, 1) := by decide +kernel
theorem dX11_canFinish_0 : decode cX11_canFinish 0 = .ok (.aload_n 0, 1) := by decide +kernel
theorem dX11_canFinish_1 : decode cX11_canFinish 1 = .ok (.aload_n 0, 1) := by decide +kernel
theorem dX11_canFinish_2 : decode cX11_canFinish 2 = .ok (.iload_n 1, 1) := by decide +kernel
theorem dX11_canFinish_3 : decode cX11_canFinish 3 = .ok (.invokevirtual 94, 3) := by decide +kernel
theorem dX11_canFinish_6 : decode cX11_canFinish 6 = .ok (.ifCond .ne 7, 3) := by decide +kernel
theorem dX11_canFinish_9 : decode cX11_canFinish 9 = .ok (.iconst 1, 1) := by decide +kernel
theorem dX11_canFinish_10 : decode cX11_canFinish 10 = .ok (.goto 4, 3) := by decide +kernel
theorem dX11_canFinish_13 : decode cX11_canFinish 13 = .ok (.iconst 0, 1) := by decide +kernel
theorem dX11_canFinish_14 : decode cX11_canFinish 14 = .ok (.iconst 0, 1) := by decide +kernel
theorem dX11_canFinish_15 : decode cX11_canFinish 15 = .ok (.iconst 0, 1) := by decide +kernel
theorem dX11_canFinish_16 : decode cX11_canFinish 16 = .ok (.invokevirtual 172, 3) := by decide +kernel
theorem dX11_canFinish_19 : decode cX11_canFinish 19 = .ok (.ifCond .eq 5, 3) := by decide +kernel
theorem dX11_canFinish_22 : decode cX11_canFinish 22 = .ok (.iconst 0, 1) := by decide +kernel
theorem dX11_canFinish_23 : decode cX11_canFinish 23 = .ok (.ireturn, 1) := by decide +kernel
theorem dX11_canFinish_24 : decode cX11_canFinish 24 = .ok (.aload_n 0, 1) := by decide +kernel
theorem dX11_canFinish_25 : decode cX11_canFinish 25 = .ok (.invokevirtual 122, 3) := by decide +kernel
theorem dX11_canFinish_28 : decode cX11_canFinish 28 = .ok (.aload_n 0, 1) := by decide +kernel
theorem dX11_canFinish_29 : decode cX11_canFinish 29 = .ok (.iload_n 1, 1) := by decide +kernel
theorem dX11_canFinish_30 : decode cX11_canFinish 30 = .ok (.invokevirtual 125, 3) := by decide +kernel
theorem dX11_canFinish_33 : decode cX11_canFinish 33 = .ok (.ireturn, 1) := by decide +kernel
theorem dX11_whyNotGranted_0 : decode cX11_whyNotGranted 0 = .ok (.aload_n 0, 1) := by decide +kernel
theorem dX11_whyNotGranted_1 : decode cX11_whyNotGranted 1 = .ok (.aload_n 0, 1) := by decide +kernel
theorem dX11_whyNotGranted_2 : decode cX11_whyNotGranted 2 = .ok (.iload_n 1, 1) := by decide +kernel
theorem dX11_whyNotGranted_3 : decode cX11_whyNotGranted 3 = .ok (.iload_n 2, 1) := by decide +kernel
theorem dX11_whyNotGranted_4 : decode cX11_whyNotGranted 4 = .ok (.invokevirtual 299, 3) := by decide +kernel
theorem dX11_whyNotGranted_7 : decode cX11_whyNotGranted 7 = .ok (.ifCond .ne 7, 3) := by decide +kernel
theorem dX11_whyNotGranted_10 : decode cX11_whyNotGranted 10 = .ok (.iconst 1, 1) := by decide +kernel
theorem dX11_whyNotGranted_11 : decode cX11_whyNotGranted 11 = .ok (.goto 4, 3) := by decide +kernel
theorem dX11_whyNotGranted_14 : decode cX11_whyNotGranted 14 = .ok (.iconst 0, 1) := by decide +kernel
theorem dX11_whyNotGranted_15 : decode cX11_whyNotGranted 15 = .ok (.iload_n 3, 1) := by decide +kernel
theorem dX11_whyNotGranted_16 : decode cX11_whyNotGranted 16 = .ok (.iconst 1, 1) := by decide +kernel
theorem dX11_whyNotGranted_17 : decode cX11_whyNotGranted 17 = .ok (.bipush 50, 2) := by decide +kernel
theorem dX11_whyNotGranted_19 : decode cX11_whyNotGranted 19 = .ok (.invokestatic 90, 3) := by decide +kernel
theorem dX11_whyNotGranted_22 : decode cX11_whyNotGranted 22 = .ok (.ifCond .ne 7, 3) := by decide +kernel
theorem dX11_whyNotGranted_25 : decode cX11_whyNotGranted 25 = .ok (.iconst 1, 1) := by decide +kernel
theorem dX11_whyNotGranted_26 : decode cX11_whyNotGranted 26 = .ok (.goto 4, 3) := by decide +kernel
theorem dX11_whyNotGranted_29 : decode cX11_whyNotGranted 29 = .ok (.iconst 0, 1) := by decide +kernel
theorem dX11_whyNotGranted_30 : decode cX11_whyNotGranted 30 = .ok (.iconst 0, 1) := by decide +kernel
theorem dX11_whyNotGranted_31 : decode cX11_whyNotGranted 31 = .ok (.invokevirtual 172, 3) := by decide +kernel
theorem dX11_whyNotGranted_34 : decode cX11_whyNotGranted 34 = .ok (.ifCond .eq 5, 3) := by decide +kernel
theorem dX11_whyNotGranted_37 : decode cX11_whyNotGranted 37 = .ok (.iconst 0, 1) := by decide +kernel
theorem dX11_whyNotGranted_38 : decode cX11_whyNotGranted 38 = .ok (.ireturn, 1) := by decide +kernel
theorem dX11_whyNotGranted_39 : decode cX11_whyNotGranted 39 = .ok (.aload_n 0, 1) := by decide +kernel
theorem dX11_whyNotGranted_40 : decode cX11_whyNotGranted 40 = .ok (.iload_n 1, 1) := by decide +kernel
theorem dX11_whyNotGranted_41 : decode cX11_whyNotGranted 41 = .ok (.iload_n 2, 1) := by decide +kernel
theorem dX11_whyNotGranted_42 : decode cX11_whyNotGranted 42 = .ok (.iload_n 3, 1) := by decide +kernel
theorem dX11_whyNotGranted_43 : decode cX11_whyNotGranted 43 = .ok (.invokevirtual 306, 3) := by decide +kernel
theorem dX11_whyNotGranted_46 : decode cX11_whyNotGranted 46 = .ok (.ireturn, 1) := by decide +kernel
theorem dX11_largestGrant_0 : decode cX11_largestGrant 0 = .ok (.aload_n 0, 1) := by decide +kernel
theorem dX11_largestGrant_1 : decode cX11_largestGrant 1 = .ok (.aload_n 0, 1) := by decide +kernel
theorem dX11_largestGrant_2 : decode cX11_largestGrant 2 = .ok (.iload_n 1, 1) := by decide +kernel
theorem dX11_largestGrant_3 : decode cX11_largestGrant 3 = .ok (.iload_n 2, 1) := by decide +kernel
theorem dX11_largestGrant_4 : decode cX11_largestGrant 4 = .ok (.invokevirtual 299, 3) := by decide +kernel
theorem dX11_largestGrant_7 : decode cX11_largestGrant 7 = .ok (.ifCond .ne 7, 3) := by decide +kernel
theorem dX11_largestGrant_10 : decode cX11_largestGrant 10 = .ok (.iconst 1, 1) := by decide +kernel
theorem dX11_largestGrant_11 : decode cX11_largestGrant 11 = .ok (.goto 4, 3) := by decide +kernel
theorem dX11_largestGrant_14 : decode cX11_largestGrant 14 = .ok (.iconst 0, 1) := by decide +kernel
theorem dX11_largestGrant_15 : decode cX11_largestGrant 15 = .ok (.iconst 0, 1) := by decide +kernel
theorem dX11_largestGrant_16 : decode cX11_largestGrant 16 = .ok (.iconst 0, 1) := by decide +kernel
theorem dX11_largestGrant_17 : decode cX11_largestGrant 17 = .ok (.invokevirtual 172, 3) := by decide +kernel
theorem dX11_largestGrant_20 : decode cX11_largestGrant 20 = .ok (.ifCond .eq 5, 3) := by decide +kernel
theorem dX11_largestGrant_23 : decode cX11_largestGrant 23 = .ok (.iconst 0, 1) := by decide +kernel
theorem dX11_largestGrant_24 : decode cX11_largestGrant 24 = .ok (.ireturn, 1) := by decide +kernel
theorem dX11_largestGrant_25 : decode cX11_largestGrant 25 = .ok (.bipush 50, 2) := by decide +kernel
theorem dX11_largestGrant_27 : decode cX11_largestGrant 27 = .ok (.istore_n 3, 1) := by decide +kernel
theorem dX11_largestGrant_28 : decode cX11_largestGrant 28 = .ok (.iload_n 3, 1) := by decide +kernel
theorem dX11_largestGrant_29 : decode cX11_largestGrant 29 = .ok (.ifCond .le 21, 3) := by decide +kernel
theorem dX11_largestGrant_32 : decode cX11_largestGrant 32 = .ok (.aload_n 0, 1) := by decide +kernel
theorem dX11_largestGrant_33 : decode cX11_largestGrant 33 = .ok (.iload_n 1, 1) := by decide +kernel
theorem dX11_largestGrant_34 : decode cX11_largestGrant 34 = .ok (.iload_n 2, 1) := by decide +kernel
theorem dX11_largestGrant_35 : decode cX11_largestGrant 35 = .ok (.iload_n 3, 1) := by decide +kernel
theorem dX11_largestGrant_36 : decode cX11_largestGrant 36 = .ok (.invokevirtual 306, 3) := by decide +kernel
theorem dX11_largestGrant_39 : decode cX11_largestGrant 39 = .ok (.ifCond .ne 5, 3) := by decide +kernel
theorem dX11_largestGrant_42 : decode cX11_largestGrant 42 = .ok (.iload_n 3, 1) := by decide +kernel
theorem dX11_largestGrant_43 : decode cX11_largestGrant 43 = .ok (.ireturn, 1) := by decide +kernel
theorem dX11_largestGrant_44 : decode cX11_largestGrant 44 = .ok (.iinc 3 (-1), 3) := by decide +kernel
theorem dX11_largestGrant_47 : decode cX11_largestGrant 47 = .ok (.goto (-19), 3) := by decide +kernel
theorem dX11_largestGrant_50 : decode cX11_largestGrant 50 = .ok (.iconst 0, 1) := by decide +kernel
theorem dX11_largestGrant_51 : decode cX11_largestGrant 51 = .ok (.ireturn, 1) := by decide +kernel
theorem dX11_safeCapacity_0 : decode cX11_safeCapacity 0 = .ok (.aload_n 0, 1) := by decide +kernel
theorem dX11_safeCapacity_1 : decode cX11_safeCapacity 1 = .ok (.aload_n 0, 1) := by decide +kernel
theorem dX11_safeCapacity_2 : decode cX11_safeCapacity 2 = .ok (.iload_n 1, 1) := by decide +kernel
theorem dX11_safeCapacity_3 : decode cX11_safeCapacity 3 = .ok (.invokevirtual 98, 3) := by decide +kernel
theorem dX11_safeCapacity_6 : decode cX11_safeCapacity 6 = .ok (.ifCond .ne 7, 3) := by decide +kernel
theorem dX11_safeCapacity_9 : decode cX11_safeCapacity 9 = .ok (.iconst 1, 1) := by decide +kernel
theorem dX11_safeCapacity_10 : decode cX11_safeCapacity 10 = .ok (.goto 4, 3) := by decide +kernel
theorem dX11_safeCapacity_13 : decode cX11_safeCapacity 13 = .ok (.iconst 0, 1) := by decide +kernel
theorem dX11_safeCapacity_14 : decode cX11_safeCapacity 14 = .ok (.iconst 0, 1) := by decide +kernel
theorem dX11_safeCapacity_15 : decode cX11_safeCapacity 15 = .ok (.iconst 0, 1) := by decide +kernel
theorem dX11_safeCapacity_16 : decode cX11_safeCapacity 16 = .ok (.invokevirtual 172, 3) := by decide +kernel
theorem dX11_safeCapacity_19 : decode cX11_safeCapacity 19 = .ok (.ifCond .eq 5, 3) := by decide +kernel
theorem dX11_safeCapacity_22 : decode cX11_safeCapacity 22 = .ok (.iconst 0, 1) := by decide +kernel
theorem dX11_safeCapacity_23 : decode cX11_safeCapacity 23 = .ok (.ireturn, 1) := by decide +kernel
theorem dX11_safeCapacity_24 : decode cX11_safeCapacity 24 = .ok (.aload_n 0, 1) := by decide +kernel
theorem dX11_safeCapacity_25 : decode cX11_safeCapacity 25 = .ok (.iload_n 1, 1) := by decide +kernel
theorem dX11_safeCapacity_26 : decode cX11_safeCapacity 26 = .ok (.invokevirtual 109, 3) := by decide +kernel
theorem dX11_safeCapacity_29 : decode cX11_safeCapacity 29 = .ok (.istore_n 2, 1) := by decide +kernel
theorem dX11_safeCapacity_30 : decode cX11_safeCapacity 30 = .ok (.iconst (-1), 1) := by decide +kernel
theorem dX11_safeCapacity_31 : decode cX11_safeCapacity 31 = .ok (.istore_n 3, 1) := by decide +kernel
theorem dX11_safeCapacity_32 : decode cX11_safeCapacity 32 = .ok (.aload_n 0, 1) := by decide +kernel
theorem dX11_safeCapacity_33 : decode cX11_safeCapacity 33 = .ok (.iload_n 1, 1) := by decide +kernel
theorem dX11_safeCapacity_34 : decode cX11_safeCapacity 34 = .ok (.invokevirtual 113, 3) := by decide +kernel
theorem dX11_safeCapacity_37 : decode cX11_safeCapacity 37 = .ok (.istore 4, 2) := by decide +kernel
theorem dX11_safeCapacity_39 : decode cX11_safeCapacity 39 = .ok (.iload 4, 2) := by decide +kernel
theorem dX11_safeCapacity_41 : decode cX11_safeCapacity 41 = .ok (.sipush 400, 3) := by decide +kernel
theorem dX11_safeCapacity_44 : decode cX11_safeCapacity 44 = .ok (.if_icmp .gt 31, 3) := by decide +kernel
theorem dX11_safeCapacity_47 : decode cX11_safeCapacity 47 = .ok (.iload_n 3, 1) := by decide +kernel
theorem dX11_safeCapacity_48 : decode cX11_safeCapacity 48 = .ok (.iconst (-1), 1) := by decide +kernel
theorem dX11_safeCapacity_49 : decode cX11_safeCapacity 49 = .ok (.if_icmp .ne 26, 3) := by decide +kernel
theorem dX11_safeCapacity_52 : decode cX11_safeCapacity 52 = .ok (.aload_n 0, 1) := by decide +kernel
theorem dX11_safeCapacity_53 : decode cX11_safeCapacity 53 = .ok (.iload_n 1, 1) := by decide +kernel
theorem dX11_safeCapacity_54 : decode cX11_safeCapacity 54 = .ok (.iload 4, 2) := by decide +kernel
theorem dX11_safeCapacity_56 : decode cX11_safeCapacity 56 = .ok (.invokevirtual 160, 3) := by decide +kernel
theorem dX11_safeCapacity_59 : decode cX11_safeCapacity 59 = .ok (.aload_n 0, 1) := by decide +kernel
theorem dX11_safeCapacity_60 : decode cX11_safeCapacity 60 = .ok (.invokevirtual 139, 3) := by decide +kernel
theorem dX11_safeCapacity_63 : decode cX11_safeCapacity 63 = .ok (.ifCond .eq 6, 3) := by decide +kernel
theorem dX11_safeCapacity_66 : decode cX11_safeCapacity 66 = .ok (.iload 4, 2) := by decide +kernel
theorem dX11_safeCapacity_68 : decode cX11_safeCapacity 68 = .ok (.istore_n 3, 1) := by decide +kernel
theorem dX11_safeCapacity_69 : decode cX11_safeCapacity 69 = .ok (.iinc 4 1, 3) := by decide +kernel
theorem dX11_safeCapacity_72 : decode cX11_safeCapacity 72 = .ok (.goto (-33), 3) := by decide +kernel
theorem dX11_safeCapacity_75 : decode cX11_safeCapacity 75 = .ok (.aload_n 0, 1) := by decide +kernel
theorem dX11_safeCapacity_76 : decode cX11_safeCapacity 76 = .ok (.iload_n 1, 1) := by decide +kernel
theorem dX11_safeCapacity_77 : decode cX11_safeCapacity 77 = .ok (.iload_n 2, 1) := by decide +kernel
theorem dX11_safeCapacity_78 : decode cX11_safeCapacity 78 = .ok (.invokevirtual 160, 3) := by decide +kernel
theorem dX11_safeCapacity_81 : decode cX11_safeCapacity 81 = .ok (.iload_n 3, 1) := by decide +kernel
theorem dX11_safeCapacity_82 : decode cX11_safeCapacity 82 = .ok (.ireturn, 1) := by decide +kernel
theorem dX11_bestToFinish_0 : decode cX11_bestToFinish 0 = .ok (.aload_n 0, 1) := by decide +kernel
theorem dX11_bestToFinish_1 : decode cX11_bestToFinish 1 = .ok (.iconst 0, 1) := by decide +kernel
theorem dX11_bestToFinish_2 : decode cX11_bestToFinish 2 = .ok (.putfield 1, 3) := by decide +kernel
theorem dX11_bestToFinish_5 : decode cX11_bestToFinish 5 = .ok (.aload_n 0, 1) := by decide +kernel
theorem dX11_bestToFinish_6 : decode cX11_bestToFinish 6 = .ok (.iconst 0, 1) := by decide +kernel
theorem dX11_bestToFinish_7 : decode cX11_bestToFinish 7 = .ok (.bipush 10, 2) := by decide +kernel
theorem dX11_bestToFinish_9 : decode cX11_bestToFinish 9 = .ok (.invokevirtual 101, 3) := by decide +kernel
theorem dX11_bestToFinish_12 : decode cX11_bestToFinish 12 = .ok (.iconst 0, 1) := by decide +kernel
theorem dX11_bestToFinish_13 : decode cX11_bestToFinish 13 = .ok (.istore_n 1, 1) := by decide +kernel
theorem dX11_bestToFinish_14 : decode cX11_bestToFinish 14 = .ok (.iconst (-1), 1) := by decide +kernel
theorem dX11_bestToFinish_15 : decode cX11_bestToFinish 15 = .ok (.istore_n 2, 1) := by decide +kernel
theorem dX11_bestToFinish_16 : decode cX11_bestToFinish 16 = .ok (.iconst 0, 1) := by decide +kernel
theorem dX11_bestToFinish_17 : decode cX11_bestToFinish 17 = .ok (.istore_n 3, 1) := by decide +kernel
theorem dX11_bestToFinish_18 : decode cX11_bestToFinish 18 = .ok (.iload_n 3, 1) := by decide +kernel
theorem dX11_bestToFinish_19 : decode cX11_bestToFinish 19 = .ok (.aload_n 0, 1) := by decide +kernel
theorem dX11_bestToFinish_20 : decode cX11_bestToFinish 20 = .ok (.getfield 13, 3) := by decide +kernel
theorem dX11_bestToFinish_23 : decode cX11_bestToFinish 23 = .ok (.iconst 1, 1) := by decide +kernel
theorem dX11_bestToFinish_24 : decode cX11_bestToFinish 24 = .ok (.iaload, 1) := by decide +kernel
theorem dX11_bestToFinish_25 : decode cX11_bestToFinish 25 = .ok (.if_icmp .ge 37, 3) := by decide +kernel
theorem dX11_bestToFinish_28 : decode cX11_bestToFinish 28 = .ok (.aload_n 0, 1) := by decide +kernel
theorem dX11_bestToFinish_29 : decode cX11_bestToFinish 29 = .ok (.iload_n 3, 1) := by decide +kernel
theorem dX11_bestToFinish_30 : decode cX11_bestToFinish 30 = .ok (.invokevirtual 270, 3) := by decide +kernel
theorem dX11_bestToFinish_33 : decode cX11_bestToFinish 33 = .ok (.istore 4, 2) := by decide +kernel
theorem dX11_bestToFinish_35 : decode cX11_bestToFinish 35 = .ok (.aload_n 0, 1) := by decide +kernel
theorem dX11_bestToFinish_36 : decode cX11_bestToFinish 36 = .ok (.bipush 10, 2) := by decide +kernel
theorem dX11_bestToFinish_38 : decode cX11_bestToFinish 38 = .ok (.iconst 0, 1) := by decide +kernel
theorem dX11_bestToFinish_39 : decode cX11_bestToFinish 39 = .ok (.invokevirtual 101, 3) := by decide +kernel
theorem dX11_bestToFinish_42 : decode cX11_bestToFinish 42 = .ok (.iload 4, 2) := by decide +kernel
theorem dX11_bestToFinish_44 : decode cX11_bestToFinish 44 = .ok (.iload_n 2, 1) := by decide +kernel
theorem dX11_bestToFinish_45 : decode cX11_bestToFinish 45 = .ok (.if_icmp .gt 6, 3) := by decide +kernel
theorem dX11_bestToFinish_48 : decode cX11_bestToFinish 48 = .ok (.goto 8, 3) := by decide +kernel
theorem dX11_bestToFinish_51 : decode cX11_bestToFinish 51 = .ok (.iload_n 3, 1) := by decide +kernel
theorem dX11_bestToFinish_52 : decode cX11_bestToFinish 52 = .ok (.istore_n 1, 1) := by decide +kernel
theorem dX11_bestToFinish_53 : decode cX11_bestToFinish 53 = .ok (.iload 4, 2) := by decide +kernel
theorem dX11_bestToFinish_55 : decode cX11_bestToFinish 55 = .ok (.istore_n 2, 1) := by decide +kernel
theorem dX11_bestToFinish_56 : decode cX11_bestToFinish 56 = .ok (.iinc 3 1, 3) := by decide +kernel
theorem dX11_bestToFinish_59 : decode cX11_bestToFinish 59 = .ok (.goto (-41), 3) := by decide +kernel
theorem dX11_bestToFinish_62 : decode cX11_bestToFinish 62 = .ok (.iload_n 1, 1) := by decide +kernel
theorem dX11_bestToFinish_63 : decode cX11_bestToFinish 63 = .ok (.ireturn, 1) := by decide +kernel
theorem dX11_queueLength_0 : decode cX11_queueLength 0 = .ok (.aload_n 0, 1) := by decide +kernel
theorem dX11_queueLength_1 : decode cX11_queueLength 1 = .ok (.aload_n 0, 1) := by decide +kernel
theorem dX11_queueLength_2 : decode cX11_queueLength 2 = .ok (.getfield 13, 3) := by decide +kernel
theorem dX11_queueLength_5 : decode cX11_queueLength 5 = .ok (.bipush 6, 2) := by decide +kernel
theorem dX11_queueLength_7 : decode cX11_queueLength 7 = .ok (.iaload, 1) := by decide +kernel
theorem dX11_queueLength_8 : decode cX11_queueLength 8 = .ok (.invokevirtual 296, 3) := by decide +kernel
theorem dX11_queueLength_11 : decode cX11_queueLength 11 = .ok (.ireturn, 1) := by decide +kernel
theorem dX11_queuedHerd_0 : decode cX11_queuedHerd 0 = .ok (.aload_n 0, 1) := by decide +kernel
theorem dX11_queuedHerd_1 : decode cX11_queuedHerd 1 = .ok (.iconst 0, 1) := by decide +kernel
theorem dX11_queuedHerd_2 : decode cX11_queuedHerd 2 = .ok (.putfield 1, 3) := by decide +kernel
theorem dX11_queuedHerd_5 : decode cX11_queuedHerd 5 = .ok (.iload_n 1, 1) := by decide +kernel
theorem dX11_queuedHerd_6 : decode cX11_queuedHerd 6 = .ok (.iconst 0, 1) := by decide +kernel
theorem dX11_queuedHerd_7 : decode cX11_queuedHerd 7 = .ok (.aload_n 0, 1) := by decide +kernel
theorem dX11_queuedHerd_8 : decode cX11_queuedHerd 8 = .ok (.getfield 13, 3) := by decide +kernel
theorem dX11_queuedHerd_11 : decode cX11_queuedHerd 11 = .ok (.bipush 6, 2) := by decide +kernel
theorem dX11_queuedHerd_13 : decode cX11_queuedHerd 13 = .ok (.iaload, 1) := by decide +kernel
theorem dX11_queuedHerd_14 : decode cX11_queuedHerd 14 = .ok (.iconst 1, 1) := by decide +kernel
theorem dX11_queuedHerd_15 : decode cX11_queuedHerd 15 = .ok (.isub, 1) := by decide +kernel
theorem dX11_queuedHerd_16 : decode cX11_queuedHerd 16 = .ok (.invokestatic 90, 3) := by decide +kernel
theorem dX11_queuedHerd_19 : decode cX11_queuedHerd 19 = .ok (.ifCond .eq 15, 3) := by decide +kernel
theorem dX11_queuedHerd_22 : decode cX11_queuedHerd 22 = .ok (.aload_n 0, 1) := by decide +kernel
theorem dX11_queuedHerd_23 : decode cX11_queuedHerd 23 = .ok (.getfield 13, 3) := by decide +kernel
theorem dX11_queuedHerd_26 : decode cX11_queuedHerd 26 = .ok (.bipush 8, 2) := by decide +kernel
theorem dX11_queuedHerd_28 : decode cX11_queuedHerd 28 = .ok (.iload_n 1, 1) := by decide +kernel
theorem dX11_queuedHerd_29 : decode cX11_queuedHerd 29 = .ok (.iadd, 1) := by decide +kernel
theorem dX11_queuedHerd_30 : decode cX11_queuedHerd 30 = .ok (.iaload, 1) := by decide +kernel
theorem dX11_queuedHerd_31 : decode cX11_queuedHerd 31 = .ok (.goto 4, 3) := by decide +kernel
theorem dX11_queuedHerd_34 : decode cX11_queuedHerd 34 = .ok (.iconst (-1), 1) := by decide +kernel
theorem dX11_queuedHerd_35 : decode cX11_queuedHerd 35 = .ok (.ireturn, 1) := by decide +kernel
theorem dX11_isWaiting_0 : decode cX11_isWaiting 0 = .ok (.aload_n 0, 1) := by decide +kernel
theorem dX11_isWaiting_1 : decode cX11_isWaiting 1 = .ok (.aload_n 0, 1) := by decide +kernel
theorem dX11_isWaiting_2 : decode cX11_isWaiting 2 = .ok (.iload_n 1, 1) := by decide +kernel
theorem dX11_isWaiting_3 : decode cX11_isWaiting 3 = .ok (.invokevirtual 94, 3) := by decide +kernel
theorem dX11_isWaiting_6 : decode cX11_isWaiting 6 = .ok (.ifCond .ne 7, 3) := by decide +kernel
theorem dX11_isWaiting_9 : decode cX11_isWaiting 9 = .ok (.iconst 1, 1) := by decide +kernel
theorem dX11_isWaiting_10 : decode cX11_isWaiting 10 = .ok (.goto 4, 3) := by decide +kernel
theorem dX11_isWaiting_13 : decode cX11_isWaiting 13 = .ok (.iconst 0, 1) := by decide +kernel
theorem dX11_isWaiting_14 : decode cX11_isWaiting 14 = .ok (.iconst 0, 1) := by decide +kernel
theorem dX11_isWaiting_15 : decode cX11_isWaiting 15 = .ok (.iconst 0, 1) := by decide +kernel
theorem dX11_isWaiting_16 : decode cX11_isWaiting 16 = .ok (.invokevirtual 172, 3) := by decide +kernel
theorem dX11_isWaiting_19 : decode cX11_isWaiting 19 = .ok (.ifCond .eq 5, 3) := by decide +kernel
theorem dX11_isWaiting_22 : decode cX11_isWaiting 22 = .ok (.iconst 0, 1) := by decide +kernel
theorem dX11_isWaiting_23 : decode cX11_isWaiting 23 = .ok (.ireturn, 1) := by decide +kernel
theorem dX11_isWaiting_24 : decode cX11_isWaiting 24 = .ok (.aload_n 0, 1) := by decide +kernel
theorem dX11_isWaiting_25 : decode cX11_isWaiting 25 = .ok (.iload_n 1, 1) := by decide +kernel
theorem dX11_isWaiting_26 : decode cX11_isWaiting 26 = .ok (.invokevirtual 132, 3) := by decide +kernel
theorem dX11_isWaiting_29 : decode cX11_isWaiting 29 = .ok (.ireturn, 1) := by decide +kernel
theorem dX11_requestedPasture_0 : decode cX11_requestedPasture 0 = .ok (.aload_n 0, 1) := by decide +kernel
theorem dX11_requestedPasture_1 : decode cX11_requestedPasture 1 = .ok (.aload_n 0, 1) := by decide +kernel
theorem dX11_requestedPasture_2 : decode cX11_requestedPasture 2 = .ok (.iload_n 1, 1) := by decide +kernel
theorem dX11_requestedPasture_3 : decode cX11_requestedPasture 3 = .ok (.invokevirtual 94, 3) := by decide +kernel
theorem dX11_requestedPasture_6 : decode cX11_requestedPasture 6 = .ok (.ifCond .ne 7, 3) := by decide +kernel
theorem dX11_requestedPasture_9 : decode cX11_requestedPasture 9 = .ok (.iconst 1, 1) := by decide +kernel
theorem dX11_requestedPasture_10 : decode cX11_requestedPasture 10 = .ok (.goto 4, 3) := by decide +kernel
theorem dX11_requestedPasture_13 : decode cX11_requestedPasture 13 = .ok (.iconst 0, 1) := by decide +kernel
theorem dX11_requestedPasture_14 : decode cX11_requestedPasture 14 = .ok (.iconst 0, 1) := by decide +kernel
theorem dX11_requestedPasture_15 : decode cX11_requestedPasture 15 = .ok (.iconst 0, 1) := by decide +kernel
theorem dX11_requestedPasture_16 : decode cX11_requestedPasture 16 = .ok (.invokevirtual 172, 3) := by decide +kernel
theorem dX11_requestedPasture_19 : decode cX11_requestedPasture 19 = .ok (.ifCond .eq 5, 3) := by decide +kernel
theorem dX11_requestedPasture_22 : decode cX11_requestedPasture 22 = .ok (.iconst 0, 1) := by decide +kernel
theorem dX11_requestedPasture_23 : decode cX11_requestedPasture 23 = .ok (.ireturn, 1) := by decide +kernel
theorem dX11_requestedPasture_24 : decode cX11_requestedPasture 24 = .ok (.aload_n 0, 1) := by decide +kernel
theorem dX11_requestedPasture_25 : decode cX11_requestedPasture 25 = .ok (.iload_n 1, 1) := by decide +kernel
theorem dX11_requestedPasture_26 : decode cX11_requestedPasture 26 = .ok (.bipush 7, 2) := by decide +kernel
theorem dX11_requestedPasture_28 : decode cX11_requestedPasture 28 = .ok (.invokevirtual 105, 3) := by decide +kernel
theorem dX11_requestedPasture_31 : decode cX11_requestedPasture 31 = .ok (.ireturn, 1) := by decide +kernel
theorem dX11_requestedAmount_0 : decode cX11_requestedAmount 0 = .ok (.aload_n 0, 1) := by decide +kernel
theorem dX11_requestedAmount_1 : decode cX11_requestedAmount 1 = .ok (.aload_n 0, 1) := by decide +kernel
theorem dX11_requestedAmount_2 : decode cX11_requestedAmount 2 = .ok (.iload_n 1, 1) := by decide +kernel
theorem dX11_requestedAmount_3 : decode cX11_requestedAmount 3 = .ok (.invokevirtual 94, 3) := by decide +kernel
theorem dX11_requestedAmount_6 : decode cX11_requestedAmount 6 = .ok (.ifCond .ne 7, 3) := by decide +kernel
theorem dX11_requestedAmount_9 : decode cX11_requestedAmount 9 = .ok (.iconst 1, 1) := by decide +kernel
theorem dX11_requestedAmount_10 : decode cX11_requestedAmount 10 = .ok (.goto 4, 3) := by decide +kernel
theorem dX11_requestedAmount_13 : decode cX11_requestedAmount 13 = .ok (.iconst 0, 1) := by decide +kernel
theorem dX11_requestedAmount_14 : decode cX11_requestedAmount 14 = .ok (.iconst 0, 1) := by decide +kernel
theorem dX11_requestedAmount_15 : decode cX11_requestedAmount 15 = .ok (.iconst 0, 1) := by decide +kernel
theorem dX11_requestedAmount_16 : decode cX11_requestedAmount 16 = .ok (.invokevirtual 172, 3) := by decide +kernel
theorem dX11_requestedAmount_19 : decode cX11_requestedAmount 19 = .ok (.ifCond .eq 5, 3) := by decide +kernel
theorem dX11_requestedAmount_22 : decode cX11_requestedAmount 22 = .ok (.iconst 0, 1) := by decide +kernel
theorem dX11_requestedAmount_23 : decode cX11_requestedAmount 23 = .ok (.ireturn, 1) := by decide +kernel
theorem dX11_requestedAmount_24 : decode cX11_requestedAmount 24 = .ok (.aload_n 0, 1) := by decide +kernel
theorem dX11_requestedAmount_25 : decode cX11_requestedAmount 25 = .ok (.iload_n 1, 1) := by decide +kernel
theorem dX11_requestedAmount_26 : decode cX11_requestedAmount 26 = .ok (.bipush 8, 2) := by decide +kernel
theorem dX11_requestedAmount_28 : decode cX11_requestedAmount 28 = .ok (.invokevirtual 105, 3) := by decide +kernel
theorem dX11_requestedAmount_31 : decode cX11_requestedAmount 31 = .ok (.ireturn, 1) := by decide +kernel
theorem dX11_waitsFor_0 : decode cX11_waitsFor 0 = .ok (.aload_n 0, 1) := by decide +kernel
theorem dX11_waitsFor_1 : decode cX11_waitsFor 1 = .ok (.aload_n 0, 1) := by decide +kernel
theorem dX11_waitsFor_2 : decode cX11_waitsFor 2 = .ok (.iload_n 1, 1) := by decide +kernel
theorem dX11_waitsFor_3 : decode cX11_waitsFor 3 = .ok (.invokevirtual 94, 3) := by decide +kernel
theorem dX11_waitsFor_6 : decode cX11_waitsFor 6 = .ok (.ifCond .eq 11, 3) := by decide +kernel
theorem dX11_waitsFor_9 : decode cX11_waitsFor 9 = .ok (.aload_n 0, 1) := by decide +kernel
theorem dX11_waitsFor_10 : decode cX11_waitsFor 10 = .ok (.iload_n 2, 1) := by decide +kernel
theorem dX11_waitsFor_11 : decode cX11_waitsFor 11 = .ok (.invokevirtual 94, 3) := by decide +kernel
theorem dX11_waitsFor_14 : decode cX11_waitsFor 14 = .ok (.ifCond .ne 7, 3) := by decide +kernel
theorem dX11_waitsFor_17 : decode cX11_waitsFor 17 = .ok (.iconst 1, 1) := by decide +kernel
theorem dX11_waitsFor_18 : decode cX11_waitsFor 18 = .ok (.goto 4, 3) := by decide +kernel
theorem dX11_waitsFor_21 : decode cX11_waitsFor 21 = .ok (.iconst 0, 1) := by decide +kernel
theorem dX11_waitsFor_22 : decode cX11_waitsFor 22 = .ok (.iconst 0, 1) := by decide +kernel
theorem dX11_waitsFor_23 : decode cX11_waitsFor 23 = .ok (.iconst 0, 1) := by decide +kernel
theorem dX11_waitsFor_24 : decode cX11_waitsFor 24 = .ok (.invokevirtual 172, 3) := by decide +kernel
theorem dX11_waitsFor_27 : decode cX11_waitsFor 27 = .ok (.ifCond .eq 5, 3) := by decide +kernel
theorem dX11_waitsFor_30 : decode cX11_waitsFor 30 = .ok (.iconst 0, 1) := by decide +kernel
theorem dX11_waitsFor_31 : decode cX11_waitsFor 31 = .ok (.ireturn, 1) := by decide +kernel
theorem dX11_waitsFor_32 : decode cX11_waitsFor 32 = .ok (.aload_n 0, 1) := by decide +kernel
theorem dX11_waitsFor_33 : decode cX11_waitsFor 33 = .ok (.iload_n 1, 1) := by decide +kernel
theorem dX11_waitsFor_34 : decode cX11_waitsFor 34 = .ok (.bipush 7, 2) := by decide +kernel
theorem dX11_waitsFor_36 : decode cX11_waitsFor 36 = .ok (.invokevirtual 105, 3) := by decide +kernel
theorem dX11_waitsFor_39 : decode cX11_waitsFor 39 = .ok (.istore_n 3, 1) := by decide +kernel
theorem dX11_waitsFor_40 : decode cX11_waitsFor 40 = .ok (.iload_n 1, 1) := by decide +kernel
theorem dX11_waitsFor_41 : decode cX11_waitsFor 41 = .ok (.iload_n 2, 1) := by decide +kernel
theorem dX11_waitsFor_42 : decode cX11_waitsFor 42 = .ok (.if_icmp .eq 8, 3) := by decide +kernel
theorem dX11_waitsFor_45 : decode cX11_waitsFor 45 = .ok (.iload_n 3, 1) := by decide +kernel
theorem dX11_waitsFor_46 : decode cX11_waitsFor 46 = .ok (.iconst (-1), 1) := by decide +kernel
theorem dX11_waitsFor_47 : decode cX11_waitsFor 47 = .ok (.if_icmp .ne 5, 3) := by decide +kernel
theorem dX11_waitsFor_50 : decode cX11_waitsFor 50 = .ok (.iconst 0, 1) := by decide +kernel
theorem dX11_waitsFor_51 : decode cX11_waitsFor 51 = .ok (.ireturn, 1) := by decide +kernel
theorem dX11_waitsFor_52 : decode cX11_waitsFor 52 = .ok (.aload_n 0, 1) := by decide +kernel
theorem dX11_waitsFor_53 : decode cX11_waitsFor 53 = .ok (.iload_n 1, 1) := by decide +kernel
theorem dX11_waitsFor_54 : decode cX11_waitsFor 54 = .ok (.bipush 8, 2) := by decide +kernel
theorem dX11_waitsFor_56 : decode cX11_waitsFor 56 = .ok (.invokevirtual 105, 3) := by decide +kernel
theorem dX11_waitsFor_59 : decode cX11_waitsFor 59 = .ok (.aload_n 0, 1) := by decide +kernel
theorem dX11_waitsFor_60 : decode cX11_waitsFor 60 = .ok (.iload_n 3, 1) := by decide +kernel
theorem dX11_waitsFor_61 : decode cX11_waitsFor 61 = .ok (.invokevirtual 116, 3) := by decide +kernel
theorem dX11_waitsFor_64 : decode cX11_waitsFor 64 = .ok (.if_icmp .le 19, 3) := by decide +kernel
theorem dX11_waitsFor_67 : decode cX11_waitsFor 67 = .ok (.aload_n 0, 1) := by decide +kernel
theorem dX11_waitsFor_68 : decode cX11_waitsFor 68 = .ok (.iload_n 2, 1) := by decide +kernel
theorem dX11_waitsFor_69 : decode cX11_waitsFor 69 = .ok (.bipush 14, 2) := by decide +kernel
theorem dX11_waitsFor_71 : decode cX11_waitsFor 71 = .ok (.iload_n 3, 1) := by decide +kernel
theorem dX11_waitsFor_72 : decode cX11_waitsFor 72 = .ok (.iadd, 1) := by decide +kernel
theorem dX11_waitsFor_73 : decode cX11_waitsFor 73 = .ok (.invokevirtual 105, 3) := by decide +kernel
theorem dX11_waitsFor_76 : decode cX11_waitsFor 76 = .ok (.ifCond .le 7, 3) := by decide +kernel
theorem dX11_waitsFor_79 : decode cX11_waitsFor 79 = .ok (.iconst 1, 1) := by decide +kernel
theorem dX11_waitsFor_80 : decode cX11_waitsFor 80 = .ok (.goto 4, 3) := by decide +kernel
theorem dX11_waitsFor_83 : decode cX11_waitsFor 83 = .ok (.iconst 0, 1) := by decide +kernel
theorem dX11_waitsFor_84 : decode cX11_waitsFor 84 = .ok (.ireturn, 1) := by decide +kernel
theorem dX11_isDeadlocked_0 : decode cX11_isDeadlocked 0 = .ok (.aload_n 0, 1) := by decide +kernel
theorem dX11_isDeadlocked_1 : decode cX11_isDeadlocked 1 = .ok (.aload_n 0, 1) := by decide +kernel
theorem dX11_isDeadlocked_2 : decode cX11_isDeadlocked 2 = .ok (.iload_n 1, 1) := by decide +kernel
theorem dX11_isDeadlocked_3 : decode cX11_isDeadlocked 3 = .ok (.invokevirtual 94, 3) := by decide +kernel
theorem dX11_isDeadlocked_6 : decode cX11_isDeadlocked 6 = .ok (.ifCond .ne 7, 3) := by decide +kernel
theorem dX11_isDeadlocked_9 : decode cX11_isDeadlocked 9 = .ok (.iconst 1, 1) := by decide +kernel
theorem dX11_isDeadlocked_10 : decode cX11_isDeadlocked 10 = .ok (.goto 4, 3) := by decide +kernel
theorem dX11_isDeadlocked_13 : decode cX11_isDeadlocked 13 = .ok (.iconst 0, 1) := by decide +kernel
theorem dX11_isDeadlocked_14 : decode cX11_isDeadlocked 14 = .ok (.iconst 0, 1) := by decide +kernel
theorem dX11_isDeadlocked_15 : decode cX11_isDeadlocked 15 = .ok (.iconst 0, 1) := by decide +kernel
theorem dX11_isDeadlocked_16 : decode cX11_isDeadlocked 16 = .ok (.invokevirtual 172, 3) := by decide +kernel
theorem dX11_isDeadlocked_19 : decode cX11_isDeadlocked 19 = .ok (.ifCond .eq 5, 3) := by decide +kernel
theorem dX11_isDeadlocked_22 : decode cX11_isDeadlocked 22 = .ok (.iconst 0, 1) := by decide +kernel
theorem dX11_isDeadlocked_23 : decode cX11_isDeadlocked 23 = .ok (.ireturn, 1) := by decide +kernel
theorem dX11_isDeadlocked_24 : decode cX11_isDeadlocked 24 = .ok (.aload_n 0, 1) := by decide +kernel
theorem dX11_isDeadlocked_25 : decode cX11_isDeadlocked 25 = .ok (.invokevirtual 309, 3) := by decide +kernel
theorem dX11_isDeadlocked_28 : decode cX11_isDeadlocked 28 = .ok (.aload_n 0, 1) := by decide +kernel
theorem dX11_isDeadlocked_29 : decode cX11_isDeadlocked 29 = .ok (.getfield 48, 3) := by decide +kernel
theorem dX11_isDeadlocked_32 : decode cX11_isDeadlocked 32 = .ok (.iload_n 1, 1) := by decide +kernel
theorem dX11_isDeadlocked_33 : decode cX11_isDeadlocked 33 = .ok (.baload, 1) := by decide +kernel
theorem dX11_isDeadlocked_34 : decode cX11_isDeadlocked 34 = .ok (.ifCond .ne 7, 3) := by decide +kernel
theorem dX11_isDeadlocked_37 : decode cX11_isDeadlocked 37 = .ok (.iconst 1, 1) := by decide +kernel
theorem dX11_isDeadlocked_38 : decode cX11_isDeadlocked 38 = .ok (.goto 4, 3) := by decide +kernel
theorem dX11_isDeadlocked_41 : decode cX11_isDeadlocked 41 = .ok (.iconst 0, 1) := by decide +kernel
theorem dX11_isDeadlocked_42 : decode cX11_isDeadlocked 42 = .ok (.ireturn, 1) := by decide +kernel
theorem dX11_deadlockedCount_0 : decode cX11_deadlockedCount 0 = .ok (.aload_n 0, 1) := by decide +kernel
theorem dX11_deadlockedCount_1 : decode cX11_deadlockedCount 1 = .ok (.iconst 0, 1) := by decide +kernel
theorem dX11_deadlockedCount_2 : decode cX11_deadlockedCount 2 = .ok (.putfield 1, 3) := by decide +kernel
theorem dX11_deadlockedCount_5 : decode cX11_deadlockedCount 5 = .ok (.aload_n 0, 1) := by decide +kernel
theorem dX11_deadlockedCount_6 : decode cX11_deadlockedCount 6 = .ok (.invokevirtual 309, 3) := by decide +kernel
theorem dX11_deadlockedCount_9 : decode cX11_deadlockedCount 9 = .ok (.iconst 0, 1) := by decide +kernel
theorem dX11_deadlockedCount_10 : decode cX11_deadlockedCount 10 = .ok (.istore_n 1, 1) := by decide +kernel
theorem dX11_deadlockedCount_11 : decode cX11_deadlockedCount 11 = .ok (.iconst 0, 1) := by decide +kernel
theorem dX11_deadlockedCount_12 : decode cX11_deadlockedCount 12 = .ok (.istore_n 2, 1) := by decide +kernel
theorem dX11_deadlockedCount_13 : decode cX11_deadlockedCount 13 = .ok (.iload_n 2, 1) := by decide +kernel
theorem dX11_deadlockedCount_14 : decode cX11_deadlockedCount 14 = .ok (.aload_n 0, 1) := by decide +kernel
theorem dX11_deadlockedCount_15 : decode cX11_deadlockedCount 15 = .ok (.getfield 13, 3) := by decide +kernel
theorem dX11_deadlockedCount_18 : decode cX11_deadlockedCount 18 = .ok (.iconst 1, 1) := by decide +kernel
theorem dX11_deadlockedCount_19 : decode cX11_deadlockedCount 19 = .ok (.iaload, 1) := by decide +kernel
theorem dX11_deadlockedCount_20 : decode cX11_deadlockedCount 20 = .ok (.if_icmp .ge 26, 3) := by decide +kernel
theorem dX11_deadlockedCount_23 : decode cX11_deadlockedCount 23 = .ok (.iload_n 1, 1) := by decide +kernel
theorem dX11_deadlockedCount_24 : decode cX11_deadlockedCount 24 = .ok (.aload_n 0, 1) := by decide +kernel
theorem dX11_deadlockedCount_25 : decode cX11_deadlockedCount 25 = .ok (.getfield 48, 3) := by decide +kernel
theorem dX11_deadlockedCount_28 : decode cX11_deadlockedCount 28 = .ok (.iload_n 2, 1) := by decide +kernel
theorem dX11_deadlockedCount_29 : decode cX11_deadlockedCount 29 = .ok (.baload, 1) := by decide +kernel
theorem dX11_deadlockedCount_30 : decode cX11_deadlockedCount 30 = .ok (.ifCond .eq 7, 3) := by decide +kernel
theorem dX11_deadlockedCount_33 : decode cX11_deadlockedCount 33 = .ok (.iconst 0, 1) := by decide +kernel
theorem dX11_deadlockedCount_34 : decode cX11_deadlockedCount 34 = .ok (.goto 4, 3) := by decide +kernel
theorem dX11_deadlockedCount_37 : decode cX11_deadlockedCount 37 = .ok (.iconst 1, 1) := by decide +kernel
theorem dX11_deadlockedCount_38 : decode cX11_deadlockedCount 38 = .ok (.iadd, 1) := by decide +kernel
theorem dX11_deadlockedCount_39 : decode cX11_deadlockedCount 39 = .ok (.istore_n 1, 1) := by decide +kernel
theorem dX11_deadlockedCount_40 : decode cX11_deadlockedCount 40 = .ok (.iinc 2 1, 3) := by decide +kernel
theorem dX11_deadlockedCount_43 : decode cX11_deadlockedCount 43 = .ok (.goto (-30), 3) := by decide +kernel
theorem dX11_deadlockedCount_46 : decode cX11_deadlockedCount 46 = .ok (.iload_n 1, 1) := by decide +kernel
theorem dX11_deadlockedCount_47 : decode cX11_deadlockedCount 47 = .ok (.ireturn, 1) := by decide +kernel
theorem dX11_debt_0 : decode cX11_debt 0 = .ok (.aload_n 0, 1) := by decide +kernel
theorem dX11_debt_1 : decode cX11_debt 1 = .ok (.aload_n 0, 1) := by decide +kernel
theorem dX11_debt_2 : decode cX11_debt 2 = .ok (.iload_n 1, 1) := by decide +kernel
theorem dX11_debt_3 : decode cX11_debt 3 = .ok (.invokevirtual 94, 3) := by decide +kernel
theorem dX11_debt_6 : decode cX11_debt 6 = .ok (.ifCond .eq 11, 3) := by decide +kernel
theorem dX11_debt_9 : decode cX11_debt 9 = .ok (.aload_n 0, 1) := by decide +kernel
theorem dX11_debt_10 : decode cX11_debt 10 = .ok (.iload_n 2, 1) := by decide +kernel
theorem dX11_debt_11 : decode cX11_debt 11 = .ok (.invokevirtual 94, 3) := by decide +kernel
theorem dX11_debt_14 : decode cX11_debt 14 = .ok (.ifCond .ne 7, 3) := by decide +kernel
theorem dX11_debt_17 : decode cX11_debt 17 = .ok (.iconst 1, 1) := by decide +kernel
theorem dX11_debt_18 : decode cX11_debt 18 = .ok (.goto 4, 3) := by decide +kernel
theorem dX11_debt_21 : decode cX11_debt 21 = .ok (.iconst 0, 1) := by decide +kernel
theorem dX11_debt_22 : decode cX11_debt 22 = .ok (.iconst 0, 1) := by decide +kernel
theorem dX11_debt_23 : decode cX11_debt 23 = .ok (.iconst 0, 1) := by decide +kernel
theorem dX11_debt_24 : decode cX11_debt 24 = .ok (.invokevirtual 172, 3) := by decide +kernel
theorem dX11_debt_27 : decode cX11_debt 27 = .ok (.ifCond .eq 5, 3) := by decide +kernel
theorem dX11_debt_30 : decode cX11_debt 30 = .ok (.iconst 0, 1) := by decide +kernel
theorem dX11_debt_31 : decode cX11_debt 31 = .ok (.ireturn, 1) := by decide +kernel
theorem dX11_debt_32 : decode cX11_debt 32 = .ok (.aload_n 0, 1) := by decide +kernel
theorem dX11_debt_33 : decode cX11_debt 33 = .ok (.iload_n 1, 1) := by decide +kernel
theorem dX11_debt_34 : decode cX11_debt 34 = .ok (.iload_n 2, 1) := by decide +kernel
theorem dX11_debt_35 : decode cX11_debt 35 = .ok (.invokevirtual 163, 3) := by decide +kernel
theorem dX11_debt_38 : decode cX11_debt 38 = .ok (.ireturn, 1) := by decide +kernel
theorem dX11_totalDebt_0 : decode cX11_totalDebt 0 = .ok (.aload_n 0, 1) := by decide +kernel
theorem dX11_totalDebt_1 : decode cX11_totalDebt 1 = .ok (.aload_n 0, 1) := by decide +kernel
theorem dX11_totalDebt_2 : decode cX11_totalDebt 2 = .ok (.iload_n 1, 1) := by decide +kernel
theorem dX11_totalDebt_3 : decode cX11_totalDebt 3 = .ok (.invokevirtual 94, 3) := by decide +kernel
theorem dX11_totalDebt_6 : decode cX11_totalDebt 6 = .ok (.ifCond .ne 7, 3) := by decide +kernel
theorem dX11_totalDebt_9 : decode cX11_totalDebt 9 = .ok (.iconst 1, 1) := by decide +kernel
theorem dX11_totalDebt_10 : decode cX11_totalDebt 10 = .ok (.goto 4, 3) := by decide +kernel
theorem dX11_totalDebt_13 : decode cX11_totalDebt 13 = .ok (.iconst 0, 1) := by decide +kernel
theorem dX11_totalDebt_14 : decode cX11_totalDebt 14 = .ok (.iconst 0, 1) := by decide +kernel
theorem dX11_totalDebt_15 : decode cX11_totalDebt 15 = .ok (.iconst 0, 1) := by decide +kernel
theorem dX11_totalDebt_16 : decode cX11_totalDebt 16 = .ok (.invokevirtual 172, 3) := by decide +kernel
theorem dX11_totalDebt_19 : decode cX11_totalDebt 19 = .ok (.ifCond .eq 5, 3) := by decide +kernel
theorem dX11_totalDebt_22 : decode cX11_totalDebt 22 = .ok (.iconst 0, 1) := by decide +kernel
theorem dX11_totalDebt_23 : decode cX11_totalDebt 23 = .ok (.ireturn, 1) := by decide +kernel
theorem dX11_totalDebt_24 : decode cX11_totalDebt 24 = .ok (.iconst 0, 1) := by decide +kernel
theorem dX11_totalDebt_25 : decode cX11_totalDebt 25 = .ok (.istore_n 2, 1) := by decide +kernel
theorem dX11_totalDebt_26 : decode cX11_totalDebt 26 = .ok (.iconst 0, 1) := by decide +kernel
theorem dX11_totalDebt_27 : decode cX11_totalDebt 27 = .ok (.istore_n 3, 1) := by decide +kernel
theorem dX11_totalDebt_28 : decode cX11_totalDebt 28 = .ok (.iload_n 3, 1) := by decide +kernel
theorem dX11_totalDebt_29 : decode cX11_totalDebt 29 = .ok (.aload_n 0, 1) := by decide +kernel
theorem dX11_totalDebt_30 : decode cX11_totalDebt 30 = .ok (.getfield 13, 3) := by decide +kernel
theorem dX11_totalDebt_33 : decode cX11_totalDebt 33 = .ok (.iconst 1, 1) := by decide +kernel
theorem dX11_totalDebt_34 : decode cX11_totalDebt 34 = .ok (.iaload, 1) := by decide +kernel
theorem dX11_totalDebt_35 : decode cX11_totalDebt 35 = .ok (.if_icmp .ge 18, 3) := by decide +kernel
theorem dX11_totalDebt_38 : decode cX11_totalDebt 38 = .ok (.iload_n 2, 1) := by decide +kernel
theorem dX11_totalDebt_39 : decode cX11_totalDebt 39 = .ok (.aload_n 0, 1) := by decide +kernel
theorem dX11_totalDebt_40 : decode cX11_totalDebt 40 = .ok (.iload_n 1, 1) := by decide +kernel
theorem dX11_totalDebt_41 : decode cX11_totalDebt 41 = .ok (.iload_n 3, 1) := by decide +kernel
theorem dX11_totalDebt_42 : decode cX11_totalDebt 42 = .ok (.invokevirtual 163, 3) := by decide +kernel
theorem dX11_totalDebt_45 : decode cX11_totalDebt 45 = .ok (.iadd, 1) := by decide +kernel
theorem dX11_totalDebt_46 : decode cX11_totalDebt 46 = .ok (.istore_n 2, 1) := by decide +kernel
theorem dX11_totalDebt_47 : decode cX11_totalDebt 47 = .ok (.iinc 3 1, 3) := by decide +kernel
theorem dX11_totalDebt_50 : decode cX11_totalDebt 50 = .ok (.goto (-22), 3) := by decide +kernel
theorem dX11_totalDebt_53 : decode cX11_totalDebt 53 = .ok (.iload_n 2, 1) := by decide +kernel
theorem dX11_totalDebt_54 : decode cX11_totalDebt 54 = .ok (.ireturn, 1) := by decide +kernel
theorem dX11_totalClaims_0 : decode cX11_totalClaims 0 = .ok (.aload_n 0, 1) := by decide +kernel
theorem dX11_totalClaims_1 : decode cX11_totalClaims 1 = .ok (.aload_n 0, 1) := by decide +kernel
theorem dX11_totalClaims_2 : decode cX11_totalClaims 2 = .ok (.iload_n 1, 1) := by decide +kernel
theorem dX11_totalClaims_3 : decode cX11_totalClaims 3 = .ok (.invokevirtual 94, 3) := by decide +kernel
theorem dX11_totalClaims_6 : decode cX11_totalClaims 6 = .ok (.ifCond .ne 7, 3) := by decide +kernel
theorem dX11_totalClaims_9 : decode cX11_totalClaims 9 = .ok (.iconst 1, 1) := by decide +kernel
theorem dX11_totalClaims_10 : decode cX11_totalClaims 10 = .ok (.goto 4, 3) := by decide +kernel
theorem dX11_totalClaims_13 : decode cX11_totalClaims 13 = .ok (.iconst 0, 1) := by decide +kernel
theorem dX11_totalClaims_14 : decode cX11_totalClaims 14 = .ok (.iconst 0, 1) := by decide +kernel
theorem dX11_totalClaims_15 : decode cX11_totalClaims 15 = .ok (.iconst 0, 1) := by decide +kernel
theorem dX11_totalClaims_16 : decode cX11_totalClaims 16 = .ok (.invokevirtual 172, 3) := by decide +kernel
theorem dX11_totalClaims_19 : decode cX11_totalClaims 19 = .ok (.ifCond .eq 5, 3) := by decide +kernel
theorem dX11_totalClaims_22 : decode cX11_totalClaims 22 = .ok (.iconst 0, 1) := by decide +kernel
theorem dX11_totalClaims_23 : decode cX11_totalClaims 23 = .ok (.ireturn, 1) := by decide +kernel
theorem dX11_totalClaims_24 : decode cX11_totalClaims 24 = .ok (.iconst 0, 1) := by decide +kernel
theorem dX11_totalClaims_25 : decode cX11_totalClaims 25 = .ok (.istore_n 2, 1) := by decide +kernel
theorem dX11_totalClaims_26 : decode cX11_totalClaims 26 = .ok (.iconst 0, 1) := by decide +kernel
theorem dX11_totalClaims_27 : decode cX11_totalClaims 27 = .ok (.istore_n 3, 1) := by decide +kernel
theorem dX11_totalClaims_28 : decode cX11_totalClaims 28 = .ok (.iload_n 3, 1) := by decide +kernel
theorem dX11_totalClaims_29 : decode cX11_totalClaims 29 = .ok (.aload_n 0, 1) := by decide +kernel
theorem dX11_totalClaims_30 : decode cX11_totalClaims 30 = .ok (.getfield 13, 3) := by decide +kernel
theorem dX11_totalClaims_33 : decode cX11_totalClaims 33 = .ok (.iconst 1, 1) := by decide +kernel
theorem dX11_totalClaims_34 : decode cX11_totalClaims 34 = .ok (.iaload, 1) := by decide +kernel
theorem dX11_totalClaims_35 : decode cX11_totalClaims 35 = .ok (.if_icmp .ge 18, 3) := by decide +kernel
theorem dX11_totalClaims_38 : decode cX11_totalClaims 38 = .ok (.iload_n 2, 1) := by decide +kernel
theorem dX11_totalClaims_39 : decode cX11_totalClaims 39 = .ok (.aload_n 0, 1) := by decide +kernel
theorem dX11_totalClaims_40 : decode cX11_totalClaims 40 = .ok (.iload_n 3, 1) := by decide +kernel
theorem dX11_totalClaims_41 : decode cX11_totalClaims 41 = .ok (.iload_n 1, 1) := by decide +kernel
theorem dX11_totalClaims_42 : decode cX11_totalClaims 42 = .ok (.invokevirtual 163, 3) := by decide +kernel
theorem dX11_totalClaims_45 : decode cX11_totalClaims 45 = .ok (.iadd, 1) := by decide +kernel
theorem dX11_totalClaims_46 : decode cX11_totalClaims 46 = .ok (.istore_n 2, 1) := by decide +kernel
theorem dX11_totalClaims_47 : decode cX11_totalClaims 47 = .ok (.iinc 3 1, 3) := by decide +kernel
theorem dX11_totalClaims_50 : decode cX11_totalClaims 50 = .ok (.goto (-22), 3) := by decide +kernel
theorem dX11_totalClaims_53 : decode cX11_totalClaims 53 = .ok (.iload_n 2, 1) := by decide +kernel
theorem dX11_totalClaims_54 : decode cX11_totalClaims 54 = .ok (.ireturn, 1) := by decide +kernel
theorem dX11_closedCycleLength_0 : decode cX11_closedCycleLength 0 = .ok (.aload_n 0, 1) := by decide +kernel
theorem dX11_closedCycleLength_1 : decode cX11_closedCycleLength 1 = .ok (.aload_n 0, 1) := by decide +kernel
theorem dX11_closedCycleLength_2 : decode cX11_closedCycleLength 2 = .ok (.iload_n 1, 1) := by decide +kernel
theorem dX11_closedCycleLength_3 : decode cX11_closedCycleLength 3 = .ok (.invokevirtual 94, 3) := by decide +kernel
theorem dX11_closedCycleLength_6 : decode cX11_closedCycleLength 6 = .ok (.ifCond .eq 11, 3) := by decide +kernel
theorem dX11_closedCycleLength_9 : decode cX11_closedCycleLength 9 = .ok (.aload_n 0, 1) := by decide +kernel
theorem dX11_closedCycleLength_10 : decode cX11_closedCycleLength 10 = .ok (.iload_n 2, 1) := by decide +kernel
theorem dX11_closedCycleLength_11 : decode cX11_closedCycleLength 11 = .ok (.invokevirtual 94, 3) := by decide +kernel
theorem dX11_closedCycleLength_14 : decode cX11_closedCycleLength 14 = .ok (.ifCond .ne 7, 3) := by decide +kernel
theorem dX11_closedCycleLength_17 : decode cX11_closedCycleLength 17 = .ok (.iconst 1, 1) := by decide +kernel
theorem dX11_closedCycleLength_18 : decode cX11_closedCycleLength 18 = .ok (.goto 4, 3) := by decide +kernel
theorem dX11_closedCycleLength_21 : decode cX11_closedCycleLength 21 = .ok (.iconst 0, 1) := by decide +kernel
theorem dX11_closedCycleLength_22 : decode cX11_closedCycleLength 22 = .ok (.iconst 0, 1) := by decide +kernel
theorem dX11_closedCycleLength_23 : decode cX11_closedCycleLength 23 = .ok (.iconst 0, 1) := by decide +kernel
theorem dX11_closedCycleLength_24 : decode cX11_closedCycleLength 24 = .ok (.invokevirtual 172, 3) := by decide +kernel
theorem dX11_closedCycleLength_27 : decode cX11_closedCycleLength 27 = .ok (.ifCond .eq 5, 3) := by decide +kernel
theorem dX11_closedCycleLength_30 : decode cX11_closedCycleLength 30 = .ok (.iconst 0, 1) := by decide +kernel
theorem dX11_closedCycleLength_31 : decode cX11_closedCycleLength 31 = .ok (.ireturn, 1) := by decide +kernel
theorem dX11_closedCycleLength_32 : decode cX11_closedCycleLength 32 = .ok (.aload_n 0, 1) := by decide +kernel
theorem dX11_closedCycleLength_33 : decode cX11_closedCycleLength 33 = .ok (.iload_n 1, 1) := by decide +kernel
theorem dX11_closedCycleLength_34 : decode cX11_closedCycleLength 34 = .ok (.iload_n 2, 1) := by decide +kernel
theorem dX11_closedCycleLength_35 : decode cX11_closedCycleLength 35 = .ok (.invokevirtual 169, 3) := by decide +kernel
theorem dX11_closedCycleLength_38 : decode cX11_closedCycleLength 38 = .ok (.ireturn, 1) := by decide +kernel
theorem dX11_debtDepth_0 : decode cX11_debtDepth 0 = .ok (.aload_n 0, 1) := by decide +kernel
theorem dX11_debtDepth_1 : decode cX11_debtDepth 1 = .ok (.aload_n 0, 1) := by decide +kernel
theorem dX11_debtDepth_2 : decode cX11_debtDepth 2 = .ok (.iload_n 1, 1) := by decide +kernel
theorem dX11_debtDepth_3 : decode cX11_debtDepth 3 = .ok (.invokevirtual 94, 3) := by decide +kernel
theorem dX11_debtDepth_6 : decode cX11_debtDepth 6 = .ok (.ifCond .ne 7, 3) := by decide +kernel
theorem dX11_debtDepth_9 : decode cX11_debtDepth 9 = .ok (.iconst 1, 1) := by decide +kernel
theorem dX11_debtDepth_10 : decode cX11_debtDepth 10 = .ok (.goto 4, 3) := by decide +kernel
theorem dX11_debtDepth_13 : decode cX11_debtDepth 13 = .ok (.iconst 0, 1) := by decide +kernel
theorem dX11_debtDepth_14 : decode cX11_debtDepth 14 = .ok (.iconst 0, 1) := by decide +kernel
theorem dX11_debtDepth_15 : decode cX11_debtDepth 15 = .ok (.iconst 0, 1) := by decide +kernel
theorem dX11_debtDepth_16 : decode cX11_debtDepth 16 = .ok (.invokevirtual 172, 3) := by decide +kernel
theorem dX11_debtDepth_19 : decode cX11_debtDepth 19 = .ok (.ifCond .eq 5, 3) := by decide +kernel
theorem dX11_debtDepth_22 : decode cX11_debtDepth 22 = .ok (.iconst 0, 1) := by decide +kernel
theorem dX11_debtDepth_23 : decode cX11_debtDepth 23 = .ok (.ireturn, 1) := by decide +kernel
theorem dX11_debtDepth_24 : decode cX11_debtDepth 24 = .ok (.aload_n 0, 1) := by decide +kernel
theorem dX11_debtDepth_25 : decode cX11_debtDepth 25 = .ok (.invokevirtual 312, 3) := by decide +kernel
theorem dX11_debtDepth_28 : decode cX11_debtDepth 28 = .ok (.aload_n 0, 1) := by decide +kernel
theorem dX11_debtDepth_29 : decode cX11_debtDepth 29 = .ok (.getfield 54, 3) := by decide +kernel
theorem dX11_debtDepth_32 : decode cX11_debtDepth 32 = .ok (.iload_n 1, 1) := by decide +kernel
theorem dX11_debtDepth_33 : decode cX11_debtDepth 33 = .ok (.iaload, 1) := by decide +kernel
theorem dX11_debtDepth_34 : decode cX11_debtDepth 34 = .ok (.ireturn, 1) := by decide +kernel
theorem dX11_areDebtorsDone_0 : decode cX11_areDebtorsDone 0 = .ok (.iconst 0, 1) := by decide +kernel
theorem dX11_areDebtorsDone_1 : decode cX11_areDebtorsDone 1 = .ok (.istore_n 2, 1) := by decide +kernel
theorem dX11_areDebtorsDone_2 : decode cX11_areDebtorsDone 2 = .ok (.iload_n 2, 1) := by decide +kernel
theorem dX11_areDebtorsDone_3 : decode cX11_areDebtorsDone 3 = .ok (.aload_n 0, 1) := by decide +kernel
theorem dX11_areDebtorsDone_4 : decode cX11_areDebtorsDone 4 = .ok (.getfield 13, 3) := by decide +kernel
theorem dX11_areDebtorsDone_7 : decode cX11_areDebtorsDone 7 = .ok (.iconst 1, 1) := by decide +kernel
theorem dX11_areDebtorsDone_8 : decode cX11_areDebtorsDone 8 = .ok (.iaload, 1) := by decide +kernel
theorem dX11_areDebtorsDone_9 : decode cX11_areDebtorsDone 9 = .ok (.if_icmp .ge 29, 3) := by decide +kernel
theorem dX11_areDebtorsDone_12 : decode cX11_areDebtorsDone 12 = .ok (.aload_n 0, 1) := by decide +kernel
theorem dX11_areDebtorsDone_13 : decode cX11_areDebtorsDone 13 = .ok (.iload_n 2, 1) := by decide +kernel
theorem dX11_areDebtorsDone_14 : decode cX11_areDebtorsDone 14 = .ok (.iload_n 1, 1) := by decide +kernel
theorem dX11_areDebtorsDone_15 : decode cX11_areDebtorsDone 15 = .ok (.invokevirtual 163, 3) := by decide +kernel
theorem dX11_areDebtorsDone_18 : decode cX11_areDebtorsDone 18 = .ok (.ifCond .le 14, 3) := by decide +kernel
theorem dX11_areDebtorsDone_21 : decode cX11_areDebtorsDone 21 = .ok (.aload_n 0, 1) := by decide +kernel
theorem dX11_areDebtorsDone_22 : decode cX11_areDebtorsDone 22 = .ok (.getfield 48, 3) := by decide +kernel
theorem dX11_areDebtorsDone_25 : decode cX11_areDebtorsDone 25 = .ok (.iload_n 2, 1) := by decide +kernel
theorem dX11_areDebtorsDone_26 : decode cX11_areDebtorsDone 26 = .ok (.baload, 1) := by decide +kernel
theorem dX11_areDebtorsDone_27 : decode cX11_areDebtorsDone 27 = .ok (.ifCond .ne 5, 3) := by decide +kernel
theorem dX11_areDebtorsDone_30 : decode cX11_areDebtorsDone 30 = .ok (.iconst 0, 1) := by decide +kernel
theorem dX11_areDebtorsDone_31 : decode cX11_areDebtorsDone 31 = .ok (.ireturn, 1) := by decide +kernel
theorem dX11_areDebtorsDone_32 : decode cX11_areDebtorsDone 32 = .ok (.iinc 2 1, 3) := by decide +kernel
theorem dX11_areDebtorsDone_35 : decode cX11_areDebtorsDone 35 = .ok (.goto (-33), 3) := by decide +kernel
theorem dX11_areDebtorsDone_38 : decode cX11_areDebtorsDone 38 = .ok (.iconst 1, 1) := by decide +kernel
theorem dX11_areDebtorsDone_39 : decode cX11_areDebtorsDone 39 = .ok (.ireturn, 1) := by decide +kernel
theorem dX11_settlementOrder_0 : decode cX11_settlementOrder 0 = .ok (.aload_n 0, 1) := by decide +kernel
theorem dX11_settlementOrder_1 : decode cX11_settlementOrder 1 = .ok (.aload_n 0, 1) := by decide +kernel
theorem dX11_settlementOrder_2 : decode cX11_settlementOrder 2 = .ok (.iload_n 1, 1) := by decide +kernel
theorem dX11_settlementOrder_3 : decode cX11_settlementOrder 3 = .ok (.invokevirtual 94, 3) := by decide +kernel
theorem dX11_settlementOrder_6 : decode cX11_settlementOrder 6 = .ok (.ifCond .ne 7, 3) := by decide +kernel
theorem dX11_settlementOrder_9 : decode cX11_settlementOrder 9 = .ok (.iconst 1, 1) := by decide +kernel
theorem dX11_settlementOrder_10 : decode cX11_settlementOrder 10 = .ok (.goto 4, 3) := by decide +kernel
theorem dX11_settlementOrder_13 : decode cX11_settlementOrder 13 = .ok (.iconst 0, 1) := by decide +kernel
theorem dX11_settlementOrder_14 : decode cX11_settlementOrder 14 = .ok (.iconst 0, 1) := by decide +kernel
theorem dX11_settlementOrder_15 : decode cX11_settlementOrder 15 = .ok (.iconst 0, 1) := by decide +kernel
theorem dX11_settlementOrder_16 : decode cX11_settlementOrder 16 = .ok (.invokevirtual 172, 3) := by decide +kernel
theorem dX11_settlementOrder_19 : decode cX11_settlementOrder 19 = .ok (.ifCond .eq 5, 3) := by decide +kernel
theorem dX11_settlementOrder_22 : decode cX11_settlementOrder 22 = .ok (.iconst 0, 1) := by decide +kernel
theorem dX11_settlementOrder_23 : decode cX11_settlementOrder 23 = .ok (.ireturn, 1) := by decide +kernel
theorem dX11_settlementOrder_24 : decode cX11_settlementOrder 24 = .ok (.iconst 0, 1) := by decide +kernel
theorem dX11_settlementOrder_25 : decode cX11_settlementOrder 25 = .ok (.istore_n 2, 1) := by decide +kernel
theorem dX11_settlementOrder_26 : decode cX11_settlementOrder 26 = .ok (.iload_n 2, 1) := by decide +kernel
theorem dX11_settlementOrder_27 : decode cX11_settlementOrder 27 = .ok (.bipush 8, 2) := by decide +kernel
theorem dX11_settlementOrder_29 : decode cX11_settlementOrder 29 = .ok (.if_icmp .ge 16, 3) := by decide +kernel
theorem dX11_settlementOrder_32 : decode cX11_settlementOrder 32 = .ok (.aload_n 0, 1) := by decide +kernel
theorem dX11_settlementOrder_33 : decode cX11_settlementOrder 33 = .ok (.getfield 48, 3) := by decide +kernel
theorem dX11_settlementOrder_36 : decode cX11_settlementOrder 36 = .ok (.iload_n 2, 1) := by decide +kernel
theorem dX11_settlementOrder_37 : decode cX11_settlementOrder 37 = .ok (.iconst 0, 1) := by decide +kernel
theorem dX11_settlementOrder_38 : decode cX11_settlementOrder 38 = .ok (.bastore, 1) := by decide +kernel
theorem dX11_settlementOrder_39 : decode cX11_settlementOrder 39 = .ok (.iinc 2 1, 3) := by decide +kernel
theorem dX11_settlementOrder_42 : decode cX11_settlementOrder 42 = .ok (.goto (-16), 3) := by decide +kernel
theorem dX11_settlementOrder_45 : decode cX11_settlementOrder 45 = .ok (.iconst (-1), 1) := by decide +kernel
theorem dX11_settlementOrder_46 : decode cX11_settlementOrder 46 = .ok (.istore_n 2, 1) := by decide +kernel
theorem dX11_settlementOrder_47 : decode cX11_settlementOrder 47 = .ok (.iconst 0, 1) := by decide +kernel
theorem dX11_settlementOrder_48 : decode cX11_settlementOrder 48 = .ok (.istore_n 3, 1) := by decide +kernel
theorem dX11_settlementOrder_49 : decode cX11_settlementOrder 49 = .ok (.iload_n 3, 1) := by decide +kernel
theorem dX11_settlementOrder_50 : decode cX11_settlementOrder 50 = .ok (.iload_n 1, 1) := by decide +kernel
theorem dX11_settlementOrder_51 : decode cX11_settlementOrder 51 = .ok (.if_icmp .gt 48, 3) := by decide +kernel
theorem dX11_settlementOrder_54 : decode cX11_settlementOrder 54 = .ok (.iconst 0, 1) := by decide +kernel
theorem dX11_settlementOrder_55 : decode cX11_settlementOrder 55 = .ok (.istore 4, 2) := by decide +kernel
theorem dX11_settlementOrder_57 : decode cX11_settlementOrder 57 = .ok (.aload_n 0, 1) := by decide +kernel
theorem dX11_settlementOrder_58 : decode cX11_settlementOrder 58 = .ok (.getfield 48, 3) := by decide +kernel
theorem dX11_settlementOrder_61 : decode cX11_settlementOrder 61 = .ok (.iload 4, 2) := by decide +kernel
theorem dX11_settlementOrder_63 : decode cX11_settlementOrder 63 = .ok (.baload, 1) := by decide +kernel
theorem dX11_settlementOrder_64 : decode cX11_settlementOrder 64 = .ok (.ifCond .ne 12, 3) := by decide +kernel
theorem dX11_settlementOrder_67 : decode cX11_settlementOrder 67 = .ok (.aload_n 0, 1) := by decide +kernel
theorem dX11_settlementOrder_68 : decode cX11_settlementOrder 68 = .ok (.iload 4, 2) := by decide +kernel
theorem dX11_settlementOrder_70 : decode cX11_settlementOrder 70 = .ok (.invokevirtual 315, 3) := by decide +kernel
theorem dX11_settlementOrder_73 : decode cX11_settlementOrder 73 = .ok (.ifCond .ne 9, 3) := by decide +kernel
theorem dX11_settlementOrder_76 : decode cX11_settlementOrder 76 = .ok (.iinc 4 1, 3) := by decide +kernel
theorem dX11_settlementOrder_79 : decode cX11_settlementOrder 79 = .ok (.goto (-22), 3) := by decide +kernel
theorem dX11_settlementOrder_82 : decode cX11_settlementOrder 82 = .ok (.aload_n 0, 1) := by decide +kernel
theorem dX11_settlementOrder_83 : decode cX11_settlementOrder 83 = .ok (.getfield 48, 3) := by decide +kernel
theorem dX11_settlementOrder_86 : decode cX11_settlementOrder 86 = .ok (.iload 4, 2) := by decide +kernel
theorem dX11_settlementOrder_88 : decode cX11_settlementOrder 88 = .ok (.iconst 1, 1) := by decide +kernel
theorem dX11_settlementOrder_89 : decode cX11_settlementOrder 89 = .ok (.bastore, 1) := by decide +kernel
theorem dX11_settlementOrder_90 : decode cX11_settlementOrder 90 = .ok (.iload 4, 2) := by decide +kernel
theorem dX11_settlementOrder_92 : decode cX11_settlementOrder 92 = .ok (.istore_n 2, 1) := by decide +kernel
theorem dX11_settlementOrder_93 : decode cX11_settlementOrder 93 = .ok (.iinc 3 1, 3) := by decide +kernel
theorem dX11_settlementOrder_96 : decode cX11_settlementOrder 96 = .ok (.goto (-47), 3) := by decide +kernel
theorem dX11_settlementOrder_99 : decode cX11_settlementOrder 99 = .ok (.iload_n 2, 1) := by decide +kernel
theorem dX11_settlementOrder_100 : decode cX11_settlementOrder 100 = .ok (.ireturn, 1) := by decide +kernel
theorem dX11_transitiveClaims_0 : decode cX11_transitiveClaims 0 = .ok (.aload_n 0, 1) := by decide +kernel
theorem dX11_transitiveClaims_1 : decode cX11_transitiveClaims 1 = .ok (.aload_n 0, 1) := by decide +kernel
theorem dX11_transitiveClaims_2 : decode cX11_transitiveClaims 2 = .ok (.iload_n 1, 1) := by decide +kernel
theorem dX11_transitiveClaims_3 : decode cX11_transitiveClaims 3 = .ok (.invokevirtual 94, 3) := by decide +kernel
theorem dX11_transitiveClaims_6 : decode cX11_transitiveClaims 6 = .ok (.ifCond .ne 7, 3) := by decide +kernel
theorem dX11_transitiveClaims_9 : decode cX11_transitiveClaims 9 = .ok (.iconst 1, 1) := by decide +kernel
theorem dX11_transitiveClaims_10 : decode cX11_transitiveClaims 10 = .ok (.goto 4, 3) := by decide +kernel
theorem dX11_transitiveClaims_13 : decode cX11_transitiveClaims 13 = .ok (.iconst 0, 1) := by decide +kernel
theorem dX11_transitiveClaims_14 : decode cX11_transitiveClaims 14 = .ok (.iconst 0, 1) := by decide +kernel
theorem dX11_transitiveClaims_15 : decode cX11_transitiveClaims 15 = .ok (.iconst 0, 1) := by decide +kernel
theorem dX11_transitiveClaims_16 : decode cX11_transitiveClaims 16 = .ok (.invokevirtual 172, 3) := by decide +kernel
theorem dX11_transitiveClaims_19 : decode cX11_transitiveClaims 19 = .ok (.ifCond .eq 5, 3) := by decide +kernel
theorem dX11_transitiveClaims_22 : decode cX11_transitiveClaims 22 = .ok (.iconst 0, 1) := by decide +kernel
theorem dX11_transitiveClaims_23 : decode cX11_transitiveClaims 23 = .ok (.ireturn, 1) := by decide +kernel
theorem dX11_transitiveClaims_24 : decode cX11_transitiveClaims 24 = .ok (.iconst 0, 1) := by decide +kernel
theorem dX11_transitiveClaims_25 : decode cX11_transitiveClaims 25 = .ok (.istore_n 2, 1) := by decide +kernel
theorem dX11_transitiveClaims_26 : decode cX11_transitiveClaims 26 = .ok (.iconst 0, 1) := by decide +kernel
theorem dX11_transitiveClaims_27 : decode cX11_transitiveClaims 27 = .ok (.istore_n 3, 1) := by decide +kernel
theorem dX11_transitiveClaims_28 : decode cX11_transitiveClaims 28 = .ok (.iload_n 3, 1) := by decide +kernel
theorem dX11_transitiveClaims_29 : decode cX11_transitiveClaims 29 = .ok (.aload_n 0, 1) := by decide +kernel
theorem dX11_transitiveClaims_30 : decode cX11_transitiveClaims 30 = .ok (.getfield 13, 3) := by decide +kernel
theorem dX11_transitiveClaims_33 : decode cX11_transitiveClaims 33 = .ok (.iconst 1, 1) := by decide +kernel
theorem dX11_transitiveClaims_34 : decode cX11_transitiveClaims 34 = .ok (.iaload, 1) := by decide +kernel
theorem dX11_transitiveClaims_35 : decode cX11_transitiveClaims 35 = .ok (.if_icmp .ge 57, 3) := by decide +kernel
theorem dX11_transitiveClaims_38 : decode cX11_transitiveClaims 38 = .ok (.aload_n 0, 1) := by decide +kernel
theorem dX11_transitiveClaims_39 : decode cX11_transitiveClaims 39 = .ok (.iload_n 3, 1) := by decide +kernel
theorem dX11_transitiveClaims_40 : decode cX11_transitiveClaims 40 = .ok (.invokevirtual 166, 3) := by decide +kernel
theorem dX11_transitiveClaims_43 : decode cX11_transitiveClaims 43 = .ok (.aload_n 0, 1) := by decide +kernel
theorem dX11_transitiveClaims_44 : decode cX11_transitiveClaims 44 = .ok (.getfield 51, 3) := by decide +kernel
theorem dX11_transitiveClaims_47 : decode cX11_transitiveClaims 47 = .ok (.iload_n 1, 1) := by decide +kernel
theorem dX11_transitiveClaims_48 : decode cX11_transitiveClaims 48 = .ok (.iaload, 1) := by decide +kernel
theorem dX11_transitiveClaims_49 : decode cX11_transitiveClaims 49 = .ok (.iconst (-1), 1) := by decide +kernel
theorem dX11_transitiveClaims_50 : decode cX11_transitiveClaims 50 = .ok (.if_icmp .ne 6, 3) := by decide +kernel
theorem dX11_transitiveClaims_53 : decode cX11_transitiveClaims 53 = .ok (.goto 33, 3) := by decide +kernel
theorem dX11_transitiveClaims_56 : decode cX11_transitiveClaims 56 = .ok (.iconst 0, 1) := by decide +kernel
theorem dX11_transitiveClaims_57 : decode cX11_transitiveClaims 57 = .ok (.istore 4, 2) := by decide +kernel
theorem dX11_transitiveClaims_59 : decode cX11_transitiveClaims 59 = .ok (.iload 4, 2) := by decide +kernel
theorem dX11_transitiveClaims_61 : decode cX11_transitiveClaims 61 = .ok (.aload_n 0, 1) := by decide +kernel
theorem dX11_transitiveClaims_62 : decode cX11_transitiveClaims 62 = .ok (.getfield 13, 3) := by decide +kernel
theorem dX11_transitiveClaims_65 : decode cX11_transitiveClaims 65 = .ok (.iconst 1, 1) := by decide +kernel
theorem dX11_transitiveClaims_66 : decode cX11_transitiveClaims 66 = .ok (.iaload, 1) := by decide +kernel
theorem dX11_transitiveClaims_67 : decode cX11_transitiveClaims 67 = .ok (.if_icmp .ge 19, 3) := by decide +kernel
theorem dX11_transitiveClaims_70 : decode cX11_transitiveClaims 70 = .ok (.iload_n 2, 1) := by decide +kernel
theorem dX11_transitiveClaims_71 : decode cX11_transitiveClaims 71 = .ok (.aload_n 0, 1) := by decide +kernel
theorem dX11_transitiveClaims_72 : decode cX11_transitiveClaims 72 = .ok (.iload 4, 2) := by decide +kernel
theorem dX11_transitiveClaims_74 : decode cX11_transitiveClaims 74 = .ok (.iload_n 3, 1) := by decide +kernel
theorem dX11_transitiveClaims_75 : decode cX11_transitiveClaims 75 = .ok (.invokevirtual 163, 3) := by decide +kernel
theorem dX11_transitiveClaims_78 : decode cX11_transitiveClaims 78 = .ok (.iadd, 1) := by decide +kernel
theorem dX11_transitiveClaims_79 : decode cX11_transitiveClaims 79 = .ok (.istore_n 2, 1) := by decide +kernel
theorem dX11_transitiveClaims_80 : decode cX11_transitiveClaims 80 = .ok (.iinc 4 1, 3) := by decide +kernel
theorem dX11_transitiveClaims_83 : decode cX11_transitiveClaims 83 = .ok (.goto (-24), 3) := by decide +kernel
theorem dX11_transitiveClaims_86 : decode cX11_transitiveClaims 86 = .ok (.iinc 3 1, 3) := by decide +kernel
theorem dX11_transitiveClaims_89 : decode cX11_transitiveClaims 89 = .ok (.goto (-61), 3) := by decide +kernel
theorem dX11_transitiveClaims_92 : decode cX11_transitiveClaims 92 = .ok (.iload_n 2, 1) := by decide +kernel
theorem dX11_transitiveClaims_93 : decode cX11_transitiveClaims 93 = .ok (.ireturn, 1) := by decide +kernel
theorem dX11_immediateGrants_0 : decode cX11_immediateGrants 0 = .ok (.aload_n 0, 1) := by decide +kernel
theorem dX11_immediateGrants_1 : decode cX11_immediateGrants 1 = .ok (.aload_n 0, 1) := by decide +kernel
theorem dX11_immediateGrants_2 : decode cX11_immediateGrants 2 = .ok (.getfield 13, 3) := by decide +kernel
theorem dX11_immediateGrants_5 : decode cX11_immediateGrants 5 = .ok (.iconst 2, 1) := by decide +kernel
theorem dX11_immediateGrants_6 : decode cX11_immediateGrants 6 = .ok (.iaload, 1) := by decide +kernel
theorem dX11_immediateGrants_7 : decode cX11_immediateGrants 7 = .ok (.invokevirtual 296, 3) := by decide +kernel
theorem dX11_immediateGrants_10 : decode cX11_immediateGrants 10 = .ok (.ireturn, 1) := by decide +kernel
theorem dX11_queuedGrants_0 : decode cX11_queuedGrants 0 = .ok (.aload_n 0, 1) := by decide +kernel
theorem dX11_queuedGrants_1 : decode cX11_queuedGrants 1 = .ok (.aload_n 0, 1) := by decide +kernel
theorem dX11_queuedGrants_2 : decode cX11_queuedGrants 2 = .ok (.getfield 13, 3) := by decide +kernel
theorem dX11_queuedGrants_5 : decode cX11_queuedGrants 5 = .ok (.iconst 3, 1) := by decide +kernel
theorem dX11_queuedGrants_6 : decode cX11_queuedGrants 6 = .ok (.iaload, 1) := by decide +kernel
theorem dX11_queuedGrants_7 : decode cX11_queuedGrants 7 = .ok (.invokevirtual 296, 3) := by decide +kernel
theorem dX11_queuedGrants_10 : decode cX11_queuedGrants 10 = .ok (.ireturn, 1) := by decide +kernel
theorem dX11_queuedRequests_0 : decode cX11_queuedRequests 0 = .ok (.aload_n 0, 1) := by decide +kernel
theorem dX11_queuedRequests_1 : decode cX11_queuedRequests 1 = .ok (.aload_n 0, 1) := by decide +kernel
theorem dX11_queuedRequests_2 : decode cX11_queuedRequests 2 = .ok (.getfield 13, 3) := by decide +kernel
theorem dX11_queuedRequests_5 : decode cX11_queuedRequests 5 = .ok (.iconst 4, 1) := by decide +kernel
theorem dX11_queuedRequests_6 : decode cX11_queuedRequests 6 = .ok (.iaload, 1) := by decide +kernel
theorem dX11_queuedRequests_7 : decode cX11_queuedRequests 7 = .ok (.invokevirtual 296, 3) := by decide +kernel
theorem dX11_queuedRequests_10 : decode cX11_queuedRequests 10 = .ok (.ireturn, 1) := by decide +kernel
theorem dX11_withdrawnRequests_0 : decode cX11_withdrawnRequests 0 = .ok (.aload_n 0, 1) := by decide +kernel
theorem dX11_withdrawnRequests_1 : decode cX11_withdrawnRequests 1 = .ok (.aload_n 0, 1) := by decide +kernel
theorem dX11_withdrawnRequests_2 : decode cX11_withdrawnRequests 2 = .ok (.getfield 13, 3) := by decide +kernel
theorem dX11_withdrawnRequests_5 : decode cX11_withdrawnRequests 5 = .ok (.iconst 5, 1) := by decide +kernel
theorem dX11_withdrawnRequests_6 : decode cX11_withdrawnRequests 6 = .ok (.iaload, 1) := by decide +kernel
theorem dX11_withdrawnRequests_7 : decode cX11_withdrawnRequests 7 = .ok (.invokevirtual 296, 3) := by decide +kernel
theorem dX11_withdrawnRequests_10 : decode cX11_withdrawnRequests 10 = .ok (.ireturn, 1) := by decide +kernel
theorem dX11_utilization_0 : decode cX11_utilization 0 = .ok (.aload_n 0, 1) := by decide +kernel
theorem dX11_utilization_1 : decode cX11_utilization 1 = .ok (.aload_n 0, 1) := by decide +kernel
theorem dX11_utilization_2 : decode cX11_utilization 2 = .ok (.iload_n 1, 1) := by decide +kernel
theorem dX11_utilization_3 : decode cX11_utilization 3 = .ok (.invokevirtual 98, 3) := by decide +kernel
theorem dX11_utilization_6 : decode cX11_utilization 6 = .ok (.ifCond .ne 7, 3) := by decide +kernel
theorem dX11_utilization_9 : decode cX11_utilization 9 = .ok (.iconst 1, 1) := by decide +kernel
theorem dX11_utilization_10 : decode cX11_utilization 10 = .ok (.goto 4, 3) := by decide +kernel
theorem dX11_utilization_13 : decode cX11_utilization 13 = .ok (.iconst 0, 1) := by decide +kernel
theorem dX11_utilization_14 : decode cX11_utilization 14 = .ok (.iconst 0, 1) := by decide +kernel
theorem dX11_utilization_15 : decode cX11_utilization 15 = .ok (.iconst 0, 1) := by decide +kernel
theorem dX11_utilization_16 : decode cX11_utilization 16 = .ok (.invokevirtual 172, 3) := by decide +kernel
theorem dX11_utilization_19 : decode cX11_utilization 19 = .ok (.ifCond .eq 5, 3) := by decide +kernel
theorem dX11_utilization_22 : decode cX11_utilization 22 = .ok (.fconst 0, 1) := by decide +kernel
theorem dX11_utilization_23 : decode cX11_utilization 23 = .ok (.freturn, 1) := by decide +kernel
theorem dX11_utilization_24 : decode cX11_utilization 24 = .ok (.aload_n 0, 1) := by decide +kernel
theorem dX11_utilization_25 : decode cX11_utilization 25 = .ok (.iload_n 1, 1) := by decide +kernel
theorem dX11_utilization_26 : decode cX11_utilization 26 = .ok (.invokevirtual 109, 3) := by decide +kernel
theorem dX11_utilization_29 : decode cX11_utilization 29 = .ok (.ifCond .ne 7, 3) := by decide +kernel
theorem dX11_utilization_32 : decode cX11_utilization 32 = .ok (.fconst 0, 1) := by decide +kernel
theorem dX11_utilization_33 : decode cX11_utilization 33 = .ok (.goto 16, 3) := by decide +kernel
theorem dX11_utilization_36 : decode cX11_utilization 36 = .ok (.aload_n 0, 1) := by decide +kernel
theorem dX11_utilization_37 : decode cX11_utilization 37 = .ok (.iload_n 1, 1) := by decide +kernel
theorem dX11_utilization_38 : decode cX11_utilization 38 = .ok (.invokevirtual 113, 3) := by decide +kernel
theorem dX11_utilization_41 : decode cX11_utilization 41 = .ok (.i2f, 1) := by decide +kernel
theorem dX11_utilization_42 : decode cX11_utilization 42 = .ok (.aload_n 0, 1) := by decide +kernel
theorem dX11_utilization_43 : decode cX11_utilization 43 = .ok (.iload_n 1, 1) := by decide +kernel
theorem dX11_utilization_44 : decode cX11_utilization 44 = .ok (.invokevirtual 109, 3) := by decide +kernel
theorem dX11_utilization_47 : decode cX11_utilization 47 = .ok (.i2f, 1) := by decide +kernel
theorem dX11_utilization_48 : decode cX11_utilization 48 = .ok (.fdiv, 1) := by decide +kernel
theorem dX11_utilization_49 : decode cX11_utilization 49 = .ok (.freturn, 1) := by decide +kernel
theorem dX11_meanDebt_0 : decode cX11_meanDebt 0 = .ok (.aload_n 0, 1) := by decide +kernel
theorem dX11_meanDebt_1 : decode cX11_meanDebt 1 = .ok (.iconst 0, 1) := by decide +kernel
theorem dX11_meanDebt_2 : decode cX11_meanDebt 2 = .ok (.putfield 1, 3) := by decide +kernel
theorem dX11_meanDebt_5 : decode cX11_meanDebt 5 = .ok (.iconst 0, 1) := by decide +kernel
theorem dX11_meanDebt_6 : decode cX11_meanDebt 6 = .ok (.istore_n 1, 1) := by decide +kernel
theorem dX11_meanDebt_7 : decode cX11_meanDebt 7 = .ok (.iconst 0, 1) := by decide +kernel
theorem dX11_meanDebt_8 : decode cX11_meanDebt 8 = .ok (.istore_n 2, 1) := by decide +kernel
theorem dX11_meanDebt_9 : decode cX11_meanDebt 9 = .ok (.iconst 0, 1) := by decide +kernel
theorem dX11_meanDebt_10 : decode cX11_meanDebt 10 = .ok (.istore_n 3, 1) := by decide +kernel
theorem dX11_meanDebt_11 : decode cX11_meanDebt 11 = .ok (.iload_n 3, 1) := by decide +kernel
theorem dX11_meanDebt_12 : decode cX11_meanDebt 12 = .ok (.aload_n 0, 1) := by decide +kernel
theorem dX11_meanDebt_13 : decode cX11_meanDebt 13 = .ok (.getfield 13, 3) := by decide +kernel
theorem dX11_meanDebt_16 : decode cX11_meanDebt 16 = .ok (.iconst 1, 1) := by decide +kernel
theorem dX11_meanDebt_17 : decode cX11_meanDebt 17 = .ok (.iaload, 1) := by decide +kernel
theorem dX11_meanDebt_18 : decode cX11_meanDebt 18 = .ok (.if_icmp .ge 57, 3) := by decide +kernel
theorem dX11_meanDebt_21 : decode cX11_meanDebt 21 = .ok (.iconst 0, 1) := by decide +kernel
theorem dX11_meanDebt_22 : decode cX11_meanDebt 22 = .ok (.istore 4, 2) := by decide +kernel
theorem dX11_meanDebt_24 : decode cX11_meanDebt 24 = .ok (.iload 4, 2) := by decide +kernel
theorem dX11_meanDebt_26 : decode cX11_meanDebt 26 = .ok (.aload_n 0, 1) := by decide +kernel
theorem dX11_meanDebt_27 : decode cX11_meanDebt 27 = .ok (.getfield 13, 3) := by decide +kernel
theorem dX11_meanDebt_30 : decode cX11_meanDebt 30 = .ok (.iconst 1, 1) := by decide +kernel
theorem dX11_meanDebt_31 : decode cX11_meanDebt 31 = .ok (.iaload, 1) := by decide +kernel
theorem dX11_meanDebt_32 : decode cX11_meanDebt 32 = .ok (.if_icmp .ge 37, 3) := by decide +kernel
theorem dX11_meanDebt_35 : decode cX11_meanDebt 35 = .ok (.iload_n 1, 1) := by decide +kernel
theorem dX11_meanDebt_36 : decode cX11_meanDebt 36 = .ok (.aload_n 0, 1) := by decide +kernel
theorem dX11_meanDebt_37 : decode cX11_meanDebt 37 = .ok (.iload_n 3, 1) := by decide +kernel
theorem dX11_meanDebt_38 : decode cX11_meanDebt 38 = .ok (.iload 4, 2) := by decide +kernel
theorem dX11_meanDebt_40 : decode cX11_meanDebt 40 = .ok (.invokevirtual 163, 3) := by decide +kernel
theorem dX11_meanDebt_43 : decode cX11_meanDebt 43 = .ok (.iadd, 1) := by decide +kernel
theorem dX11_meanDebt_44 : decode cX11_meanDebt 44 = .ok (.istore_n 1, 1) := by decide +kernel
theorem dX11_meanDebt_45 : decode cX11_meanDebt 45 = .ok (.iload_n 2, 1) := by decide +kernel
theorem dX11_meanDebt_46 : decode cX11_meanDebt 46 = .ok (.aload_n 0, 1) := by decide +kernel
theorem dX11_meanDebt_47 : decode cX11_meanDebt 47 = .ok (.iload_n 3, 1) := by decide +kernel
theorem dX11_meanDebt_48 : decode cX11_meanDebt 48 = .ok (.iload 4, 2) := by decide +kernel
theorem dX11_meanDebt_50 : decode cX11_meanDebt 50 = .ok (.invokevirtual 163, 3) := by decide +kernel
theorem dX11_meanDebt_53 : decode cX11_meanDebt 53 = .ok (.ifCond .le 7, 3) := by decide +kernel
theorem dX11_meanDebt_56 : decode cX11_meanDebt 56 = .ok (.iconst 1, 1) := by decide +kernel
theorem dX11_meanDebt_57 : decode cX11_meanDebt 57 = .ok (.goto 4, 3) := by decide +kernel
theorem dX11_meanDebt_60 : decode cX11_meanDebt 60 = .ok (.iconst 0, 1) := by decide +kernel
theorem dX11_meanDebt_61 : decode cX11_meanDebt 61 = .ok (.iadd, 1) := by decide +kernel
theorem dX11_meanDebt_62 : decode cX11_meanDebt 62 = .ok (.istore_n 2, 1) := by decide +kernel
theorem dX11_meanDebt_63 : decode cX11_meanDebt 63 = .ok (.iinc 4 1, 3) := by decide +kernel
theorem dX11_meanDebt_66 : decode cX11_meanDebt 66 = .ok (.goto (-42), 3) := by decide +kernel
theorem dX11_meanDebt_69 : decode cX11_meanDebt 69 = .ok (.iinc 3 1, 3) := by decide +kernel
theorem dX11_meanDebt_72 : decode cX11_meanDebt 72 = .ok (.goto (-61), 3) := by decide +kernel
theorem dX11_meanDebt_75 : decode cX11_meanDebt 75 = .ok (.iload_n 2, 1) := by decide +kernel
theorem dX11_meanDebt_76 : decode cX11_meanDebt 76 = .ok (.ifCond .ne 7, 3) := by decide +kernel
theorem dX11_meanDebt_79 : decode cX11_meanDebt 79 = .ok (.dconst 0, 1) := by decide +kernel
theorem dX11_meanDebt_80 : decode cX11_meanDebt 80 = .ok (.goto 8, 3) := by decide +kernel
theorem dX11_meanDebt_83 : decode cX11_meanDebt 83 = .ok (.iload_n 1, 1) := by decide +kernel
theorem dX11_meanDebt_84 : decode cX11_meanDebt 84 = .ok (.i2d, 1) := by decide +kernel
theorem dX11_meanDebt_85 : decode cX11_meanDebt 85 = .ok (.iload_n 2, 1) := by decide +kernel
theorem dX11_meanDebt_86 : decode cX11_meanDebt 86 = .ok (.i2d, 1) := by decide +kernel
theorem dX11_meanDebt_87 : decode cX11_meanDebt 87 = .ok (.ddiv, 1) := by decide +kernel
theorem dX11_meanDebt_88 : decode cX11_meanDebt 88 = .ok (.dreturn, 1) := by decide +kernel
theorem dX11_reachesItself_0 : decode cX11_reachesItself 0 = .ok (.iconst 0, 1) := by decide +kernel
theorem dX11_reachesItself_1 : decode cX11_reachesItself 1 = .ok (.istore_n 2, 1) := by decide +kernel
theorem dX11_reachesItself_2 : decode cX11_reachesItself 2 = .ok (.iload_n 2, 1) := by decide +kernel
theorem dX11_reachesItself_3 : decode cX11_reachesItself 3 = .ok (.aload_n 0, 1) := by decide +kernel
theorem dX11_reachesItself_4 : decode cX11_reachesItself 4 = .ok (.getfield 13, 3) := by decide +kernel
theorem dX11_reachesItself_7 : decode cX11_reachesItself 7 = .ok (.iconst 1, 1) := by decide +kernel
theorem dX11_reachesItself_8 : decode cX11_reachesItself 8 = .ok (.iaload, 1) := by decide +kernel
theorem dX11_reachesItself_9 : decode cX11_reachesItself 9 = .ok (.if_icmp .ge 38, 3) := by decide +kernel
theorem dX11_reachesItself_12 : decode cX11_reachesItself 12 = .ok (.aload_n 0, 1) := by decide +kernel
theorem dX11_reachesItself_13 : decode cX11_reachesItself 13 = .ok (.iload_n 1, 1) := by decide +kernel
theorem dX11_reachesItself_14 : decode cX11_reachesItself 14 = .ok (.iload_n 2, 1) := by decide +kernel
theorem dX11_reachesItself_15 : decode cX11_reachesItself 15 = .ok (.invokevirtual 163, 3) := by decide +kernel
theorem dX11_reachesItself_18 : decode cX11_reachesItself 18 = .ok (.ifCond .ne 6, 3) := by decide +kernel
theorem dX11_reachesItself_21 : decode cX11_reachesItself 21 = .ok (.goto 20, 3) := by decide +kernel
theorem dX11_reachesItself_24 : decode cX11_reachesItself 24 = .ok (.aload_n 0, 1) := by decide +kernel
theorem dX11_reachesItself_25 : decode cX11_reachesItself 25 = .ok (.iload_n 2, 1) := by decide +kernel
theorem dX11_reachesItself_26 : decode cX11_reachesItself 26 = .ok (.invokevirtual 166, 3) := by decide +kernel
theorem dX11_reachesItself_29 : decode cX11_reachesItself 29 = .ok (.aload_n 0, 1) := by decide +kernel
theorem dX11_reachesItself_30 : decode cX11_reachesItself 30 = .ok (.getfield 51, 3) := by decide +kernel
theorem dX11_reachesItself_33 : decode cX11_reachesItself 33 = .ok (.iload_n 1, 1) := by decide +kernel
theorem dX11_reachesItself_34 : decode cX11_reachesItself 34 = .ok (.iaload, 1) := by decide +kernel
theorem dX11_reachesItself_35 : decode cX11_reachesItself 35 = .ok (.iconst (-1), 1) := by decide +kernel
theorem dX11_reachesItself_36 : decode cX11_reachesItself 36 = .ok (.if_icmp .eq 5, 3) := by decide +kernel
theorem dX11_reachesItself_39 : decode cX11_reachesItself 39 = .ok (.iconst 1, 1) := by decide +kernel
theorem dX11_reachesItself_40 : decode cX11_reachesItself 40 = .ok (.ireturn, 1) := by decide +kernel
theorem dX11_reachesItself_41 : decode cX11_reachesItself 41 = .ok (.iinc 2 1, 3) := by decide +kernel
theorem dX11_reachesItself_44 : decode cX11_reachesItself 44 = .ok (.goto (-42), 3) := by decide +kernel
theorem dX11_reachesItself_47 : decode cX11_reachesItself 47 = .ok (.iconst 0, 1) := by decide +kernel
theorem dX11_reachesItself_48 : decode cX11_reachesItself 48 = .ok (.ireturn, 1) := by decide +kernel
theorem dX11_inconsistencies_0 : decode cX11_inconsistencies 0 = .ok (.aload_n 0, 1) := by decide +kernel
theorem dX11_inconsistencies_1 : decode cX11_inconsistencies 1 = .ok (.iconst 0, 1) := by decide +kernel
theorem dX11_inconsistencies_2 : decode cX11_inconsistencies 2 = .ok (.putfield 1, 3) := by decide +kernel
theorem dX11_inconsistencies_5 : decode cX11_inconsistencies 5 = .ok (.aload_n 0, 1) := by decide +kernel
theorem dX11_inconsistencies_6 : decode cX11_inconsistencies 6 = .ok (.getfield 13, 3) := by decide +kernel
theorem dX11_inconsistencies_9 : decode cX11_inconsistencies 9 = .ok (.iconst 4, 1) := by decide +kernel
theorem dX11_inconsistencies_10 : decode cX11_inconsistencies 10 = .ok (.iaload, 1) := by decide +kernel
theorem dX11_inconsistencies_11 : decode cX11_inconsistencies 11 = .ok (.aload_n 0, 1) := by decide +kernel
theorem dX11_inconsistencies_12 : decode cX11_inconsistencies 12 = .ok (.getfield 13, 3) := by decide +kernel
theorem dX11_inconsistencies_15 : decode cX11_inconsistencies 15 = .ok (.iconst 3, 1) := by decide +kernel
theorem dX11_inconsistencies_16 : decode cX11_inconsistencies 16 = .ok (.iaload, 1) := by decide +kernel
theorem dX11_inconsistencies_17 : decode cX11_inconsistencies 17 = .ok (.isub, 1) := by decide +kernel
theorem dX11_inconsistencies_18 : decode cX11_inconsistencies 18 = .ok (.aload_n 0, 1) := by decide +kernel
theorem dX11_inconsistencies_19 : decode cX11_inconsistencies 19 = .ok (.getfield 13, 3) := by decide +kernel
theorem dX11_inconsistencies_22 : decode cX11_inconsistencies 22 = .ok (.iconst 5, 1) := by decide +kernel
theorem dX11_inconsistencies_23 : decode cX11_inconsistencies 23 = .ok (.iaload, 1) := by decide +kernel
theorem dX11_inconsistencies_24 : decode cX11_inconsistencies 24 = .ok (.isub, 1) := by decide +kernel
theorem dX11_inconsistencies_25 : decode cX11_inconsistencies 25 = .ok (.aload_n 0, 1) := by decide +kernel
theorem dX11_inconsistencies_26 : decode cX11_inconsistencies 26 = .ok (.getfield 13, 3) := by decide +kernel
theorem dX11_inconsistencies_29 : decode cX11_inconsistencies 29 = .ok (.bipush 6, 2) := by decide +kernel
theorem dX11_inconsistencies_31 : decode cX11_inconsistencies 31 = .ok (.iaload, 1) := by decide +kernel
theorem dX11_inconsistencies_32 : decode cX11_inconsistencies 32 = .ok (.isub, 1) := by decide +kernel
theorem dX11_inconsistencies_33 : decode cX11_inconsistencies 33 = .ok (.istore_n 1, 1) := by decide +kernel
theorem dX11_inconsistencies_34 : decode cX11_inconsistencies 34 = .ok (.iconst 0, 1) := by decide +kernel
theorem dX11_inconsistencies_35 : decode cX11_inconsistencies 35 = .ok (.istore_n 2, 1) := by decide +kernel
theorem dX11_inconsistencies_36 : decode cX11_inconsistencies 36 = .ok (.iload_n 2, 1) := by decide +kernel
theorem dX11_inconsistencies_37 : decode cX11_inconsistencies 37 = .ok (.aload_n 0, 1) := by decide +kernel
theorem dX11_inconsistencies_38 : decode cX11_inconsistencies 38 = .ok (.getfield 13, 3) := by decide +kernel
theorem dX11_inconsistencies_41 : decode cX11_inconsistencies 41 = .ok (.iconst 1, 1) := by decide +kernel
theorem dX11_inconsistencies_42 : decode cX11_inconsistencies 42 = .ok (.iaload, 1) := by decide +kernel
theorem dX11_inconsistencies_43 : decode cX11_inconsistencies 43 = .ok (.if_icmp .ge 60, 3) := by decide +kernel
theorem dX11_inconsistencies_46 : decode cX11_inconsistencies 46 = .ok (.iconst 0, 1) := by decide +kernel
theorem dX11_inconsistencies_47 : decode cX11_inconsistencies 47 = .ok (.istore_n 3, 1) := by decide +kernel
theorem dX11_inconsistencies_48 : decode cX11_inconsistencies 48 = .ok (.iload_n 3, 1) := by decide +kernel
theorem dX11_inconsistencies_49 : decode cX11_inconsistencies 49 = .ok (.aload_n 0, 1) := by decide +kernel
theorem dX11_inconsistencies_50 : decode cX11_inconsistencies 50 = .ok (.getfield 13, 3) := by decide +kernel
theorem dX11_inconsistencies_53 : decode cX11_inconsistencies 53 = .ok (.iconst 0, 1) := by decide +kernel
theorem dX11_inconsistencies_54 : decode cX11_inconsistencies 54 = .ok (.iaload, 1) := by decide +kernel
theorem dX11_inconsistencies_55 : decode cX11_inconsistencies 55 = .ok (.if_icmp .ge 26, 3) := by decide +kernel
theorem dX11_inconsistencies_58 : decode cX11_inconsistencies 58 = .ok (.iload_n 1, 1) := by decide +kernel
theorem dX11_inconsistencies_59 : decode cX11_inconsistencies 59 = .ok (.aload_n 0, 1) := by decide +kernel
theorem dX11_inconsistencies_60 : decode cX11_inconsistencies 60 = .ok (.iload_n 2, 1) := by decide +kernel
theorem dX11_inconsistencies_61 : decode cX11_inconsistencies 61 = .ok (.iload_n 3, 1) := by decide +kernel
theorem dX11_inconsistencies_62 : decode cX11_inconsistencies 62 = .ok (.invokevirtual 119, 3) := by decide +kernel
theorem dX11_inconsistencies_65 : decode cX11_inconsistencies 65 = .ok (.ifCond .ge 7, 3) := by decide +kernel
theorem dX11_inconsistencies_68 : decode cX11_inconsistencies 68 = .ok (.iconst 1, 1) := by decide +kernel
theorem dX11_inconsistencies_69 : decode cX11_inconsistencies 69 = .ok (.goto 4, 3) := by decide +kernel
theorem dX11_inconsistencies_72 : decode cX11_inconsistencies 72 = .ok (.iconst 0, 1) := by decide +kernel
theorem dX11_inconsistencies_73 : decode cX11_inconsistencies 73 = .ok (.iadd, 1) := by decide +kernel
theorem dX11_inconsistencies_74 : decode cX11_inconsistencies 74 = .ok (.istore_n 1, 1) := by decide +kernel
theorem dX11_inconsistencies_75 : decode cX11_inconsistencies 75 = .ok (.iinc 3 1, 3) := by decide +kernel
theorem dX11_inconsistencies_78 : decode cX11_inconsistencies 78 = .ok (.goto (-30), 3) := by decide +kernel
theorem dX11_inconsistencies_81 : decode cX11_inconsistencies 81 = .ok (.iload_n 1, 1) := by decide +kernel
theorem dX11_inconsistencies_82 : decode cX11_inconsistencies 82 = .ok (.aload_n 0, 1) := by decide +kernel
theorem dX11_inconsistencies_83 : decode cX11_inconsistencies 83 = .ok (.iload_n 2, 1) := by decide +kernel
theorem dX11_inconsistencies_84 : decode cX11_inconsistencies 84 = .ok (.invokevirtual 318, 3) := by decide +kernel
theorem dX11_inconsistencies_87 : decode cX11_inconsistencies 87 = .ok (.ifCond .eq 7, 3) := by decide +kernel
theorem dX11_inconsistencies_90 : decode cX11_inconsistencies 90 = .ok (.iconst 1, 1) := by decide +kernel
theorem dX11_inconsistencies_91 : decode cX11_inconsistencies 91 = .ok (.goto 4, 3) := by decide +kernel
theorem dX11_inconsistencies_94 : decode cX11_inconsistencies 94 = .ok (.iconst 0, 1) := by decide +kernel
theorem dX11_inconsistencies_95 : decode cX11_inconsistencies 95 = .ok (.iadd, 1) := by decide +kernel
theorem dX11_inconsistencies_96 : decode cX11_inconsistencies 96 = .ok (.istore_n 1, 1) := by decide +kernel
theorem dX11_inconsistencies_97 : decode cX11_inconsistencies 97 = .ok (.iinc 2 1, 3) := by decide +kernel
theorem dX11_inconsistencies_100 : decode cX11_inconsistencies 100 = .ok (.goto (-64), 3) := by decide +kernel
theorem dX11_inconsistencies_103 : decode cX11_inconsistencies 103 = .ok (.iload_n 1, 1) := by decide +kernel
theorem dX11_inconsistencies_104 : decode cX11_inconsistencies 104 = .ok (.ireturn, 1) := by decide +kernel
theorem dX11_request_0 : decode cX11_request 0 = .ok (.aload_n 0, 1) := by decide +kernel
theorem dX11_request_1 : decode cX11_request 1 = .ok (.iload_n 1, 1) := by decide +kernel
theorem dX11_request_2 : decode cX11_request 2 = .ok (.iload_n 2, 1) := by decide +kernel
theorem dX11_request_3 : decode cX11_request 3 = .ok (.invokevirtual 299, 3) := by decide +kernel
theorem dX11_request_6 : decode cX11_request 6 = .ok (.istore 4, 2) := by decide +kernel
theorem dX11_request_8 : decode cX11_request 8 = .ok (.iload_n 3, 1) := by decide +kernel
theorem dX11_request_9 : decode cX11_request 9 = .ok (.iconst 1, 1) := by decide +kernel
theorem dX11_request_10 : decode cX11_request 10 = .ok (.bipush 50, 2) := by decide +kernel
theorem dX11_request_12 : decode cX11_request 12 = .ok (.invokestatic 90, 3) := by decide +kernel
theorem dX11_request_15 : decode cX11_request 15 = .ok (.istore 5, 2) := by decide +kernel
theorem dX11_request_17 : decode cX11_request 17 = .ok (.aload_n 0, 1) := by decide +kernel
theorem dX11_request_18 : decode cX11_request 18 = .ok (.iload 4, 2) := by decide +kernel
theorem dX11_request_20 : decode cX11_request 20 = .ok (.ifCond .ne 7, 3) := by decide +kernel
theorem dX11_request_23 : decode cX11_request 23 = .ok (.iconst 1, 1) := by decide +kernel
theorem dX11_request_24 : decode cX11_request 24 = .ok (.goto 4, 3) := by decide +kernel
theorem dX11_request_27 : decode cX11_request 27 = .ok (.iconst 0, 1) := by decide +kernel
theorem dX11_request_28 : decode cX11_request 28 = .ok (.iload 5, 2) := by decide +kernel
theorem dX11_request_30 : decode cX11_request 30 = .ok (.ifCond .ne 7, 3) := by decide +kernel
theorem dX11_request_33 : decode cX11_request 33 = .ok (.iconst 1, 1) := by decide +kernel
theorem dX11_request_34 : decode cX11_request 34 = .ok (.goto 4, 3) := by decide +kernel
theorem dX11_request_37 : decode cX11_request 37 = .ok (.iconst 0, 1) := by decide +kernel
theorem dX11_request_38 : decode cX11_request 38 = .ok (.iload 4, 2) := by decide +kernel
theorem dX11_request_40 : decode cX11_request 40 = .ok (.ifCond .eq 23, 3) := by decide +kernel
theorem dX11_request_43 : decode cX11_request 43 = .ok (.iload 5, 2) := by decide +kernel
theorem dX11_request_45 : decode cX11_request 45 = .ok (.ifCond .eq 18, 3) := by decide +kernel
theorem dX11_request_48 : decode cX11_request 48 = .ok (.aload_n 0, 1) := by decide +kernel
theorem dX11_request_49 : decode cX11_request 49 = .ok (.iconst 0, 1) := by decide +kernel
theorem dX11_request_50 : decode cX11_request 50 = .ok (.iload_n 1, 1) := by decide +kernel
theorem dX11_request_51 : decode cX11_request 51 = .ok (.iload_n 2, 1) := by decide +kernel
theorem dX11_request_52 : decode cX11_request 52 = .ok (.iload_n 3, 1) := by decide +kernel
theorem dX11_request_53 : decode cX11_request 53 = .ok (.invokevirtual 288, 3) := by decide +kernel
theorem dX11_request_56 : decode cX11_request 56 = .ok (.ifCond .ne 7, 3) := by decide +kernel
theorem dX11_request_59 : decode cX11_request 59 = .ok (.iconst 1, 1) := by decide +kernel
theorem dX11_request_60 : decode cX11_request 60 = .ok (.goto 4, 3) := by decide +kernel
theorem dX11_request_63 : decode cX11_request 63 = .ok (.iconst 0, 1) := by decide +kernel
theorem dX11_request_64 : decode cX11_request 64 = .ok (.invokevirtual 172, 3) := by decide +kernel
theorem dX11_request_67 : decode cX11_request 67 = .ok (.ifCond .eq 5, 3) := by decide +kernel
theorem dX11_request_70 : decode cX11_request 70 = .ok (.iconst 0, 1) := by decide +kernel
theorem dX11_request_71 : decode cX11_request 71 = .ok (.ireturn, 1) := by decide +kernel
theorem dX11_request_72 : decode cX11_request 72 = .ok (.aload_n 0, 1) := by decide +kernel
theorem dX11_request_73 : decode cX11_request 73 = .ok (.iconst 0, 1) := by decide +kernel
theorem dX11_request_74 : decode cX11_request 74 = .ok (.invokevirtual 285, 3) := by decide +kernel
theorem dX11_request_77 : decode cX11_request 77 = .ok (.aload_n 0, 1) := by decide +kernel
theorem dX11_request_78 : decode cX11_request 78 = .ok (.iload_n 1, 1) := by decide +kernel
theorem dX11_request_79 : decode cX11_request 79 = .ok (.iload_n 2, 1) := by decide +kernel
theorem dX11_request_80 : decode cX11_request 80 = .ok (.iload_n 3, 1) := by decide +kernel
theorem dX11_request_81 : decode cX11_request 81 = .ok (.invokevirtual 263, 3) := by decide +kernel
theorem dX11_request_84 : decode cX11_request 84 = .ok (.ireturn, 1) := by decide +kernel
theorem dX11_release_0 : decode cX11_release 0 = .ok (.aload_n 0, 1) := by decide +kernel
theorem dX11_release_1 : decode cX11_release 1 = .ok (.iload_n 1, 1) := by decide +kernel
theorem dX11_release_2 : decode cX11_release 2 = .ok (.iload_n 2, 1) := by decide +kernel
theorem dX11_release_3 : decode cX11_release 3 = .ok (.invokevirtual 299, 3) := by decide +kernel
theorem dX11_release_6 : decode cX11_release 6 = .ok (.istore 4, 2) := by decide +kernel
theorem dX11_release_8 : decode cX11_release 8 = .ok (.aload_n 0, 1) := by decide +kernel
theorem dX11_release_9 : decode cX11_release 9 = .ok (.iload 4, 2) := by decide +kernel
theorem dX11_release_11 : decode cX11_release 11 = .ok (.ifCond .ne 7, 3) := by decide +kernel
theorem dX11_release_14 : decode cX11_release 14 = .ok (.iconst 1, 1) := by decide +kernel
theorem dX11_release_15 : decode cX11_release 15 = .ok (.goto 4, 3) := by decide +kernel
theorem dX11_release_18 : decode cX11_release 18 = .ok (.iconst 0, 1) := by decide +kernel
theorem dX11_release_19 : decode cX11_release 19 = .ok (.iload_n 3, 1) := by decide +kernel
theorem dX11_release_20 : decode cX11_release 20 = .ok (.iconst 1, 1) := by decide +kernel
theorem dX11_release_21 : decode cX11_release 21 = .ok (.bipush 50, 2) := by decide +kernel
theorem dX11_release_23 : decode cX11_release 23 = .ok (.invokestatic 90, 3) := by decide +kernel
theorem dX11_release_26 : decode cX11_release 26 = .ok (.ifCond .ne 7, 3) := by decide +kernel
theorem dX11_release_29 : decode cX11_release 29 = .ok (.iconst 1, 1) := by decide +kernel
theorem dX11_release_30 : decode cX11_release 30 = .ok (.goto 4, 3) := by decide +kernel
theorem dX11_release_33 : decode cX11_release 33 = .ok (.iconst 0, 1) := by decide +kernel
theorem dX11_release_34 : decode cX11_release 34 = .ok (.iload 4, 2) := by decide +kernel
theorem dX11_release_36 : decode cX11_release 36 = .ok (.ifCond .eq 20, 3) := by decide +kernel
theorem dX11_release_39 : decode cX11_release 39 = .ok (.iload_n 3, 1) := by decide +kernel
theorem dX11_release_40 : decode cX11_release 40 = .ok (.aload_n 0, 1) := by decide +kernel
theorem dX11_release_41 : decode cX11_release 41 = .ok (.iload_n 1, 1) := by decide +kernel
theorem dX11_release_42 : decode cX11_release 42 = .ok (.bipush 14, 2) := by decide +kernel
theorem dX11_release_44 : decode cX11_release 44 = .ok (.iload_n 2, 1) := by decide +kernel
theorem dX11_release_45 : decode cX11_release 45 = .ok (.iadd, 1) := by decide +kernel
theorem dX11_release_46 : decode cX11_release 46 = .ok (.invokevirtual 105, 3) := by decide +kernel
theorem dX11_release_49 : decode cX11_release 49 = .ok (.if_icmp .le 7, 3) := by decide +kernel
theorem dX11_release_52 : decode cX11_release 52 = .ok (.iconst 1, 1) := by decide +kernel
theorem dX11_release_53 : decode cX11_release 53 = .ok (.goto 4, 3) := by decide +kernel
theorem dX11_release_56 : decode cX11_release 56 = .ok (.iconst 0, 1) := by decide +kernel
theorem dX11_release_57 : decode cX11_release 57 = .ok (.invokevirtual 172, 3) := by decide +kernel
theorem dX11_release_60 : decode cX11_release 60 = .ok (.ifCond .eq 5, 3) := by decide +kernel
theorem dX11_release_63 : decode cX11_release 63 = .ok (.iconst 0, 1) := by decide +kernel
theorem dX11_release_64 : decode cX11_release 64 = .ok (.ireturn, 1) := by decide +kernel
theorem dX11_release_65 : decode cX11_release 65 = .ok (.aload_n 0, 1) := by decide +kernel
theorem dX11_release_66 : decode cX11_release 66 = .ok (.iconst 0, 1) := by decide +kernel
theorem dX11_release_67 : decode cX11_release 67 = .ok (.invokevirtual 285, 3) := by decide +kernel
theorem dX11_release_70 : decode cX11_release 70 = .ok (.aload_n 0, 1) := by decide +kernel
theorem dX11_release_71 : decode cX11_release 71 = .ok (.iload_n 1, 1) := by decide +kernel
theorem dX11_release_72 : decode cX11_release 72 = .ok (.iload_n 2, 1) := by decide +kernel
theorem dX11_release_73 : decode cX11_release 73 = .ok (.iload_n 3, 1) := by decide +kernel
theorem dX11_release_74 : decode cX11_release 74 = .ok (.invokevirtual 266, 3) := by decide +kernel
theorem dX11_release_77 : decode cX11_release 77 = .ok (.ireturn, 1) := by decide +kernel
theorem dX11_finish_0 : decode cX11_finish 0 = .ok (.aload_n 0, 1) := by decide +kernel
theorem dX11_finish_1 : decode cX11_finish 1 = .ok (.aload_n 0, 1) := by decide +kernel
theorem dX11_finish_2 : decode cX11_finish 2 = .ok (.iload_n 1, 1) := by decide +kernel
theorem dX11_finish_3 : decode cX11_finish 3 = .ok (.invokevirtual 94, 3) := by decide +kernel
theorem dX11_finish_6 : decode cX11_finish 6 = .ok (.ifCond .ne 7, 3) := by decide +kernel
theorem dX11_finish_9 : decode cX11_finish 9 = .ok (.iconst 1, 1) := by decide +kernel
theorem dX11_finish_10 : decode cX11_finish 10 = .ok (.goto 4, 3) := by decide +kernel
theorem dX11_finish_13 : decode cX11_finish 13 = .ok (.iconst 0, 1) := by decide +kernel
theorem dX11_finish_14 : decode cX11_finish 14 = .ok (.iconst 0, 1) := by decide +kernel
theorem dX11_finish_15 : decode cX11_finish 15 = .ok (.iconst 0, 1) := by decide +kernel
theorem dX11_finish_16 : decode cX11_finish 16 = .ok (.invokevirtual 172, 3) := by decide +kernel
theorem dX11_finish_19 : decode cX11_finish 19 = .ok (.ifCond .eq 5, 3) := by decide +kernel
theorem dX11_finish_22 : decode cX11_finish 22 = .ok (.iconst 0, 1) := by decide +kernel
theorem dX11_finish_23 : decode cX11_finish 23 = .ok (.ireturn, 1) := by decide +kernel
theorem dX11_finish_24 : decode cX11_finish 24 = .ok (.aload_n 0, 1) := by decide +kernel
theorem dX11_finish_25 : decode cX11_finish 25 = .ok (.iconst 0, 1) := by decide +kernel
theorem dX11_finish_26 : decode cX11_finish 26 = .ok (.invokevirtual 285, 3) := by decide +kernel
theorem dX11_finish_29 : decode cX11_finish 29 = .ok (.aload_n 0, 1) := by decide +kernel
theorem dX11_finish_30 : decode cX11_finish 30 = .ok (.iload_n 1, 1) := by decide +kernel
theorem dX11_finish_31 : decode cX11_finish 31 = .ok (.invokevirtual 270, 3) := by decide +kernel
theorem dX11_finish_34 : decode cX11_finish 34 = .ok (.ireturn, 1) := by decide +kernel
theorem dX11_cancel_0 : decode cX11_cancel 0 = .ok (.aload_n 0, 1) := by decide +kernel
theorem dX11_cancel_1 : decode cX11_cancel 1 = .ok (.iload_n 1, 1) := by decide +kernel
theorem dX11_cancel_2 : decode cX11_cancel 2 = .ok (.invokevirtual 94, 3) := by decide +kernel
theorem dX11_cancel_5 : decode cX11_cancel 5 = .ok (.istore_n 2, 1) := by decide +kernel
theorem dX11_cancel_6 : decode cX11_cancel 6 = .ok (.aload_n 0, 1) := by decide +kernel
theorem dX11_cancel_7 : decode cX11_cancel 7 = .ok (.iload_n 2, 1) := by decide +kernel
theorem dX11_cancel_8 : decode cX11_cancel 8 = .ok (.ifCond .ne 7, 3) := by decide +kernel
theorem dX11_cancel_11 : decode cX11_cancel 11 = .ok (.iconst 1, 1) := by decide +kernel
theorem dX11_cancel_12 : decode cX11_cancel 12 = .ok (.goto 4, 3) := by decide +kernel
theorem dX11_cancel_15 : decode cX11_cancel 15 = .ok (.iconst 0, 1) := by decide +kernel
theorem dX11_cancel_16 : decode cX11_cancel 16 = .ok (.iload_n 2, 1) := by decide +kernel
theorem dX11_cancel_17 : decode cX11_cancel 17 = .ok (.ifCond .eq 15, 3) := by decide +kernel
theorem dX11_cancel_20 : decode cX11_cancel 20 = .ok (.aload_n 0, 1) := by decide +kernel
theorem dX11_cancel_21 : decode cX11_cancel 21 = .ok (.iload_n 1, 1) := by decide +kernel
theorem dX11_cancel_22 : decode cX11_cancel 22 = .ok (.invokevirtual 132, 3) := by decide +kernel
theorem dX11_cancel_25 : decode cX11_cancel 25 = .ok (.ifCond .ne 7, 3) := by decide +kernel
theorem dX11_cancel_28 : decode cX11_cancel 28 = .ok (.iconst 1, 1) := by decide +kernel
theorem dX11_cancel_29 : decode cX11_cancel 29 = .ok (.goto 4, 3) := by decide +kernel
theorem dX11_cancel_32 : decode cX11_cancel 32 = .ok (.iconst 0, 1) := by decide +kernel
theorem dX11_cancel_33 : decode cX11_cancel 33 = .ok (.iconst 0, 1) := by decide +kernel
theorem dX11_cancel_34 : decode cX11_cancel 34 = .ok (.invokevirtual 172, 3) := by decide +kernel
theorem dX11_cancel_37 : decode cX11_cancel 37 = .ok (.ifCond .eq 5, 3) := by decide +kernel
theorem dX11_cancel_40 : decode cX11_cancel 40 = .ok (.iconst 0, 1) := by decide +kernel
theorem dX11_cancel_41 : decode cX11_cancel 41 = .ok (.ireturn, 1) := by decide +kernel
theorem dX11_cancel_42 : decode cX11_cancel 42 = .ok (.aload_n 0, 1) := by decide +kernel
theorem dX11_cancel_43 : decode cX11_cancel 43 = .ok (.iconst 0, 1) := by decide +kernel
theorem dX11_cancel_44 : decode cX11_cancel 44 = .ok (.invokevirtual 285, 3) := by decide +kernel
theorem dX11_cancel_47 : decode cX11_cancel 47 = .ok (.aload_n 0, 1) := by decide +kernel
theorem dX11_cancel_48 : decode cX11_cancel 48 = .ok (.iload_n 1, 1) := by decide +kernel
theorem dX11_cancel_49 : decode cX11_cancel 49 = .ok (.invokevirtual 273, 3) := by decide +kernel
theorem dX11_cancel_52 : decode cX11_cancel 52 = .ok (.ireturn, 1) := by decide +kernel
theorem dX11_setCapacity_0 : decode cX11_setCapacity 0 = .ok (.aload_n 0, 1) := by decide +kernel
theorem dX11_setCapacity_1 : decode cX11_setCapacity 1 = .ok (.iload_n 1, 1) := by decide +kernel
theorem dX11_setCapacity_2 : decode cX11_setCapacity 2 = .ok (.invokevirtual 98, 3) := by decide +kernel
theorem dX11_setCapacity_5 : decode cX11_setCapacity 5 = .ok (.istore_n 3, 1) := by decide +kernel
theorem dX11_setCapacity_6 : decode cX11_setCapacity 6 = .ok (.aload_n 0, 1) := by decide +kernel
theorem dX11_setCapacity_7 : decode cX11_setCapacity 7 = .ok (.iload_n 3, 1) := by decide +kernel
theorem dX11_setCapacity_8 : decode cX11_setCapacity 8 = .ok (.ifCond .ne 7, 3) := by decide +kernel
theorem dX11_setCapacity_11 : decode cX11_setCapacity 11 = .ok (.iconst 1, 1) := by decide +kernel
theorem dX11_setCapacity_12 : decode cX11_setCapacity 12 = .ok (.goto 4, 3) := by decide +kernel
theorem dX11_setCapacity_15 : decode cX11_setCapacity 15 = .ok (.iconst 0, 1) := by decide +kernel
theorem dX11_setCapacity_16 : decode cX11_setCapacity 16 = .ok (.iload_n 2, 1) := by decide +kernel
theorem dX11_setCapacity_17 : decode cX11_setCapacity 17 = .ok (.iconst 0, 1) := by decide +kernel
theorem dX11_setCapacity_18 : decode cX11_setCapacity 18 = .ok (.bipush 50, 2) := by decide +kernel
theorem dX11_setCapacity_20 : decode cX11_setCapacity 20 = .ok (.invokestatic 90, 3) := by decide +kernel
theorem dX11_setCapacity_23 : decode cX11_setCapacity 23 = .ok (.ifCond .ne 7, 3) := by decide +kernel
theorem dX11_setCapacity_26 : decode cX11_setCapacity 26 = .ok (.iconst 1, 1) := by decide +kernel
theorem dX11_setCapacity_27 : decode cX11_setCapacity 27 = .ok (.goto 4, 3) := by decide +kernel
theorem dX11_setCapacity_30 : decode cX11_setCapacity 30 = .ok (.iconst 0, 1) := by decide +kernel
theorem dX11_setCapacity_31 : decode cX11_setCapacity 31 = .ok (.iload_n 3, 1) := by decide +kernel
theorem dX11_setCapacity_32 : decode cX11_setCapacity 32 = .ok (.ifCond .eq 16, 3) := by decide +kernel
theorem dX11_setCapacity_35 : decode cX11_setCapacity 35 = .ok (.iload_n 2, 1) := by decide +kernel
theorem dX11_setCapacity_36 : decode cX11_setCapacity 36 = .ok (.aload_n 0, 1) := by decide +kernel
theorem dX11_setCapacity_37 : decode cX11_setCapacity 37 = .ok (.iload_n 1, 1) := by decide +kernel
theorem dX11_setCapacity_38 : decode cX11_setCapacity 38 = .ok (.invokevirtual 113, 3) := by decide +kernel
theorem dX11_setCapacity_41 : decode cX11_setCapacity 41 = .ok (.if_icmp .ge 7, 3) := by decide +kernel
theorem dX11_setCapacity_44 : decode cX11_setCapacity 44 = .ok (.iconst 1, 1) := by decide +kernel
theorem dX11_setCapacity_45 : decode cX11_setCapacity 45 = .ok (.goto 4, 3) := by decide +kernel
theorem dX11_setCapacity_48 : decode cX11_setCapacity 48 = .ok (.iconst 0, 1) := by decide +kernel
theorem dX11_setCapacity_49 : decode cX11_setCapacity 49 = .ok (.invokevirtual 172, 3) := by decide +kernel
theorem dX11_setCapacity_52 : decode cX11_setCapacity 52 = .ok (.ifCond .eq 5, 3) := by decide +kernel
theorem dX11_setCapacity_55 : decode cX11_setCapacity 55 = .ok (.iconst 0, 1) := by decide +kernel
theorem dX11_setCapacity_56 : decode cX11_setCapacity 56 = .ok (.ireturn, 1) := by decide +kernel
theorem dX11_setCapacity_57 : decode cX11_setCapacity 57 = .ok (.aload_n 0, 1) := by decide +kernel
theorem dX11_setCapacity_58 : decode cX11_setCapacity 58 = .ok (.iconst 0, 1) := by decide +kernel
theorem dX11_setCapacity_59 : decode cX11_setCapacity 59 = .ok (.invokevirtual 285, 3) := by decide +kernel
theorem dX11_setCapacity_62 : decode cX11_setCapacity 62 = .ok (.aload_n 0, 1) := by decide +kernel
theorem dX11_setCapacity_63 : decode cX11_setCapacity 63 = .ok (.iload_n 1, 1) := by decide +kernel
theorem dX11_setCapacity_64 : decode cX11_setCapacity 64 = .ok (.iload_n 2, 1) := by decide +kernel
theorem dX11_setCapacity_65 : decode cX11_setCapacity 65 = .ok (.invokevirtual 279, 3) := by decide +kernel
theorem dX11_setCapacity_68 : decode cX11_setCapacity 68 = .ok (.ireturn, 1) := by decide +kernel
theorem dX11_leastMaximum_0 : decode cX11_leastMaximum 0 = .ok (.aload_n 0, 1) := by decide +kernel
theorem dX11_leastMaximum_1 : decode cX11_leastMaximum 1 = .ok (.iload_n 1, 1) := by decide +kernel
theorem dX11_leastMaximum_2 : decode cX11_leastMaximum 2 = .ok (.bipush 14, 2) := by decide +kernel
theorem dX11_leastMaximum_4 : decode cX11_leastMaximum 4 = .ok (.iload_n 2, 1) := by decide +kernel
theorem dX11_leastMaximum_5 : decode cX11_leastMaximum 5 = .ok (.iadd, 1) := by decide +kernel
theorem dX11_leastMaximum_6 : decode cX11_leastMaximum 6 = .ok (.invokevirtual 105, 3) := by decide +kernel
theorem dX11_leastMaximum_9 : decode cX11_leastMaximum 9 = .ok (.aload_n 0, 1) := by decide +kernel
theorem dX11_leastMaximum_10 : decode cX11_leastMaximum 10 = .ok (.iload_n 1, 1) := by decide +kernel
theorem dX11_leastMaximum_11 : decode cX11_leastMaximum 11 = .ok (.bipush 7, 2) := by decide +kernel
theorem dX11_leastMaximum_13 : decode cX11_leastMaximum 13 = .ok (.invokevirtual 105, 3) := by decide +kernel
theorem dX11_leastMaximum_16 : decode cX11_leastMaximum 16 = .ok (.iload_n 2, 1) := by decide +kernel
theorem dX11_leastMaximum_17 : decode cX11_leastMaximum 17 = .ok (.if_icmp .ne 13, 3) := by decide +kernel
theorem dX11_leastMaximum_20 : decode cX11_leastMaximum 20 = .ok (.aload_n 0, 1) := by decide +kernel
theorem dX11_leastMaximum_21 : decode cX11_leastMaximum 21 = .ok (.iload_n 1, 1) := by decide +kernel
theorem dX11_leastMaximum_22 : decode cX11_leastMaximum 22 = .ok (.bipush 8, 2) := by decide +kernel
theorem dX11_leastMaximum_24 : decode cX11_leastMaximum 24 = .ok (.invokevirtual 105, 3) := by decide +kernel
theorem dX11_leastMaximum_27 : decode cX11_leastMaximum 27 = .ok (.goto 4, 3) := by decide +kernel
theorem dX11_leastMaximum_30 : decode cX11_leastMaximum 30 = .ok (.iconst 0, 1) := by decide +kernel
theorem dX11_leastMaximum_31 : decode cX11_leastMaximum 31 = .ok (.iadd, 1) := by decide +kernel
theorem dX11_leastMaximum_32 : decode cX11_leastMaximum 32 = .ok (.ireturn, 1) := by decide +kernel
theorem dX11_setMaximum_0 : decode cX11_setMaximum 0 = .ok (.aload_n 0, 1) := by decide +kernel
theorem dX11_setMaximum_1 : decode cX11_setMaximum 1 = .ok (.iload_n 1, 1) := by decide +kernel
theorem dX11_setMaximum_2 : decode cX11_setMaximum 2 = .ok (.iload_n 2, 1) := by decide +kernel
theorem dX11_setMaximum_3 : decode cX11_setMaximum 3 = .ok (.invokevirtual 299, 3) := by decide +kernel
theorem dX11_setMaximum_6 : decode cX11_setMaximum 6 = .ok (.istore 4, 2) := by decide +kernel
theorem dX11_setMaximum_8 : decode cX11_setMaximum 8 = .ok (.aload_n 0, 1) := by decide +kernel
theorem dX11_setMaximum_9 : decode cX11_setMaximum 9 = .ok (.iload 4, 2) := by decide +kernel
theorem dX11_setMaximum_11 : decode cX11_setMaximum 11 = .ok (.ifCond .ne 7, 3) := by decide +kernel
theorem dX11_setMaximum_14 : decode cX11_setMaximum 14 = .ok (.iconst 1, 1) := by decide +kernel
theorem dX11_setMaximum_15 : decode cX11_setMaximum 15 = .ok (.goto 4, 3) := by decide +kernel
theorem dX11_setMaximum_18 : decode cX11_setMaximum 18 = .ok (.iconst 0, 1) := by decide +kernel
theorem dX11_setMaximum_19 : decode cX11_setMaximum 19 = .ok (.iload_n 3, 1) := by decide +kernel
theorem dX11_setMaximum_20 : decode cX11_setMaximum 20 = .ok (.iconst 0, 1) := by decide +kernel
theorem dX11_setMaximum_21 : decode cX11_setMaximum 21 = .ok (.bipush 50, 2) := by decide +kernel
theorem dX11_setMaximum_23 : decode cX11_setMaximum 23 = .ok (.invokestatic 90, 3) := by decide +kernel
theorem dX11_setMaximum_26 : decode cX11_setMaximum 26 = .ok (.ifCond .ne 7, 3) := by decide +kernel
theorem dX11_setMaximum_29 : decode cX11_setMaximum 29 = .ok (.iconst 1, 1) := by decide +kernel
theorem dX11_setMaximum_30 : decode cX11_setMaximum 30 = .ok (.goto 4, 3) := by decide +kernel
theorem dX11_setMaximum_33 : decode cX11_setMaximum 33 = .ok (.iconst 0, 1) := by decide +kernel
theorem dX11_setMaximum_34 : decode cX11_setMaximum 34 = .ok (.iload 4, 2) := by decide +kernel
theorem dX11_setMaximum_36 : decode cX11_setMaximum 36 = .ok (.ifCond .eq 17, 3) := by decide +kernel
theorem dX11_setMaximum_39 : decode cX11_setMaximum 39 = .ok (.iload_n 3, 1) := by decide +kernel
theorem dX11_setMaximum_40 : decode cX11_setMaximum 40 = .ok (.aload_n 0, 1) := by decide +kernel
theorem dX11_setMaximum_41 : decode cX11_setMaximum 41 = .ok (.iload_n 1, 1) := by decide +kernel
theorem dX11_setMaximum_42 : decode cX11_setMaximum 42 = .ok (.iload_n 2, 1) := by decide +kernel
theorem dX11_setMaximum_43 : decode cX11_setMaximum 43 = .ok (.invokevirtual 321, 3) := by decide +kernel
theorem dX11_setMaximum_46 : decode cX11_setMaximum 46 = .ok (.if_icmp .ge 7, 3) := by decide +kernel
theorem dX11_setMaximum_49 : decode cX11_setMaximum 49 = .ok (.iconst 1, 1) := by decide +kernel
theorem dX11_setMaximum_50 : decode cX11_setMaximum 50 = .ok (.goto 4, 3) := by decide +kernel
theorem dX11_setMaximum_53 : decode cX11_setMaximum 53 = .ok (.iconst 0, 1) := by decide +kernel
theorem dX11_setMaximum_54 : decode cX11_setMaximum 54 = .ok (.invokevirtual 172, 3) := by decide +kernel
theorem dX11_setMaximum_57 : decode cX11_setMaximum 57 = .ok (.ifCond .eq 5, 3) := by decide +kernel
theorem dX11_setMaximum_60 : decode cX11_setMaximum 60 = .ok (.iconst 0, 1) := by decide +kernel
theorem dX11_setMaximum_61 : decode cX11_setMaximum 61 = .ok (.ireturn, 1) := by decide +kernel
theorem dX11_setMaximum_62 : decode cX11_setMaximum 62 = .ok (.aload_n 0, 1) := by decide +kernel
theorem dX11_setMaximum_63 : decode cX11_setMaximum 63 = .ok (.iconst 0, 1) := by decide +kernel
theorem dX11_setMaximum_64 : decode cX11_setMaximum 64 = .ok (.invokevirtual 285, 3) := by decide +kernel
theorem dX11_setMaximum_67 : decode cX11_setMaximum 67 = .ok (.aload_n 0, 1) := by decide +kernel
theorem dX11_setMaximum_68 : decode cX11_setMaximum 68 = .ok (.iload_n 1, 1) := by decide +kernel
theorem dX11_setMaximum_69 : decode cX11_setMaximum 69 = .ok (.bipush 9, 2) := by decide +kernel
theorem dX11_setMaximum_71 : decode cX11_setMaximum 71 = .ok (.iload_n 2, 1) := by decide +kernel
theorem dX11_setMaximum_72 : decode cX11_setMaximum 72 = .ok (.iadd, 1) := by decide +kernel
theorem dX11_setMaximum_73 : decode cX11_setMaximum 73 = .ok (.iload_n 3, 1) := by decide +kernel
theorem dX11_setMaximum_74 : decode cX11_setMaximum 74 = .ok (.invokevirtual 135, 3) := by decide +kernel
theorem dX11_setMaximum_77 : decode cX11_setMaximum 77 = .ok (.aload_n 0, 1) := by decide +kernel
theorem dX11_setMaximum_78 : decode cX11_setMaximum 78 = .ok (.invokevirtual 157, 3) := by decide +kernel
theorem dX11_setMaximum_81 : decode cX11_setMaximum 81 = .ok (.ireturn, 1) := by decide +kernel
theorem dX11_lend_0 : decode cX11_lend 0 = .ok (.aload_n 0, 1) := by decide +kernel
theorem dX11_lend_1 : decode cX11_lend 1 = .ok (.iload_n 1, 1) := by decide +kernel
theorem dX11_lend_2 : decode cX11_lend 2 = .ok (.invokevirtual 94, 3) := by decide +kernel
theorem dX11_lend_5 : decode cX11_lend 5 = .ok (.ifCond .eq 15, 3) := by decide +kernel
theorem dX11_lend_8 : decode cX11_lend 8 = .ok (.aload_n 0, 1) := by decide +kernel
theorem dX11_lend_9 : decode cX11_lend 9 = .ok (.iload_n 2, 1) := by decide +kernel
theorem dX11_lend_10 : decode cX11_lend 10 = .ok (.invokevirtual 94, 3) := by decide +kernel
theorem dX11_lend_13 : decode cX11_lend 13 = .ok (.ifCond .eq 7, 3) := by decide +kernel
theorem dX11_lend_16 : decode cX11_lend 16 = .ok (.iconst 1, 1) := by decide +kernel
theorem dX11_lend_17 : decode cX11_lend 17 = .ok (.goto 4, 3) := by decide +kernel
theorem dX11_lend_20 : decode cX11_lend 20 = .ok (.iconst 0, 1) := by decide +kernel
theorem dX11_lend_21 : decode cX11_lend 21 = .ok (.istore 4, 2) := by decide +kernel
theorem dX11_lend_23 : decode cX11_lend 23 = .ok (.aload_n 0, 1) := by decide +kernel
theorem dX11_lend_24 : decode cX11_lend 24 = .ok (.iload 4, 2) := by decide +kernel
theorem dX11_lend_26 : decode cX11_lend 26 = .ok (.ifCond .ne 7, 3) := by decide +kernel
theorem dX11_lend_29 : decode cX11_lend 29 = .ok (.iconst 1, 1) := by decide +kernel
theorem dX11_lend_30 : decode cX11_lend 30 = .ok (.goto 4, 3) := by decide +kernel
theorem dX11_lend_33 : decode cX11_lend 33 = .ok (.iconst 0, 1) := by decide +kernel
theorem dX11_lend_34 : decode cX11_lend 34 = .ok (.iload_n 3, 1) := by decide +kernel
theorem dX11_lend_35 : decode cX11_lend 35 = .ok (.iconst 1, 1) := by decide +kernel
theorem dX11_lend_36 : decode cX11_lend 36 = .ok (.sipush 999, 3) := by decide +kernel
theorem dX11_lend_39 : decode cX11_lend 39 = .ok (.invokestatic 90, 3) := by decide +kernel
theorem dX11_lend_42 : decode cX11_lend 42 = .ok (.ifCond .ne 7, 3) := by decide +kernel
theorem dX11_lend_45 : decode cX11_lend 45 = .ok (.iconst 1, 1) := by decide +kernel
theorem dX11_lend_46 : decode cX11_lend 46 = .ok (.goto 4, 3) := by decide +kernel
theorem dX11_lend_49 : decode cX11_lend 49 = .ok (.iconst 0, 1) := by decide +kernel
theorem dX11_lend_50 : decode cX11_lend 50 = .ok (.iload 4, 2) := by decide +kernel
theorem dX11_lend_52 : decode cX11_lend 52 = .ok (.ifCond .eq 17, 3) := by decide +kernel
theorem dX11_lend_55 : decode cX11_lend 55 = .ok (.aload_n 0, 1) := by decide +kernel
theorem dX11_lend_56 : decode cX11_lend 56 = .ok (.iload_n 1, 1) := by decide +kernel
theorem dX11_lend_57 : decode cX11_lend 57 = .ok (.iload_n 2, 1) := by decide +kernel
theorem dX11_lend_58 : decode cX11_lend 58 = .ok (.iload_n 3, 1) := by decide +kernel
theorem dX11_lend_59 : decode cX11_lend 59 = .ok (.invokevirtual 260, 3) := by decide +kernel
theorem dX11_lend_62 : decode cX11_lend 62 = .ok (.ifCond .ne 7, 3) := by decide +kernel
theorem dX11_lend_65 : decode cX11_lend 65 = .ok (.iconst 1, 1) := by decide +kernel
theorem dX11_lend_66 : decode cX11_lend 66 = .ok (.goto 4, 3) := by decide +kernel
theorem dX11_lend_69 : decode cX11_lend 69 = .ok (.iconst 0, 1) := by decide +kernel
theorem dX11_lend_70 : decode cX11_lend 70 = .ok (.invokevirtual 172, 3) := by decide +kernel
theorem dX11_lend_73 : decode cX11_lend 73 = .ok (.ifCond .eq 5, 3) := by decide +kernel
theorem dX11_lend_76 : decode cX11_lend 76 = .ok (.iconst 0, 1) := by decide +kernel
theorem dX11_lend_77 : decode cX11_lend 77 = .ok (.ireturn, 1) := by decide +kernel
theorem dX11_lend_78 : decode cX11_lend 78 = .ok (.aload_n 0, 1) := by decide +kernel
theorem dX11_lend_79 : decode cX11_lend 79 = .ok (.iconst 0, 1) := by decide +kernel
theorem dX11_lend_80 : decode cX11_lend 80 = .ok (.invokevirtual 285, 3) := by decide +kernel
theorem dX11_lend_83 : decode cX11_lend 83 = .ok (.aload_n 0, 1) := by decide +kernel
theorem dX11_lend_84 : decode cX11_lend 84 = .ok (.iload_n 2, 1) := by decide +kernel
theorem dX11_lend_85 : decode cX11_lend 85 = .ok (.iload_n 1, 1) := by decide +kernel
theorem dX11_lend_86 : decode cX11_lend 86 = .ok (.iload_n 3, 1) := by decide +kernel
theorem dX11_lend_87 : decode cX11_lend 87 = .ok (.invokevirtual 276, 3) := by decide +kernel
theorem dX11_lend_90 : decode cX11_lend 90 = .ok (.ireturn, 1) := by decide +kernel
theorem dX11_repay_0 : decode cX11_repay 0 = .ok (.aload_n 0, 1) := by decide +kernel
theorem dX11_repay_1 : decode cX11_repay 1 = .ok (.iload_n 2, 1) := by decide +kernel
theorem dX11_repay_2 : decode cX11_repay 2 = .ok (.invokevirtual 94, 3) := by decide +kernel
theorem dX11_repay_5 : decode cX11_repay 5 = .ok (.ifCond .eq 15, 3) := by decide +kernel
theorem dX11_repay_8 : decode cX11_repay 8 = .ok (.aload_n 0, 1) := by decide +kernel
theorem dX11_repay_9 : decode cX11_repay 9 = .ok (.iload_n 1, 1) := by decide +kernel
theorem dX11_repay_10 : decode cX11_repay 10 = .ok (.invokevirtual 94, 3) := by decide +kernel
theorem dX11_repay_13 : decode cX11_repay 13 = .ok (.ifCond .eq 7, 3) := by decide +kernel
theorem dX11_repay_16 : decode cX11_repay 16 = .ok (.iconst 1, 1) := by decide +kernel
theorem dX11_repay_17 : decode cX11_repay 17 = .ok (.goto 4, 3) := by decide +kernel
theorem dX11_repay_20 : decode cX11_repay 20 = .ok (.iconst 0, 1) := by decide +kernel
theorem dX11_repay_21 : decode cX11_repay 21 = .ok (.istore 4, 2) := by decide +kernel
theorem dX11_repay_23 : decode cX11_repay 23 = .ok (.aload_n 0, 1) := by decide +kernel
theorem dX11_repay_24 : decode cX11_repay 24 = .ok (.iload 4, 2) := by decide +kernel
theorem dX11_repay_26 : decode cX11_repay 26 = .ok (.ifCond .ne 7, 3) := by decide +kernel
theorem dX11_repay_29 : decode cX11_repay 29 = .ok (.iconst 1, 1) := by decide +kernel
theorem dX11_repay_30 : decode cX11_repay 30 = .ok (.goto 4, 3) := by decide +kernel
theorem dX11_repay_33 : decode cX11_repay 33 = .ok (.iconst 0, 1) := by decide +kernel
theorem dX11_repay_34 : decode cX11_repay 34 = .ok (.iload_n 3, 1) := by decide +kernel
theorem dX11_repay_35 : decode cX11_repay 35 = .ok (.iconst 1, 1) := by decide +kernel
theorem dX11_repay_36 : decode cX11_repay 36 = .ok (.sipush 999, 3) := by decide +kernel
theorem dX11_repay_39 : decode cX11_repay 39 = .ok (.invokestatic 90, 3) := by decide +kernel
theorem dX11_repay_42 : decode cX11_repay 42 = .ok (.ifCond .ne 7, 3) := by decide +kernel
theorem dX11_repay_45 : decode cX11_repay 45 = .ok (.iconst 1, 1) := by decide +kernel
theorem dX11_repay_46 : decode cX11_repay 46 = .ok (.goto 4, 3) := by decide +kernel
theorem dX11_repay_49 : decode cX11_repay 49 = .ok (.iconst 0, 1) := by decide +kernel
theorem dX11_repay_50 : decode cX11_repay 50 = .ok (.iload 4, 2) := by decide +kernel
theorem dX11_repay_52 : decode cX11_repay 52 = .ok (.ifCond .eq 17, 3) := by decide +kernel
theorem dX11_repay_55 : decode cX11_repay 55 = .ok (.iload_n 3, 1) := by decide +kernel
theorem dX11_repay_56 : decode cX11_repay 56 = .ok (.aload_n 0, 1) := by decide +kernel
theorem dX11_repay_57 : decode cX11_repay 57 = .ok (.iload_n 1, 1) := by decide +kernel
theorem dX11_repay_58 : decode cX11_repay 58 = .ok (.iload_n 2, 1) := by decide +kernel
theorem dX11_repay_59 : decode cX11_repay 59 = .ok (.invokevirtual 163, 3) := by decide +kernel
theorem dX11_repay_62 : decode cX11_repay 62 = .ok (.if_icmp .le 7, 3) := by decide +kernel
theorem dX11_repay_65 : decode cX11_repay 65 = .ok (.iconst 1, 1) := by decide +kernel
theorem dX11_repay_66 : decode cX11_repay 66 = .ok (.goto 4, 3) := by decide +kernel
theorem dX11_repay_69 : decode cX11_repay 69 = .ok (.iconst 0, 1) := by decide +kernel
theorem dX11_repay_70 : decode cX11_repay 70 = .ok (.invokevirtual 172, 3) := by decide +kernel
theorem dX11_repay_73 : decode cX11_repay 73 = .ok (.ifCond .eq 5, 3) := by decide +kernel
theorem dX11_repay_76 : decode cX11_repay 76 = .ok (.iconst 0, 1) := by decide +kernel
theorem dX11_repay_77 : decode cX11_repay 77 = .ok (.ireturn, 1) := by decide +kernel
theorem dX11_repay_78 : decode cX11_repay 78 = .ok (.aload_n 0, 1) := by decide +kernel
theorem dX11_repay_79 : decode cX11_repay 79 = .ok (.iconst 0, 1) := by decide +kernel
theorem dX11_repay_80 : decode cX11_repay 80 = .ok (.invokevirtual 285, 3) := by decide +kernel
theorem dX11_repay_83 : decode cX11_repay 83 = .ok (.aload_n 0, 1) := by decide +kernel
theorem dX11_repay_84 : decode cX11_repay 84 = .ok (.iload_n 1, 1) := by decide +kernel
theorem dX11_repay_85 : decode cX11_repay 85 = .ok (.iload_n 2, 1) := by decide +kernel
theorem dX11_repay_86 : decode cX11_repay 86 = .ok (.iload_n 3, 1) := by decide +kernel
theorem dX11_repay_87 : decode cX11_repay 87 = .ok (.ineg, 1) := by decide +kernel
theorem dX11_repay_88 : decode cX11_repay 88 = .ok (.invokevirtual 276, 3) := by decide +kernel
theorem dX11_repay_91 : decode cX11_repay 91 = .ok (.ireturn, 1) := by decide +kernel
theorem dX11_undo_0 : decode cX11_undo 0 = .ok (.aload_n 0, 1) := by decide +kernel
theorem dX11_undo_1 : decode cX11_undo 1 = .ok (.aload_n 0, 1) := by decide +kernel
theorem dX11_undo_2 : decode cX11_undo 2 = .ok (.getfield 21, 3) := by decide +kernel
theorem dX11_undo_5 : decode cX11_undo 5 = .ok (.ifCond .ne 7, 3) := by decide +kernel
theorem dX11_undo_8 : decode cX11_undo 8 = .ok (.iconst 1, 1) := by decide +kernel
theorem dX11_undo_9 : decode cX11_undo 9 = .ok (.goto 4, 3) := by decide +kernel
theorem dX11_undo_12 : decode cX11_undo 12 = .ok (.iconst 0, 1) := by decide +kernel
theorem dX11_undo_13 : decode cX11_undo 13 = .ok (.iconst 0, 1) := by decide +kernel
theorem dX11_undo_14 : decode cX11_undo 14 = .ok (.iconst 0, 1) := by decide +kernel
theorem dX11_undo_15 : decode cX11_undo 15 = .ok (.invokevirtual 172, 3) := by decide +kernel
theorem dX11_undo_18 : decode cX11_undo 18 = .ok (.ifCond .eq 5, 3) := by decide +kernel
theorem dX11_undo_21 : decode cX11_undo 21 = .ok (.iconst 0, 1) := by decide +kernel
theorem dX11_undo_22 : decode cX11_undo 22 = .ok (.ireturn, 1) := by decide +kernel
theorem dX11_undo_23 : decode cX11_undo 23 = .ok (.aload_n 0, 1) := by decide +kernel
theorem dX11_undo_24 : decode cX11_undo 24 = .ok (.aload_n 0, 1) := by decide +kernel
theorem dX11_undo_25 : decode cX11_undo 25 = .ok (.getfield 21, 3) := by decide +kernel
theorem dX11_undo_28 : decode cX11_undo 28 = .ok (.iconst 0, 1) := by decide +kernel
theorem dX11_undo_29 : decode cX11_undo 29 = .ok (.invokevirtual 101, 3) := by decide +kernel
theorem dX11_undo_32 : decode cX11_undo 32 = .ok (.aload_n 0, 1) := by decide +kernel
theorem dX11_undo_33 : decode cX11_undo 33 = .ok (.dup, 1) := by decide +kernel
theorem dX11_undo_34 : decode cX11_undo 34 = .ok (.getfield 21, 3) := by decide +kernel
theorem dX11_undo_37 : decode cX11_undo 37 = .ok (.iconst 1, 1) := by decide +kernel
theorem dX11_undo_38 : decode cX11_undo 38 = .ok (.isub, 1) := by decide +kernel
theorem dX11_undo_39 : decode cX11_undo 39 = .ok (.putfield 21, 3) := by decide +kernel
theorem dX11_undo_42 : decode cX11_undo 42 = .ok (.aload_n 0, 1) := by decide +kernel
theorem dX11_undo_43 : decode cX11_undo 43 = .ok (.getfield 21, 3) := by decide +kernel
theorem dX11_undo_46 : decode cX11_undo 46 = .ok (.ireturn, 1) := by decide +kernel
theorem dX11_save_0 : decode cX11_save 0 = .ok (.aload_n 0, 1) := by decide +kernel
theorem dX11_save_1 : decode cX11_save 1 = .ok (.iload_n 1, 1) := by decide +kernel
theorem dX11_save_2 : decode cX11_save 2 = .ok (.iconst 0, 1) := by decide +kernel
theorem dX11_save_3 : decode cX11_save 3 = .ok (.iconst 1, 1) := by decide +kernel
theorem dX11_save_4 : decode cX11_save 4 = .ok (.invokestatic 90, 3) := by decide +kernel
theorem dX11_save_7 : decode cX11_save 7 = .ok (.ifCond .ne 7, 3) := by decide +kernel
theorem dX11_save_10 : decode cX11_save 10 = .ok (.iconst 1, 1) := by decide +kernel
theorem dX11_save_11 : decode cX11_save 11 = .ok (.goto 4, 3) := by decide +kernel
theorem dX11_save_14 : decode cX11_save 14 = .ok (.iconst 0, 1) := by decide +kernel
theorem dX11_save_15 : decode cX11_save 15 = .ok (.iconst 0, 1) := by decide +kernel
theorem dX11_save_16 : decode cX11_save 16 = .ok (.iconst 0, 1) := by decide +kernel
theorem dX11_save_17 : decode cX11_save 17 = .ok (.invokevirtual 172, 3) := by decide +kernel
theorem dX11_save_20 : decode cX11_save 20 = .ok (.ifCond .eq 5, 3) := by decide +kernel
theorem dX11_save_23 : decode cX11_save 23 = .ok (.iconst 0, 1) := by decide +kernel
theorem dX11_save_24 : decode cX11_save 24 = .ok (.ireturn, 1) := by decide +kernel
theorem dX11_save_25 : decode cX11_save 25 = .ok (.aload_n 0, 1) := by decide +kernel
theorem dX11_save_26 : decode cX11_save 26 = .ok (.iconst 0, 1) := by decide +kernel
theorem dX11_save_27 : decode cX11_save 27 = .ok (.bipush 7, 2) := by decide +kernel
theorem dX11_save_29 : decode cX11_save 29 = .ok (.iload_n 1, 1) := by decide +kernel
theorem dX11_save_30 : decode cX11_save 30 = .ok (.iadd, 1) := by decide +kernel
theorem dX11_save_31 : decode cX11_save 31 = .ok (.invokevirtual 101, 3) := by decide +kernel
theorem dX11_save_34 : decode cX11_save 34 = .ok (.aload_n 0, 1) := by decide +kernel
theorem dX11_save_35 : decode cX11_save 35 = .ok (.getfield 17, 3) := by decide +kernel
theorem dX11_save_38 : decode cX11_save 38 = .ok (.iload_n 1, 1) := by decide +kernel
theorem dX11_save_39 : decode cX11_save 39 = .ok (.iconst 1, 1) := by decide +kernel
theorem dX11_save_40 : decode cX11_save 40 = .ok (.bastore, 1) := by decide +kernel
theorem dX11_save_41 : decode cX11_save 41 = .ok (.aload_n 0, 1) := by decide +kernel
theorem dX11_save_42 : decode cX11_save 42 = .ok (.getfield 13, 3) := by decide +kernel
theorem dX11_save_45 : decode cX11_save 45 = .ok (.bipush 6, 2) := by decide +kernel
theorem dX11_save_47 : decode cX11_save 47 = .ok (.iaload, 1) := by decide +kernel
theorem dX11_save_48 : decode cX11_save 48 = .ok (.ireturn, 1) := by decide +kernel
theorem dX11_restore_0 : decode cX11_restore 0 = .ok (.iload_n 1, 1) := by decide +kernel
theorem dX11_restore_1 : decode cX11_restore 1 = .ok (.iconst 0, 1) := by decide +kernel
theorem dX11_restore_2 : decode cX11_restore 2 = .ok (.iconst 1, 1) := by decide +kernel
theorem dX11_restore_3 : decode cX11_restore 3 = .ok (.invokestatic 90, 3) := by decide +kernel
theorem dX11_restore_6 : decode cX11_restore 6 = .ok (.istore_n 2, 1) := by decide +kernel
theorem dX11_restore_7 : decode cX11_restore 7 = .ok (.aload_n 0, 1) := by decide +kernel
theorem dX11_restore_8 : decode cX11_restore 8 = .ok (.iload_n 2, 1) := by decide +kernel
theorem dX11_restore_9 : decode cX11_restore 9 = .ok (.ifCond .ne 7, 3) := by decide +kernel
theorem dX11_restore_12 : decode cX11_restore 12 = .ok (.iconst 1, 1) := by decide +kernel
theorem dX11_restore_13 : decode cX11_restore 13 = .ok (.goto 4, 3) := by decide +kernel
theorem dX11_restore_16 : decode cX11_restore 16 = .ok (.iconst 0, 1) := by decide +kernel
theorem dX11_restore_17 : decode cX11_restore 17 = .ok (.iload_n 2, 1) := by decide +kernel
theorem dX11_restore_18 : decode cX11_restore 18 = .ok (.ifCond .eq 16, 3) := by decide +kernel
theorem dX11_restore_21 : decode cX11_restore 21 = .ok (.aload_n 0, 1) := by decide +kernel
theorem dX11_restore_22 : decode cX11_restore 22 = .ok (.getfield 17, 3) := by decide +kernel
theorem dX11_restore_25 : decode cX11_restore 25 = .ok (.iload_n 1, 1) := by decide +kernel
theorem dX11_restore_26 : decode cX11_restore 26 = .ok (.baload, 1) := by decide +kernel
theorem dX11_restore_27 : decode cX11_restore 27 = .ok (.ifCond .ne 7, 3) := by decide +kernel
theorem dX11_restore_30 : decode cX11_restore 30 = .ok (.iconst 1, 1) := by decide +kernel
theorem dX11_restore_31 : decode cX11_restore 31 = .ok (.goto 4, 3) := by decide +kernel
theorem dX11_restore_34 : decode cX11_restore 34 = .ok (.iconst 0, 1) := by decide +kernel
theorem dX11_restore_35 : decode cX11_restore 35 = .ok (.iconst 0, 1) := by decide +kernel
theorem dX11_restore_36 : decode cX11_restore 36 = .ok (.invokevirtual 172, 3) := by decide +kernel
theorem dX11_restore_39 : decode cX11_restore 39 = .ok (.ifCond .eq 5, 3) := by decide +kernel
theorem dX11_restore_42 : decode cX11_restore 42 = .ok (.iconst 0, 1) := by decide +kernel
theorem dX11_restore_43 : decode cX11_restore 43 = .ok (.ireturn, 1) := by decide +kernel
theorem dX11_restore_44 : decode cX11_restore 44 = .ok (.aload_n 0, 1) := by decide +kernel
theorem dX11_restore_45 : decode cX11_restore 45 = .ok (.bipush 7, 2) := by decide +kernel
theorem dX11_restore_47 : decode cX11_restore 47 = .ok (.iload_n 1, 1) := by decide +kernel
theorem dX11_restore_48 : decode cX11_restore 48 = .ok (.iadd, 1) := by decide +kernel
theorem dX11_restore_49 : decode cX11_restore 49 = .ok (.iconst 0, 1) := by decide +kernel
theorem dX11_restore_50 : decode cX11_restore 50 = .ok (.invokevirtual 101, 3) := by decide +kernel
theorem dX11_restore_53 : decode cX11_restore 53 = .ok (.aload_n 0, 1) := by decide +kernel
theorem dX11_restore_54 : decode cX11_restore 54 = .ok (.iconst 0, 1) := by decide +kernel
theorem dX11_restore_55 : decode cX11_restore 55 = .ok (.putfield 21, 3) := by decide +kernel
theorem dX11_restore_58 : decode cX11_restore 58 = .ok (.aload_n 0, 1) := by decide +kernel
theorem dX11_restore_59 : decode cX11_restore 59 = .ok (.getfield 13, 3) := by decide +kernel
theorem dX11_restore_62 : decode cX11_restore 62 = .ok (.bipush 6, 2) := by decide +kernel
theorem dX11_restore_64 : decode cX11_restore 64 = .ok (.iaload, 1) := by decide +kernel
theorem dX11_restore_65 : decode cX11_restore 65 = .ok (.ireturn, 1) := by decide +kernel
theorem dX11_put_0 : decode cX11_put 0 = .ok (.aload_n 0, 1) := by decide +kernel
theorem dX11_put_1 : decode cX11_put 1 = .ok (.getfield 36, 3) := by decide +kernel
theorem dX11_put_4 : decode cX11_put 4 = .ok (.aload_n 0, 1) := by decide +kernel
theorem dX11_put_5 : decode cX11_put 5 = .ok (.getfield 39, 3) := by decide +kernel
theorem dX11_put_8 : decode cX11_put 8 = .ok (.iload_n 1, 1) := by decide +kernel
theorem dX11_put_9 : decode cX11_put 9 = .ok (.iastore, 1) := by decide +kernel
theorem dX11_put_10 : decode cX11_put 10 = .ok (.aload_n 0, 1) := by decide +kernel
theorem dX11_put_11 : decode cX11_put 11 = .ok (.dup, 1) := by decide +kernel
theorem dX11_put_12 : decode cX11_put 12 = .ok (.getfield 39, 3) := by decide +kernel
theorem dX11_put_15 : decode cX11_put 15 = .ok (.iconst 1, 1) := by decide +kernel
theorem dX11_put_16 : decode cX11_put 16 = .ok (.iadd, 1) := by decide +kernel
theorem dX11_put_17 : decode cX11_put 17 = .ok (.putfield 39, 3) := by decide +kernel
theorem dX11_put_20 : decode cX11_put 20 = .ok (.return_, 1) := by decide +kernel
theorem dX11_writeAllocations_0 : decode cX11_writeAllocations 0 = .ok (.aload_n 0, 1) := by decide +kernel
theorem dX11_writeAllocations_1 : decode cX11_writeAllocations 1 = .ok (.iconst 0, 1) := by decide +kernel
theorem dX11_writeAllocations_2 : decode cX11_writeAllocations 2 = .ok (.putfield 1, 3) := by decide +kernel
theorem dX11_writeAllocations_5 : decode cX11_writeAllocations 5 = .ok (.aload_n 0, 1) := by decide +kernel
theorem dX11_writeAllocations_6 : decode cX11_writeAllocations 6 = .ok (.iconst 0, 1) := by decide +kernel
theorem dX11_writeAllocations_7 : decode cX11_writeAllocations 7 = .ok (.putfield 39, 3) := by decide +kernel
theorem dX11_writeAllocations_10 : decode cX11_writeAllocations 10 = .ok (.iconst 0, 1) := by decide +kernel
theorem dX11_writeAllocations_11 : decode cX11_writeAllocations 11 = .ok (.istore_n 1, 1) := by decide +kernel
theorem dX11_writeAllocations_12 : decode cX11_writeAllocations 12 = .ok (.iload_n 1, 1) := by decide +kernel
theorem dX11_writeAllocations_13 : decode cX11_writeAllocations 13 = .ok (.aload_n 0, 1) := by decide +kernel
theorem dX11_writeAllocations_14 : decode cX11_writeAllocations 14 = .ok (.getfield 13, 3) := by decide +kernel
theorem dX11_writeAllocations_17 : decode cX11_writeAllocations 17 = .ok (.iconst 1, 1) := by decide +kernel
theorem dX11_writeAllocations_18 : decode cX11_writeAllocations 18 = .ok (.iaload, 1) := by decide +kernel
theorem dX11_writeAllocations_19 : decode cX11_writeAllocations 19 = .ok (.if_icmp .ge 135, 3) := by decide +kernel
theorem dX11_writeAllocations_22 : decode cX11_writeAllocations 22 = .ok (.iload_n 1, 1) := by decide +kernel
theorem dX11_writeAllocations_23 : decode cX11_writeAllocations 23 = .ok (.ifCond .le 9, 3) := by decide +kernel
theorem dX11_writeAllocations_26 : decode cX11_writeAllocations 26 = .ok (.aload_n 0, 1) := by decide +kernel
theorem dX11_writeAllocations_27 : decode cX11_writeAllocations 27 = .ok (.bipush 32, 2) := by decide +kernel
theorem dX11_writeAllocations_29 : decode cX11_writeAllocations 29 = .ok (.invokevirtual 324, 3) := by decide +kernel
theorem dX11_writeAllocations_32 : decode cX11_writeAllocations 32 = .ok (.iconst 0, 1) := by decide +kernel
theorem dX11_writeAllocations_33 : decode cX11_writeAllocations 33 = .ok (.istore_n 2, 1) := by decide +kernel
theorem dX11_writeAllocations_34 : decode cX11_writeAllocations 34 = .ok (.iload_n 2, 1) := by decide +kernel
theorem dX11_writeAllocations_35 : decode cX11_writeAllocations 35 = .ok (.aload_n 0, 1) := by decide +kernel
theorem dX11_writeAllocations_36 : decode cX11_writeAllocations 36 = .ok (.iload_n 1, 1) := by decide +kernel
theorem dX11_writeAllocations_37 : decode cX11_writeAllocations 37 = .ok (.iconst 0, 1) := by decide +kernel
theorem dX11_writeAllocations_38 : decode cX11_writeAllocations 38 = .ok (.invokevirtual 105, 3) := by decide +kernel
theorem dX11_writeAllocations_41 : decode cX11_writeAllocations 41 = .ok (.if_icmp .ge 21, 3) := by decide +kernel
theorem dX11_writeAllocations_44 : decode cX11_writeAllocations 44 = .ok (.aload_n 0, 1) := by decide +kernel
theorem dX11_writeAllocations_45 : decode cX11_writeAllocations 45 = .ok (.aload_n 0, 1) := by decide +kernel
theorem dX11_writeAllocations_46 : decode cX11_writeAllocations 46 = .ok (.iload_n 1, 1) := by decide +kernel
theorem dX11_writeAllocations_47 : decode cX11_writeAllocations 47 = .ok (.iconst 1, 1) := by decide +kernel
theorem dX11_writeAllocations_48 : decode cX11_writeAllocations 48 = .ok (.iload_n 2, 1) := by decide +kernel
theorem dX11_writeAllocations_49 : decode cX11_writeAllocations 49 = .ok (.iadd, 1) := by decide +kernel
theorem dX11_writeAllocations_50 : decode cX11_writeAllocations 50 = .ok (.invokevirtual 105, 3) := by decide +kernel
theorem dX11_writeAllocations_53 : decode cX11_writeAllocations 53 = .ok (.invokevirtual 324, 3) := by decide +kernel
theorem dX11_writeAllocations_56 : decode cX11_writeAllocations 56 = .ok (.iinc 2 1, 3) := by decide +kernel
theorem dX11_writeAllocations_59 : decode cX11_writeAllocations 59 = .ok (.goto (-25), 3) := by decide +kernel
theorem dX11_writeAllocations_62 : decode cX11_writeAllocations 62 = .ok (.aload_n 0, 1) := by decide +kernel
theorem dX11_writeAllocations_63 : decode cX11_writeAllocations 63 = .ok (.bipush 58, 2) := by decide +kernel
theorem dX11_writeAllocations_65 : decode cX11_writeAllocations 65 = .ok (.invokevirtual 324, 3) := by decide +kernel
theorem dX11_writeAllocations_68 : decode cX11_writeAllocations 68 = .ok (.iconst 0, 1) := by decide +kernel
theorem dX11_writeAllocations_69 : decode cX11_writeAllocations 69 = .ok (.istore_n 2, 1) := by decide +kernel
theorem dX11_writeAllocations_70 : decode cX11_writeAllocations 70 = .ok (.iload_n 2, 1) := by decide +kernel
theorem dX11_writeAllocations_71 : decode cX11_writeAllocations 71 = .ok (.aload_n 0, 1) := by decide +kernel
theorem dX11_writeAllocations_72 : decode cX11_writeAllocations 72 = .ok (.getfield 13, 3) := by decide +kernel
theorem dX11_writeAllocations_75 : decode cX11_writeAllocations 75 = .ok (.iconst 0, 1) := by decide +kernel
theorem dX11_writeAllocations_76 : decode cX11_writeAllocations 76 = .ok (.iaload, 1) := by decide +kernel
theorem dX11_writeAllocations_77 : decode cX11_writeAllocations 77 = .ok (.if_icmp .ge 57, 3) := by decide +kernel
theorem dX11_writeAllocations_80 : decode cX11_writeAllocations 80 = .ok (.iload_n 2, 1) := by decide +kernel
theorem dX11_writeAllocations_81 : decode cX11_writeAllocations 81 = .ok (.ifCond .le 9, 3) := by decide +kernel
theorem dX11_writeAllocations_84 : decode cX11_writeAllocations 84 = .ok (.aload_n 0, 1) := by decide +kernel
theorem dX11_writeAllocations_85 : decode cX11_writeAllocations 85 = .ok (.bipush 44, 2) := by decide +kernel
theorem dX11_writeAllocations_87 : decode cX11_writeAllocations 87 = .ok (.invokevirtual 324, 3) := by decide +kernel
theorem dX11_writeAllocations_90 : decode cX11_writeAllocations 90 = .ok (.aload_n 0, 1) := by decide +kernel
theorem dX11_writeAllocations_91 : decode cX11_writeAllocations 91 = .ok (.iload_n 1, 1) := by decide +kernel
theorem dX11_writeAllocations_92 : decode cX11_writeAllocations 92 = .ok (.bipush 14, 2) := by decide +kernel
theorem dX11_writeAllocations_94 : decode cX11_writeAllocations 94 = .ok (.iload_n 2, 1) := by decide +kernel
theorem dX11_writeAllocations_95 : decode cX11_writeAllocations 95 = .ok (.iadd, 1) := by decide +kernel
theorem dX11_writeAllocations_96 : decode cX11_writeAllocations 96 = .ok (.invokevirtual 105, 3) := by decide +kernel
theorem dX11_writeAllocations_99 : decode cX11_writeAllocations 99 = .ok (.istore_n 3, 1) := by decide +kernel
theorem dX11_writeAllocations_100 : decode cX11_writeAllocations 100 = .ok (.iload_n 3, 1) := by decide +kernel
theorem dX11_writeAllocations_101 : decode cX11_writeAllocations 101 = .ok (.bipush 10, 2) := by decide +kernel
theorem dX11_writeAllocations_103 : decode cX11_writeAllocations 103 = .ok (.if_icmp .lt 14, 3) := by decide +kernel
theorem dX11_writeAllocations_106 : decode cX11_writeAllocations 106 = .ok (.aload_n 0, 1) := by decide +kernel
theorem dX11_writeAllocations_107 : decode cX11_writeAllocations 107 = .ok (.bipush 48, 2) := by decide +kernel
theorem dX11_writeAllocations_109 : decode cX11_writeAllocations 109 = .ok (.iload_n 3, 1) := by decide +kernel
theorem dX11_writeAllocations_110 : decode cX11_writeAllocations 110 = .ok (.bipush 10, 2) := by decide +kernel
theorem dX11_writeAllocations_112 : decode cX11_writeAllocations 112 = .ok (.idiv, 1) := by decide +kernel
theorem dX11_writeAllocations_113 : decode cX11_writeAllocations 113 = .ok (.iadd, 1) := by decide +kernel
theorem dX11_writeAllocations_114 : decode cX11_writeAllocations 114 = .ok (.invokevirtual 324, 3) := by decide +kernel
theorem dX11_writeAllocations_117 : decode cX11_writeAllocations 117 = .ok (.aload_n 0, 1) := by decide +kernel
theorem dX11_writeAllocations_118 : decode cX11_writeAllocations 118 = .ok (.bipush 48, 2) := by decide +kernel
theorem dX11_writeAllocations_120 : decode cX11_writeAllocations 120 = .ok (.iload_n 3, 1) := by decide +kernel
theorem dX11_writeAllocations_121 : decode cX11_writeAllocations 121 = .ok (.bipush 10, 2) := by decide +kernel
theorem dX11_writeAllocations_123 : decode cX11_writeAllocations 123 = .ok (.irem, 1) := by decide +kernel
theorem dX11_writeAllocations_124 : decode cX11_writeAllocations 124 = .ok (.iadd, 1) := by decide +kernel
theorem dX11_writeAllocations_125 : decode cX11_writeAllocations 125 = .ok (.invokevirtual 324, 3) := by decide +kernel
theorem dX11_writeAllocations_128 : decode cX11_writeAllocations 128 = .ok (.iinc 2 1, 3) := by decide +kernel
theorem dX11_writeAllocations_131 : decode cX11_writeAllocations 131 = .ok (.goto (-61), 3) := by decide +kernel
theorem dX11_writeAllocations_134 : decode cX11_writeAllocations 134 = .ok (.aload_n 0, 1) := by decide +kernel
theorem dX11_writeAllocations_135 : decode cX11_writeAllocations 135 = .ok (.iload_n 1, 1) := by decide +kernel
theorem dX11_writeAllocations_136 : decode cX11_writeAllocations 136 = .ok (.invokevirtual 132, 3) := by decide +kernel
theorem dX11_writeAllocations_139 : decode cX11_writeAllocations 139 = .ok (.ifCond .eq 9, 3) := by decide +kernel
theorem dX11_writeAllocations_142 : decode cX11_writeAllocations 142 = .ok (.aload_n 0, 1) := by decide +kernel
theorem dX11_writeAllocations_143 : decode cX11_writeAllocations 143 = .ok (.bipush 63, 2) := by decide +kernel
theorem dX11_writeAllocations_145 : decode cX11_writeAllocations 145 = .ok (.invokevirtual 324, 3) := by decide +kernel
theorem dX11_writeAllocations_148 : decode cX11_writeAllocations 148 = .ok (.iinc 1 1, 3) := by decide +kernel
theorem dX11_writeAllocations_151 : decode cX11_writeAllocations 151 = .ok (.goto (-139), 3) := by decide +kernel
theorem dX11_writeAllocations_154 : decode cX11_writeAllocations 154 = .ok (.aload_n 0, 1) := by decide +kernel
theorem dX11_writeAllocations_155 : decode cX11_writeAllocations 155 = .ok (.getfield 39, 3) := by decide +kernel
theorem dX11_writeAllocations_158 : decode cX11_writeAllocations 158 = .ok (.ireturn, 1) := by decide +kernel
theorem dX11_outputByte_0 : decode cX11_outputByte 0 = .ok (.aload_n 0, 1) := by decide +kernel
theorem dX11_outputByte_1 : decode cX11_outputByte 1 = .ok (.iload_n 1, 1) := by decide +kernel
theorem dX11_outputByte_2 : decode cX11_outputByte 2 = .ok (.iconst 0, 1) := by decide +kernel
theorem dX11_outputByte_3 : decode cX11_outputByte 3 = .ok (.aload_n 0, 1) := by decide +kernel
theorem dX11_outputByte_4 : decode cX11_outputByte 4 = .ok (.getfield 39, 3) := by decide +kernel
theorem dX11_outputByte_7 : decode cX11_outputByte 7 = .ok (.iconst 1, 1) := by decide +kernel
theorem dX11_outputByte_8 : decode cX11_outputByte 8 = .ok (.isub, 1) := by decide +kernel
theorem dX11_outputByte_9 : decode cX11_outputByte 9 = .ok (.invokestatic 90, 3) := by decide +kernel
theorem dX11_outputByte_12 : decode cX11_outputByte 12 = .ok (.ifCond .ne 7, 3) := by decide +kernel
theorem dX11_outputByte_15 : decode cX11_outputByte 15 = .ok (.iconst 1, 1) := by decide +kernel
theorem dX11_outputByte_16 : decode cX11_outputByte 16 = .ok (.goto 4, 3) := by decide +kernel
theorem dX11_outputByte_19 : decode cX11_outputByte 19 = .ok (.iconst 0, 1) := by decide +kernel
theorem dX11_outputByte_20 : decode cX11_outputByte 20 = .ok (.iconst 0, 1) := by decide +kernel
theorem dX11_outputByte_21 : decode cX11_outputByte 21 = .ok (.iconst 0, 1) := by decide +kernel
theorem dX11_outputByte_22 : decode cX11_outputByte 22 = .ok (.invokevirtual 172, 3) := by decide +kernel
theorem dX11_outputByte_25 : decode cX11_outputByte 25 = .ok (.ifCond .eq 5, 3) := by decide +kernel
theorem dX11_outputByte_28 : decode cX11_outputByte 28 = .ok (.iconst 0, 1) := by decide +kernel
theorem dX11_outputByte_29 : decode cX11_outputByte 29 = .ok (.ireturn, 1) := by decide +kernel
theorem dX11_outputByte_30 : decode cX11_outputByte 30 = .ok (.aload_n 0, 1) := by decide +kernel
theorem dX11_outputByte_31 : decode cX11_outputByte 31 = .ok (.getfield 36, 3) := by decide +kernel
theorem dX11_outputByte_34 : decode cX11_outputByte 34 = .ok (.iload_n 1, 1) := by decide +kernel
theorem dX11_outputByte_35 : decode cX11_outputByte 35 = .ok (.iaload, 1) := by decide +kernel
theorem dX11_outputByte_36 : decode cX11_outputByte 36 = .ok (.ireturn, 1) := by decide +kernel
