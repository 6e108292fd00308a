theorem dX0_init_0 : decode cX0_init 0 = .ok (.aload_n 0, 1) := by decide +kernel
theorem dX0_init_1 : decode cX0_init 1 = .ok (.invokespecial 3, 3) := by decide +kernel
theorem dX0_init_4 : decode cX0_init 4 = .ok (.aload_n 0, 1) := by decide +kernel
theorem dX0_init_5 : decode cX0_init 5 = .ok (.bipush 8, 2) := by decide +kernel
theorem dX0_init_7 : decode cX0_init 7 = .ok (.newarray .int, 2) := by decide +kernel
theorem dX0_init_9 : decode cX0_init 9 = .ok (.putfield 9, 3) := by decide +kernel
theorem dX0_init_12 : decode cX0_init 12 = .ok (.aload_n 0, 1) := by decide +kernel
theorem dX0_init_13 : decode cX0_init 13 = .ok (.iconst 5, 1) := by decide +kernel
theorem dX0_init_14 : decode cX0_init 14 = .ok (.newarray .int, 2) := by decide +kernel
theorem dX0_init_16 : decode cX0_init 16 = .ok (.putfield 15, 3) := by decide +kernel
theorem dX0_init_19 : decode cX0_init 19 = .ok (.return_, 1) := by decide +kernel
theorem dX0_startWithAvailable_0 : decode cX0_startWithAvailable 0 = .ok (.iconst 0, 1) := by decide +kernel
theorem dX0_startWithAvailable_1 : decode cX0_startWithAvailable 1 = .ok (.istore_n 2, 1) := by decide +kernel
theorem dX0_startWithAvailable_2 : decode cX0_startWithAvailable 2 = .ok (.iload_n 2, 1) := by decide +kernel
theorem dX0_startWithAvailable_3 : decode cX0_startWithAvailable 3 = .ok (.aload_n 1, 1) := by decide +kernel
theorem dX0_startWithAvailable_4 : decode cX0_startWithAvailable 4 = .ok (.getfield 18, 3) := by decide +kernel
theorem dX0_startWithAvailable_7 : decode cX0_startWithAvailable 7 = .ok (.getfield 24, 3) := by decide +kernel
theorem dX0_startWithAvailable_10 : decode cX0_startWithAvailable 10 = .ok (.if_icmp .ge 58, 3) := by decide +kernel
theorem dX0_startWithAvailable_13 : decode cX0_startWithAvailable 13 = .ok (.aload_n 1, 1) := by decide +kernel
theorem dX0_startWithAvailable_14 : decode cX0_startWithAvailable 14 = .ok (.getfield 30, 3) := by decide +kernel
theorem dX0_startWithAvailable_17 : decode cX0_startWithAvailable 17 = .ok (.iload_n 2, 1) := by decide +kernel
theorem dX0_startWithAvailable_18 : decode cX0_startWithAvailable 18 = .ok (.iaload, 1) := by decide +kernel
theorem dX0_startWithAvailable_19 : decode cX0_startWithAvailable 19 = .ok (.istore_n 3, 1) := by decide +kernel
theorem dX0_startWithAvailable_20 : decode cX0_startWithAvailable 20 = .ok (.iconst 0, 1) := by decide +kernel
theorem dX0_startWithAvailable_21 : decode cX0_startWithAvailable 21 = .ok (.istore 4, 2) := by decide +kernel
theorem dX0_startWithAvailable_23 : decode cX0_startWithAvailable 23 = .ok (.iload 4, 2) := by decide +kernel
theorem dX0_startWithAvailable_25 : decode cX0_startWithAvailable 25 = .ok (.aload_n 1, 1) := by decide +kernel
theorem dX0_startWithAvailable_26 : decode cX0_startWithAvailable 26 = .ok (.getfield 33, 3) := by decide +kernel
theorem dX0_startWithAvailable_29 : decode cX0_startWithAvailable 29 = .ok (.getfield 24, 3) := by decide +kernel
theorem dX0_startWithAvailable_32 : decode cX0_startWithAvailable 32 = .ok (.if_icmp .ge 23, 3) := by decide +kernel
theorem dX0_startWithAvailable_35 : decode cX0_startWithAvailable 35 = .ok (.iload_n 3, 1) := by decide +kernel
theorem dX0_startWithAvailable_36 : decode cX0_startWithAvailable 36 = .ok (.aload_n 1, 1) := by decide +kernel
theorem dX0_startWithAvailable_37 : decode cX0_startWithAvailable 37 = .ok (.getfield 36, 3) := by decide +kernel
theorem dX0_startWithAvailable_40 : decode cX0_startWithAvailable 40 = .ok (.iload 4, 2) := by decide +kernel
theorem dX0_startWithAvailable_42 : decode cX0_startWithAvailable 42 = .ok (.iconst 5, 1) := by decide +kernel
theorem dX0_startWithAvailable_43 : decode cX0_startWithAvailable 43 = .ok (.imul, 1) := by decide +kernel
theorem dX0_startWithAvailable_44 : decode cX0_startWithAvailable 44 = .ok (.iload_n 2, 1) := by decide +kernel
theorem dX0_startWithAvailable_45 : decode cX0_startWithAvailable 45 = .ok (.iadd, 1) := by decide +kernel
theorem dX0_startWithAvailable_46 : decode cX0_startWithAvailable 46 = .ok (.iaload, 1) := by decide +kernel
theorem dX0_startWithAvailable_47 : decode cX0_startWithAvailable 47 = .ok (.isub, 1) := by decide +kernel
theorem dX0_startWithAvailable_48 : decode cX0_startWithAvailable 48 = .ok (.istore_n 3, 1) := by decide +kernel
theorem dX0_startWithAvailable_49 : decode cX0_startWithAvailable 49 = .ok (.iinc 4 1, 3) := by decide +kernel
theorem dX0_startWithAvailable_52 : decode cX0_startWithAvailable 52 = .ok (.goto (-29), 3) := by decide +kernel
theorem dX0_startWithAvailable_55 : decode cX0_startWithAvailable 55 = .ok (.aload_n 0, 1) := by decide +kernel
theorem dX0_startWithAvailable_56 : decode cX0_startWithAvailable 56 = .ok (.getfield 15, 3) := by decide +kernel
theorem dX0_startWithAvailable_59 : decode cX0_startWithAvailable 59 = .ok (.iload_n 2, 1) := by decide +kernel
theorem dX0_startWithAvailable_60 : decode cX0_startWithAvailable 60 = .ok (.iload_n 3, 1) := by decide +kernel
theorem dX0_startWithAvailable_61 : decode cX0_startWithAvailable 61 = .ok (.iastore, 1) := by decide +kernel
theorem dX0_startWithAvailable_62 : decode cX0_startWithAvailable 62 = .ok (.iinc 2 1, 3) := by decide +kernel
theorem dX0_startWithAvailable_65 : decode cX0_startWithAvailable 65 = .ok (.goto (-63), 3) := by decide +kernel
theorem dX0_startWithAvailable_68 : decode cX0_startWithAvailable 68 = .ok (.return_, 1) := by decide +kernel
theorem dX0_addAllocations_0 : decode cX0_addAllocations 0 = .ok (.iload_n 2, 1) := by decide +kernel
theorem dX0_addAllocations_1 : decode cX0_addAllocations 1 = .ok (.iconst 5, 1) := by decide +kernel
theorem dX0_addAllocations_2 : decode cX0_addAllocations 2 = .ok (.imul, 1) := by decide +kernel
theorem dX0_addAllocations_3 : decode cX0_addAllocations 3 = .ok (.istore_n 3, 1) := by decide +kernel
theorem dX0_addAllocations_4 : decode cX0_addAllocations 4 = .ok (.iconst 0, 1) := by decide +kernel
theorem dX0_addAllocations_5 : decode cX0_addAllocations 5 = .ok (.istore 4, 2) := by decide +kernel
theorem dX0_addAllocations_7 : decode cX0_addAllocations 7 = .ok (.iload 4, 2) := by decide +kernel
theorem dX0_addAllocations_9 : decode cX0_addAllocations 9 = .ok (.aload_n 1, 1) := by decide +kernel
theorem dX0_addAllocations_10 : decode cX0_addAllocations 10 = .ok (.getfield 18, 3) := by decide +kernel
theorem dX0_addAllocations_13 : decode cX0_addAllocations 13 = .ok (.getfield 24, 3) := by decide +kernel
theorem dX0_addAllocations_16 : decode cX0_addAllocations 16 = .ok (.if_icmp .ge 28, 3) := by decide +kernel
theorem dX0_addAllocations_19 : decode cX0_addAllocations 19 = .ok (.aload_n 0, 1) := by decide +kernel
theorem dX0_addAllocations_20 : decode cX0_addAllocations 20 = .ok (.getfield 15, 3) := by decide +kernel
theorem dX0_addAllocations_23 : decode cX0_addAllocations 23 = .ok (.iload 4, 2) := by decide +kernel
theorem dX0_addAllocations_25 : decode cX0_addAllocations 25 = .ok (.dup2, 1) := by decide +kernel
theorem dX0_addAllocations_26 : decode cX0_addAllocations 26 = .ok (.iaload, 1) := by decide +kernel
theorem dX0_addAllocations_27 : decode cX0_addAllocations 27 = .ok (.aload_n 1, 1) := by decide +kernel
theorem dX0_addAllocations_28 : decode cX0_addAllocations 28 = .ok (.getfield 36, 3) := by decide +kernel
theorem dX0_addAllocations_31 : decode cX0_addAllocations 31 = .ok (.iload_n 3, 1) := by decide +kernel
theorem dX0_addAllocations_32 : decode cX0_addAllocations 32 = .ok (.iload 4, 2) := by decide +kernel
theorem dX0_addAllocations_34 : decode cX0_addAllocations 34 = .ok (.iadd, 1) := by decide +kernel
theorem dX0_addAllocations_35 : decode cX0_addAllocations 35 = .ok (.iaload, 1) := by decide +kernel
theorem dX0_addAllocations_36 : decode cX0_addAllocations 36 = .ok (.iadd, 1) := by decide +kernel
theorem dX0_addAllocations_37 : decode cX0_addAllocations 37 = .ok (.iastore, 1) := by decide +kernel
theorem dX0_addAllocations_38 : decode cX0_addAllocations 38 = .ok (.iinc 4 1, 3) := by decide +kernel
theorem dX0_addAllocations_41 : decode cX0_addAllocations 41 = .ok (.goto (-34), 3) := by decide +kernel
theorem dX0_addAllocations_44 : decode cX0_addAllocations 44 = .ok (.return_, 1) := by decide +kernel
theorem dX0_finishesWithFree_0 : decode cX0_finishesWithFree 0 = .ok (.iload_n 2, 1) := by decide +kernel
theorem dX0_finishesWithFree_1 : decode cX0_finishesWithFree 1 = .ok (.iconst 5, 1) := by decide +kernel
theorem dX0_finishesWithFree_2 : decode cX0_finishesWithFree 2 = .ok (.imul, 1) := by decide +kernel
theorem dX0_finishesWithFree_3 : decode cX0_finishesWithFree 3 = .ok (.istore_n 3, 1) := by decide +kernel
theorem dX0_finishesWithFree_4 : decode cX0_finishesWithFree 4 = .ok (.iconst 0, 1) := by decide +kernel
theorem dX0_finishesWithFree_5 : decode cX0_finishesWithFree 5 = .ok (.istore 4, 2) := by decide +kernel
theorem dX0_finishesWithFree_7 : decode cX0_finishesWithFree 7 = .ok (.iload 4, 2) := by decide +kernel
theorem dX0_finishesWithFree_9 : decode cX0_finishesWithFree 9 = .ok (.aload_n 1, 1) := by decide +kernel
theorem dX0_finishesWithFree_10 : decode cX0_finishesWithFree 10 = .ok (.getfield 18, 3) := by decide +kernel
theorem dX0_finishesWithFree_13 : decode cX0_finishesWithFree 13 = .ok (.getfield 24, 3) := by decide +kernel
theorem dX0_finishesWithFree_16 : decode cX0_finishesWithFree 16 = .ok (.if_icmp .ge 40, 3) := by decide +kernel
theorem dX0_finishesWithFree_19 : decode cX0_finishesWithFree 19 = .ok (.aload_n 1, 1) := by decide +kernel
theorem dX0_finishesWithFree_20 : decode cX0_finishesWithFree 20 = .ok (.getfield 39, 3) := by decide +kernel
theorem dX0_finishesWithFree_23 : decode cX0_finishesWithFree 23 = .ok (.iload_n 3, 1) := by decide +kernel
theorem dX0_finishesWithFree_24 : decode cX0_finishesWithFree 24 = .ok (.iload 4, 2) := by decide +kernel
theorem dX0_finishesWithFree_26 : decode cX0_finishesWithFree 26 = .ok (.iadd, 1) := by decide +kernel
theorem dX0_finishesWithFree_27 : decode cX0_finishesWithFree 27 = .ok (.iaload, 1) := by decide +kernel
theorem dX0_finishesWithFree_28 : decode cX0_finishesWithFree 28 = .ok (.aload_n 1, 1) := by decide +kernel
theorem dX0_finishesWithFree_29 : decode cX0_finishesWithFree 29 = .ok (.getfield 36, 3) := by decide +kernel
theorem dX0_finishesWithFree_32 : decode cX0_finishesWithFree 32 = .ok (.iload_n 3, 1) := by decide +kernel
theorem dX0_finishesWithFree_33 : decode cX0_finishesWithFree 33 = .ok (.iload 4, 2) := by decide +kernel
theorem dX0_finishesWithFree_35 : decode cX0_finishesWithFree 35 = .ok (.iadd, 1) := by decide +kernel
theorem dX0_finishesWithFree_36 : decode cX0_finishesWithFree 36 = .ok (.iaload, 1) := by decide +kernel
theorem dX0_finishesWithFree_37 : decode cX0_finishesWithFree 37 = .ok (.isub, 1) := by decide +kernel
theorem dX0_finishesWithFree_38 : decode cX0_finishesWithFree 38 = .ok (.aload_n 0, 1) := by decide +kernel
theorem dX0_finishesWithFree_39 : decode cX0_finishesWithFree 39 = .ok (.getfield 15, 3) := by decide +kernel
theorem dX0_finishesWithFree_42 : decode cX0_finishesWithFree 42 = .ok (.iload 4, 2) := by decide +kernel
theorem dX0_finishesWithFree_44 : decode cX0_finishesWithFree 44 = .ok (.iaload, 1) := by decide +kernel
theorem dX0_finishesWithFree_45 : decode cX0_finishesWithFree 45 = .ok (.if_icmp .le 5, 3) := by decide +kernel
theorem dX0_finishesWithFree_48 : decode cX0_finishesWithFree 48 = .ok (.iconst 0, 1) := by decide +kernel
theorem dX0_finishesWithFree_49 : decode cX0_finishesWithFree 49 = .ok (.ireturn, 1) := by decide +kernel
theorem dX0_finishesWithFree_50 : decode cX0_finishesWithFree 50 = .ok (.iinc 4 1, 3) := by decide +kernel
theorem dX0_finishesWithFree_53 : decode cX0_finishesWithFree 53 = .ok (.goto (-46), 3) := by decide +kernel
theorem dX0_finishesWithFree_56 : decode cX0_finishesWithFree 56 = .ok (.iconst 1, 1) := by decide +kernel
theorem dX0_finishesWithFree_57 : decode cX0_finishesWithFree 57 = .ok (.ireturn, 1) := by decide +kernel
theorem dX0_finishesNow_0 : decode cX0_finishesNow 0 = .ok (.aload_n 0, 1) := by decide +kernel
theorem dX0_finishesNow_1 : decode cX0_finishesNow 1 = .ok (.aload_n 1, 1) := by decide +kernel
theorem dX0_finishesNow_2 : decode cX0_finishesNow 2 = .ok (.invokevirtual 42, 3) := by decide +kernel
theorem dX0_finishesNow_5 : decode cX0_finishesNow 5 = .ok (.aload_n 0, 1) := by decide +kernel
theorem dX0_finishesNow_6 : decode cX0_finishesNow 6 = .ok (.aload_n 1, 1) := by decide +kernel
theorem dX0_finishesNow_7 : decode cX0_finishesNow 7 = .ok (.iload_n 2, 1) := by decide +kernel
theorem dX0_finishesNow_8 : decode cX0_finishesNow 8 = .ok (.invokevirtual 46, 3) := by decide +kernel
theorem dX0_finishesNow_11 : decode cX0_finishesNow 11 = .ok (.ireturn, 1) := by decide +kernel
theorem dX0_allCanFinish_0 : decode cX0_allCanFinish 0 = .ok (.aload_n 0, 1) := by decide +kernel
theorem dX0_allCanFinish_1 : decode cX0_allCanFinish 1 = .ok (.aload_n 1, 1) := by decide +kernel
theorem dX0_allCanFinish_2 : decode cX0_allCanFinish 2 = .ok (.invokevirtual 42, 3) := by decide +kernel
theorem dX0_allCanFinish_5 : decode cX0_allCanFinish 5 = .ok (.iconst 0, 1) := by decide +kernel
theorem dX0_allCanFinish_6 : decode cX0_allCanFinish 6 = .ok (.istore_n 2, 1) := by decide +kernel
theorem dX0_allCanFinish_7 : decode cX0_allCanFinish 7 = .ok (.iconst 0, 1) := by decide +kernel
theorem dX0_allCanFinish_8 : decode cX0_allCanFinish 8 = .ok (.istore_n 3, 1) := by decide +kernel
theorem dX0_allCanFinish_9 : decode cX0_allCanFinish 9 = .ok (.iload_n 3, 1) := by decide +kernel
theorem dX0_allCanFinish_10 : decode cX0_allCanFinish 10 = .ok (.aload_n 1, 1) := by decide +kernel
theorem dX0_allCanFinish_11 : decode cX0_allCanFinish 11 = .ok (.getfield 33, 3) := by decide +kernel
theorem dX0_allCanFinish_14 : decode cX0_allCanFinish 14 = .ok (.getfield 24, 3) := by decide +kernel
theorem dX0_allCanFinish_17 : decode cX0_allCanFinish 17 = .ok (.if_icmp .ge 85, 3) := by decide +kernel
theorem dX0_allCanFinish_20 : decode cX0_allCanFinish 20 = .ok (.iconst 0, 1) := by decide +kernel
theorem dX0_allCanFinish_21 : decode cX0_allCanFinish 21 = .ok (.istore 4, 2) := by decide +kernel
theorem dX0_allCanFinish_23 : decode cX0_allCanFinish 23 = .ok (.iload 4, 2) := by decide +kernel
theorem dX0_allCanFinish_25 : decode cX0_allCanFinish 25 = .ok (.aload_n 1, 1) := by decide +kernel
theorem dX0_allCanFinish_26 : decode cX0_allCanFinish 26 = .ok (.getfield 33, 3) := by decide +kernel
theorem dX0_allCanFinish_29 : decode cX0_allCanFinish 29 = .ok (.getfield 24, 3) := by decide +kernel
theorem dX0_allCanFinish_32 : decode cX0_allCanFinish 32 = .ok (.if_icmp .ge 28, 3) := by decide +kernel
theorem dX0_allCanFinish_35 : decode cX0_allCanFinish 35 = .ok (.iload_n 2, 1) := by decide +kernel
theorem dX0_allCanFinish_36 : decode cX0_allCanFinish 36 = .ok (.iload 4, 2) := by decide +kernel
theorem dX0_allCanFinish_38 : decode cX0_allCanFinish 38 = .ok (.invokestatic 50, 3) := by decide +kernel
theorem dX0_allCanFinish_41 : decode cX0_allCanFinish 41 = .ok (.ifCond .ne 13, 3) := by decide +kernel
theorem dX0_allCanFinish_44 : decode cX0_allCanFinish 44 = .ok (.aload_n 0, 1) := by decide +kernel
theorem dX0_allCanFinish_45 : decode cX0_allCanFinish 45 = .ok (.aload_n 1, 1) := by decide +kernel
theorem dX0_allCanFinish_46 : decode cX0_allCanFinish 46 = .ok (.iload 4, 2) := by decide +kernel
theorem dX0_allCanFinish_48 : decode cX0_allCanFinish 48 = .ok (.invokevirtual 46, 3) := by decide +kernel
theorem dX0_allCanFinish_51 : decode cX0_allCanFinish 51 = .ok (.ifCond .ne 9, 3) := by decide +kernel
theorem dX0_allCanFinish_54 : decode cX0_allCanFinish 54 = .ok (.iinc 4 1, 3) := by decide +kernel
theorem dX0_allCanFinish_57 : decode cX0_allCanFinish 57 = .ok (.goto (-34), 3) := by decide +kernel
theorem dX0_allCanFinish_60 : decode cX0_allCanFinish 60 = .ok (.iload 4, 2) := by decide +kernel
theorem dX0_allCanFinish_62 : decode cX0_allCanFinish 62 = .ok (.aload_n 1, 1) := by decide +kernel
theorem dX0_allCanFinish_63 : decode cX0_allCanFinish 63 = .ok (.getfield 33, 3) := by decide +kernel
theorem dX0_allCanFinish_66 : decode cX0_allCanFinish 66 = .ok (.getfield 24, 3) := by decide +kernel
theorem dX0_allCanFinish_69 : decode cX0_allCanFinish 69 = .ok (.if_icmp .ne 5, 3) := by decide +kernel
theorem dX0_allCanFinish_72 : decode cX0_allCanFinish 72 = .ok (.iconst 0, 1) := by decide +kernel
theorem dX0_allCanFinish_73 : decode cX0_allCanFinish 73 = .ok (.ireturn, 1) := by decide +kernel
theorem dX0_allCanFinish_74 : decode cX0_allCanFinish 74 = .ok (.aload_n 0, 1) := by decide +kernel
theorem dX0_allCanFinish_75 : decode cX0_allCanFinish 75 = .ok (.getfield 9, 3) := by decide +kernel
theorem dX0_allCanFinish_78 : decode cX0_allCanFinish 78 = .ok (.iload_n 3, 1) := by decide +kernel
theorem dX0_allCanFinish_79 : decode cX0_allCanFinish 79 = .ok (.iload 4, 2) := by decide +kernel
theorem dX0_allCanFinish_81 : decode cX0_allCanFinish 81 = .ok (.iastore, 1) := by decide +kernel
theorem dX0_allCanFinish_82 : decode cX0_allCanFinish 82 = .ok (.iload_n 2, 1) := by decide +kernel
theorem dX0_allCanFinish_83 : decode cX0_allCanFinish 83 = .ok (.iconst 1, 1) := by decide +kernel
theorem dX0_allCanFinish_84 : decode cX0_allCanFinish 84 = .ok (.iload 4, 2) := by decide +kernel
theorem dX0_allCanFinish_86 : decode cX0_allCanFinish 86 = .ok (.ishl, 1) := by decide +kernel
theorem dX0_allCanFinish_87 : decode cX0_allCanFinish 87 = .ok (.ior, 1) := by decide +kernel
theorem dX0_allCanFinish_88 : decode cX0_allCanFinish 88 = .ok (.istore_n 2, 1) := by decide +kernel
theorem dX0_allCanFinish_89 : decode cX0_allCanFinish 89 = .ok (.aload_n 0, 1) := by decide +kernel
theorem dX0_allCanFinish_90 : decode cX0_allCanFinish 90 = .ok (.aload_n 1, 1) := by decide +kernel
theorem dX0_allCanFinish_91 : decode cX0_allCanFinish 91 = .ok (.iload 4, 2) := by decide +kernel
theorem dX0_allCanFinish_93 : decode cX0_allCanFinish 93 = .ok (.invokevirtual 54, 3) := by decide +kernel
theorem dX0_allCanFinish_96 : decode cX0_allCanFinish 96 = .ok (.iinc 3 1, 3) := by decide +kernel
theorem dX0_allCanFinish_99 : decode cX0_allCanFinish 99 = .ok (.goto (-90), 3) := by decide +kernel
theorem dX0_allCanFinish_102 : decode cX0_allCanFinish 102 = .ok (.iconst 1, 1) := by decide +kernel
theorem dX0_allCanFinish_103 : decode cX0_allCanFinish 103 = .ok (.ireturn, 1) := by decide +kernel
theorem dX0_isGrantable_0 : decode cX0_isGrantable 0 = .ok (.aload_n 0, 1) := by decide +kernel
theorem dX0_isGrantable_1 : decode cX0_isGrantable 1 = .ok (.aload_n 1, 1) := by decide +kernel
theorem dX0_isGrantable_2 : decode cX0_isGrantable 2 = .ok (.invokevirtual 42, 3) := by decide +kernel
theorem dX0_isGrantable_5 : decode cX0_isGrantable 5 = .ok (.iload 4, 2) := by decide +kernel
theorem dX0_isGrantable_7 : decode cX0_isGrantable 7 = .ok (.aload_n 0, 1) := by decide +kernel
theorem dX0_isGrantable_8 : decode cX0_isGrantable 8 = .ok (.getfield 15, 3) := by decide +kernel
theorem dX0_isGrantable_11 : decode cX0_isGrantable 11 = .ok (.iload_n 3, 1) := by decide +kernel
theorem dX0_isGrantable_12 : decode cX0_isGrantable 12 = .ok (.iaload, 1) := by decide +kernel
theorem dX0_isGrantable_13 : decode cX0_isGrantable 13 = .ok (.if_icmp .le 5, 3) := by decide +kernel
theorem dX0_isGrantable_16 : decode cX0_isGrantable 16 = .ok (.iconst 0, 1) := by decide +kernel
theorem dX0_isGrantable_17 : decode cX0_isGrantable 17 = .ok (.ireturn, 1) := by decide +kernel
theorem dX0_isGrantable_18 : decode cX0_isGrantable 18 = .ok (.iload_n 2, 1) := by decide +kernel
theorem dX0_isGrantable_19 : decode cX0_isGrantable 19 = .ok (.iload_n 3, 1) := by decide +kernel
theorem dX0_isGrantable_20 : decode cX0_isGrantable 20 = .ok (.invokestatic 58, 3) := by decide +kernel
theorem dX0_isGrantable_23 : decode cX0_isGrantable 23 = .ok (.istore 5, 2) := by decide +kernel
theorem dX0_isGrantable_25 : decode cX0_isGrantable 25 = .ok (.aload_n 1, 1) := by decide +kernel
theorem dX0_isGrantable_26 : decode cX0_isGrantable 26 = .ok (.getfield 36, 3) := by decide +kernel
theorem dX0_isGrantable_29 : decode cX0_isGrantable 29 = .ok (.iload 5, 2) := by decide +kernel
theorem dX0_isGrantable_31 : decode cX0_isGrantable 31 = .ok (.dup2, 1) := by decide +kernel
theorem dX0_isGrantable_32 : decode cX0_isGrantable 32 = .ok (.iaload, 1) := by decide +kernel
theorem dX0_isGrantable_33 : decode cX0_isGrantable 33 = .ok (.iload 4, 2) := by decide +kernel
theorem dX0_isGrantable_35 : decode cX0_isGrantable 35 = .ok (.iadd, 1) := by decide +kernel
theorem dX0_isGrantable_36 : decode cX0_isGrantable 36 = .ok (.iastore, 1) := by decide +kernel
theorem dX0_isGrantable_37 : decode cX0_isGrantable 37 = .ok (.aload_n 0, 1) := by decide +kernel
theorem dX0_isGrantable_38 : decode cX0_isGrantable 38 = .ok (.aload_n 1, 1) := by decide +kernel
theorem dX0_isGrantable_39 : decode cX0_isGrantable 39 = .ok (.invokevirtual 62, 3) := by decide +kernel
theorem dX0_isGrantable_42 : decode cX0_isGrantable 42 = .ok (.istore 6, 2) := by decide +kernel
theorem dX0_isGrantable_44 : decode cX0_isGrantable 44 = .ok (.aload_n 1, 1) := by decide +kernel
theorem dX0_isGrantable_45 : decode cX0_isGrantable 45 = .ok (.getfield 36, 3) := by decide +kernel
theorem dX0_isGrantable_48 : decode cX0_isGrantable 48 = .ok (.iload 5, 2) := by decide +kernel
theorem dX0_isGrantable_50 : decode cX0_isGrantable 50 = .ok (.dup2, 1) := by decide +kernel
theorem dX0_isGrantable_51 : decode cX0_isGrantable 51 = .ok (.iaload, 1) := by decide +kernel
theorem dX0_isGrantable_52 : decode cX0_isGrantable 52 = .ok (.iload 4, 2) := by decide +kernel
theorem dX0_isGrantable_54 : decode cX0_isGrantable 54 = .ok (.isub, 1) := by decide +kernel
theorem dX0_isGrantable_55 : decode cX0_isGrantable 55 = .ok (.iastore, 1) := by decide +kernel
theorem dX0_isGrantable_56 : decode cX0_isGrantable 56 = .ok (.iload 6, 2) := by decide +kernel
theorem dX0_isGrantable_58 : decode cX0_isGrantable 58 = .ok (.ireturn, 1) := by decide +kernel
theorem dX0_reasonAgainst_0 : decode cX0_reasonAgainst 0 = .ok (.aload_n 1, 1) := by decide +kernel
theorem dX0_reasonAgainst_1 : decode cX0_reasonAgainst 1 = .ok (.iload_n 2, 1) := by decide +kernel
theorem dX0_reasonAgainst_2 : decode cX0_reasonAgainst 2 = .ok (.invokevirtual 66, 3) := by decide +kernel
theorem dX0_reasonAgainst_5 : decode cX0_reasonAgainst 5 = .ok (.ifCond .eq 5, 3) := by decide +kernel
theorem dX0_reasonAgainst_8 : decode cX0_reasonAgainst 8 = .ok (.iconst 1, 1) := by decide +kernel
theorem dX0_reasonAgainst_9 : decode cX0_reasonAgainst 9 = .ok (.ireturn, 1) := by decide +kernel
theorem dX0_reasonAgainst_10 : decode cX0_reasonAgainst 10 = .ok (.iload 4, 2) := by decide +kernel
theorem dX0_reasonAgainst_12 : decode cX0_reasonAgainst 12 = .ok (.aload_n 1, 1) := by decide +kernel
theorem dX0_reasonAgainst_13 : decode cX0_reasonAgainst 13 = .ok (.iload_n 2, 1) := by decide +kernel
theorem dX0_reasonAgainst_14 : decode cX0_reasonAgainst 14 = .ok (.iload_n 3, 1) := by decide +kernel
theorem dX0_reasonAgainst_15 : decode cX0_reasonAgainst 15 = .ok (.invokevirtual 70, 3) := by decide +kernel
theorem dX0_reasonAgainst_18 : decode cX0_reasonAgainst 18 = .ok (.if_icmp .le 5, 3) := by decide +kernel
theorem dX0_reasonAgainst_21 : decode cX0_reasonAgainst 21 = .ok (.iconst 2, 1) := by decide +kernel
theorem dX0_reasonAgainst_22 : decode cX0_reasonAgainst 22 = .ok (.ireturn, 1) := by decide +kernel
theorem dX0_reasonAgainst_23 : decode cX0_reasonAgainst 23 = .ok (.iload 4, 2) := by decide +kernel
theorem dX0_reasonAgainst_25 : decode cX0_reasonAgainst 25 = .ok (.aload_n 1, 1) := by decide +kernel
theorem dX0_reasonAgainst_26 : decode cX0_reasonAgainst 26 = .ok (.iload_n 3, 1) := by decide +kernel
theorem dX0_reasonAgainst_27 : decode cX0_reasonAgainst 27 = .ok (.invokevirtual 73, 3) := by decide +kernel
theorem dX0_reasonAgainst_30 : decode cX0_reasonAgainst 30 = .ok (.if_icmp .le 5, 3) := by decide +kernel
theorem dX0_reasonAgainst_33 : decode cX0_reasonAgainst 33 = .ok (.iconst 3, 1) := by decide +kernel
theorem dX0_reasonAgainst_34 : decode cX0_reasonAgainst 34 = .ok (.ireturn, 1) := by decide +kernel
theorem dX0_reasonAgainst_35 : decode cX0_reasonAgainst 35 = .ok (.aload_n 0, 1) := by decide +kernel
theorem dX0_reasonAgainst_36 : decode cX0_reasonAgainst 36 = .ok (.aload_n 1, 1) := by decide +kernel
theorem dX0_reasonAgainst_37 : decode cX0_reasonAgainst 37 = .ok (.iload_n 2, 1) := by decide +kernel
theorem dX0_reasonAgainst_38 : decode cX0_reasonAgainst 38 = .ok (.iload_n 3, 1) := by decide +kernel
theorem dX0_reasonAgainst_39 : decode cX0_reasonAgainst 39 = .ok (.iload 4, 2) := by decide +kernel
theorem dX0_reasonAgainst_41 : decode cX0_reasonAgainst 41 = .ok (.invokevirtual 77, 3) := by decide +kernel
theorem dX0_reasonAgainst_44 : decode cX0_reasonAgainst 44 = .ok (.ifCond .eq 7, 3) := by decide +kernel
theorem dX0_reasonAgainst_47 : decode cX0_reasonAgainst 47 = .ok (.iconst 0, 1) := by decide +kernel
theorem dX0_reasonAgainst_48 : decode cX0_reasonAgainst 48 = .ok (.goto 4, 3) := by decide +kernel
theorem dX0_reasonAgainst_51 : decode cX0_reasonAgainst 51 = .ok (.iconst 4, 1) := by decide +kernel
theorem dX0_reasonAgainst_52 : decode cX0_reasonAgainst 52 = .ok (.ireturn, 1) := by decide +kernel
theorem dX0_mostGrantable_0 : decode cX0_mostGrantable 0 = .ok (.aload_n 1, 1) := by decide +kernel
theorem dX0_mostGrantable_1 : decode cX0_mostGrantable 1 = .ok (.iload_n 2, 1) := by decide +kernel
theorem dX0_mostGrantable_2 : decode cX0_mostGrantable 2 = .ok (.iload_n 3, 1) := by decide +kernel
theorem dX0_mostGrantable_3 : decode cX0_mostGrantable 3 = .ok (.invokevirtual 70, 3) := by decide +kernel
theorem dX0_mostGrantable_6 : decode cX0_mostGrantable 6 = .ok (.aload_n 1, 1) := by decide +kernel
theorem dX0_mostGrantable_7 : decode cX0_mostGrantable 7 = .ok (.iload_n 3, 1) := by decide +kernel
theorem dX0_mostGrantable_8 : decode cX0_mostGrantable 8 = .ok (.invokevirtual 73, 3) := by decide +kernel
theorem dX0_mostGrantable_11 : decode cX0_mostGrantable 11 = .ok (.invokestatic 81, 3) := by decide +kernel
theorem dX0_mostGrantable_14 : decode cX0_mostGrantable 14 = .ok (.istore 4, 2) := by decide +kernel
theorem dX0_mostGrantable_16 : decode cX0_mostGrantable 16 = .ok (.iload 4, 2) := by decide +kernel
theorem dX0_mostGrantable_18 : decode cX0_mostGrantable 18 = .ok (.ifCond .le 21, 3) := by decide +kernel
theorem dX0_mostGrantable_21 : decode cX0_mostGrantable 21 = .ok (.aload_n 0, 1) := by decide +kernel
theorem dX0_mostGrantable_22 : decode cX0_mostGrantable 22 = .ok (.aload_n 1, 1) := by decide +kernel
theorem dX0_mostGrantable_23 : decode cX0_mostGrantable 23 = .ok (.iload_n 2, 1) := by decide +kernel
theorem dX0_mostGrantable_24 : decode cX0_mostGrantable 24 = .ok (.iload_n 3, 1) := by decide +kernel
theorem dX0_mostGrantable_25 : decode cX0_mostGrantable 25 = .ok (.iload 4, 2) := by decide +kernel
theorem dX0_mostGrantable_27 : decode cX0_mostGrantable 27 = .ok (.invokevirtual 86, 3) := by decide +kernel
theorem dX0_mostGrantable_30 : decode cX0_mostGrantable 30 = .ok (.ifCond .eq 9, 3) := by decide +kernel
theorem dX0_mostGrantable_33 : decode cX0_mostGrantable 33 = .ok (.iinc 4 (-1), 3) := by decide +kernel
theorem dX0_mostGrantable_36 : decode cX0_mostGrantable 36 = .ok (.goto (-20), 3) := by decide +kernel
theorem dX0_mostGrantable_39 : decode cX0_mostGrantable 39 = .ok (.iload 4, 2) := by decide +kernel
theorem dX0_mostGrantable_41 : decode cX0_mostGrantable 41 = .ok (.iconst 0, 1) := by decide +kernel
theorem dX0_mostGrantable_42 : decode cX0_mostGrantable 42 = .ok (.invokestatic 90, 3) := by decide +kernel
theorem dX0_mostGrantable_45 : decode cX0_mostGrantable 45 = .ok (.ireturn, 1) := by decide +kernel
theorem dX0_leastSafeCapacity_0 : decode cX0_leastSafeCapacity 0 = .ok (.aload_n 1, 1) := by decide +kernel
theorem dX0_leastSafeCapacity_1 : decode cX0_leastSafeCapacity 1 = .ok (.getfield 30, 3) := by decide +kernel
theorem dX0_leastSafeCapacity_4 : decode cX0_leastSafeCapacity 4 = .ok (.iload_n 2, 1) := by decide +kernel
theorem dX0_leastSafeCapacity_5 : decode cX0_leastSafeCapacity 5 = .ok (.iaload, 1) := by decide +kernel
theorem dX0_leastSafeCapacity_6 : decode cX0_leastSafeCapacity 6 = .ok (.istore_n 3, 1) := by decide +kernel
theorem dX0_leastSafeCapacity_7 : decode cX0_leastSafeCapacity 7 = .ok (.aload_n 1, 1) := by decide +kernel
theorem dX0_leastSafeCapacity_8 : decode cX0_leastSafeCapacity 8 = .ok (.iload_n 2, 1) := by decide +kernel
theorem dX0_leastSafeCapacity_9 : decode cX0_leastSafeCapacity 9 = .ok (.invokevirtual 93, 3) := by decide +kernel
theorem dX0_leastSafeCapacity_12 : decode cX0_leastSafeCapacity 12 = .ok (.istore 4, 2) := by decide +kernel
theorem dX0_leastSafeCapacity_14 : decode cX0_leastSafeCapacity 14 = .ok (.iconst (-1), 1) := by decide +kernel
theorem dX0_leastSafeCapacity_15 : decode cX0_leastSafeCapacity 15 = .ok (.istore 5, 2) := by decide +kernel
theorem dX0_leastSafeCapacity_17 : decode cX0_leastSafeCapacity 17 = .ok (.iconst 0, 1) := by decide +kernel
theorem dX0_leastSafeCapacity_18 : decode cX0_leastSafeCapacity 18 = .ok (.istore 6, 2) := by decide +kernel
theorem dX0_leastSafeCapacity_20 : decode cX0_leastSafeCapacity 20 = .ok (.iload 6, 2) := by decide +kernel
theorem dX0_leastSafeCapacity_22 : decode cX0_leastSafeCapacity 22 = .ok (.bipush 50, 2) := by decide +kernel
theorem dX0_leastSafeCapacity_24 : decode cX0_leastSafeCapacity 24 = .ok (.if_icmp .gt 41, 3) := by decide +kernel
theorem dX0_leastSafeCapacity_27 : decode cX0_leastSafeCapacity 27 = .ok (.iload 5, 2) := by decide +kernel
theorem dX0_leastSafeCapacity_29 : decode cX0_leastSafeCapacity 29 = .ok (.iconst (-1), 1) := by decide +kernel
theorem dX0_leastSafeCapacity_30 : decode cX0_leastSafeCapacity 30 = .ok (.if_icmp .ne 35, 3) := by decide +kernel
theorem dX0_leastSafeCapacity_33 : decode cX0_leastSafeCapacity 33 = .ok (.aload_n 1, 1) := by decide +kernel
theorem dX0_leastSafeCapacity_34 : decode cX0_leastSafeCapacity 34 = .ok (.getfield 30, 3) := by decide +kernel
theorem dX0_leastSafeCapacity_37 : decode cX0_leastSafeCapacity 37 = .ok (.iload_n 2, 1) := by decide +kernel
theorem dX0_leastSafeCapacity_38 : decode cX0_leastSafeCapacity 38 = .ok (.iload 4, 2) := by decide +kernel
theorem dX0_leastSafeCapacity_40 : decode cX0_leastSafeCapacity 40 = .ok (.iload 6, 2) := by decide +kernel
theorem dX0_leastSafeCapacity_42 : decode cX0_leastSafeCapacity 42 = .ok (.iadd, 1) := by decide +kernel
theorem dX0_leastSafeCapacity_43 : decode cX0_leastSafeCapacity 43 = .ok (.iastore, 1) := by decide +kernel
theorem dX0_leastSafeCapacity_44 : decode cX0_leastSafeCapacity 44 = .ok (.aload_n 0, 1) := by decide +kernel
theorem dX0_leastSafeCapacity_45 : decode cX0_leastSafeCapacity 45 = .ok (.aload_n 1, 1) := by decide +kernel
theorem dX0_leastSafeCapacity_46 : decode cX0_leastSafeCapacity 46 = .ok (.invokevirtual 62, 3) := by decide +kernel
theorem dX0_leastSafeCapacity_49 : decode cX0_leastSafeCapacity 49 = .ok (.ifCond .eq 10, 3) := by decide +kernel
theorem dX0_leastSafeCapacity_52 : decode cX0_leastSafeCapacity 52 = .ok (.iload 4, 2) := by decide +kernel
theorem dX0_leastSafeCapacity_54 : decode cX0_leastSafeCapacity 54 = .ok (.iload 6, 2) := by decide +kernel
theorem dX0_leastSafeCapacity_56 : decode cX0_leastSafeCapacity 56 = .ok (.iadd, 1) := by decide +kernel
theorem dX0_leastSafeCapacity_57 : decode cX0_leastSafeCapacity 57 = .ok (.istore 5, 2) := by decide +kernel
theorem dX0_leastSafeCapacity_59 : decode cX0_leastSafeCapacity 59 = .ok (.iinc 6 1, 3) := by decide +kernel
theorem dX0_leastSafeCapacity_62 : decode cX0_leastSafeCapacity 62 = .ok (.goto (-42), 3) := by decide +kernel
theorem dX0_leastSafeCapacity_65 : decode cX0_leastSafeCapacity 65 = .ok (.aload_n 1, 1) := by decide +kernel
theorem dX0_leastSafeCapacity_66 : decode cX0_leastSafeCapacity 66 = .ok (.getfield 30, 3) := by decide +kernel
theorem dX0_leastSafeCapacity_69 : decode cX0_leastSafeCapacity 69 = .ok (.iload_n 2, 1) := by decide +kernel
theorem dX0_leastSafeCapacity_70 : decode cX0_leastSafeCapacity 70 = .ok (.iload_n 3, 1) := by decide +kernel
theorem dX0_leastSafeCapacity_71 : decode cX0_leastSafeCapacity 71 = .ok (.iastore, 1) := by decide +kernel
theorem dX0_leastSafeCapacity_72 : decode cX0_leastSafeCapacity 72 = .ok (.iload 5, 2) := by decide +kernel
theorem dX0_leastSafeCapacity_74 : decode cX0_leastSafeCapacity 74 = .ok (.ireturn, 1) := by decide +kernel
theorem dX0_bestFinisher_0 : decode cX0_bestFinisher 0 = .ok (.iconst 0, 1) := by decide +kernel
theorem dX0_bestFinisher_1 : decode cX0_bestFinisher 1 = .ok (.istore_n 3, 1) := by decide +kernel
theorem dX0_bestFinisher_2 : decode cX0_bestFinisher 2 = .ok (.iconst 0, 1) := by decide +kernel
theorem dX0_bestFinisher_3 : decode cX0_bestFinisher 3 = .ok (.istore 4, 2) := by decide +kernel
theorem dX0_bestFinisher_5 : decode cX0_bestFinisher 5 = .ok (.iconst 0, 1) := by decide +kernel
theorem dX0_bestFinisher_6 : decode cX0_bestFinisher 6 = .ok (.istore 5, 2) := by decide +kernel
theorem dX0_bestFinisher_8 : decode cX0_bestFinisher 8 = .ok (.iload 5, 2) := by decide +kernel
theorem dX0_bestFinisher_10 : decode cX0_bestFinisher 10 = .ok (.aload_n 1, 1) := by decide +kernel
theorem dX0_bestFinisher_11 : decode cX0_bestFinisher 11 = .ok (.getfield 33, 3) := by decide +kernel
theorem dX0_bestFinisher_14 : decode cX0_bestFinisher 14 = .ok (.getfield 24, 3) := by decide +kernel
theorem dX0_bestFinisher_17 : decode cX0_bestFinisher 17 = .ok (.if_icmp .ge 37, 3) := by decide +kernel
theorem dX0_bestFinisher_20 : decode cX0_bestFinisher 20 = .ok (.aload_n 2, 1) := by decide +kernel
theorem dX0_bestFinisher_21 : decode cX0_bestFinisher 21 = .ok (.aload_n 1, 1) := by decide +kernel
theorem dX0_bestFinisher_22 : decode cX0_bestFinisher 22 = .ok (.invokevirtual 96, 3) := by decide +kernel
theorem dX0_bestFinisher_25 : decode cX0_bestFinisher 25 = .ok (.aload_n 0, 1) := by decide +kernel
theorem dX0_bestFinisher_26 : decode cX0_bestFinisher 26 = .ok (.aload_n 2, 1) := by decide +kernel
theorem dX0_bestFinisher_27 : decode cX0_bestFinisher 27 = .ok (.iload 5, 2) := by decide +kernel
theorem dX0_bestFinisher_29 : decode cX0_bestFinisher 29 = .ok (.invokevirtual 99, 3) := by decide +kernel
theorem dX0_bestFinisher_32 : decode cX0_bestFinisher 32 = .ok (.istore 6, 2) := by decide +kernel
theorem dX0_bestFinisher_34 : decode cX0_bestFinisher 34 = .ok (.iload 6, 2) := by decide +kernel
theorem dX0_bestFinisher_36 : decode cX0_bestFinisher 36 = .ok (.iload 4, 2) := by decide +kernel
theorem dX0_bestFinisher_38 : decode cX0_bestFinisher 38 = .ok (.if_icmp .le 10, 3) := by decide +kernel
theorem dX0_bestFinisher_41 : decode cX0_bestFinisher 41 = .ok (.iload 6, 2) := by decide +kernel
theorem dX0_bestFinisher_43 : decode cX0_bestFinisher 43 = .ok (.istore 4, 2) := by decide +kernel
theorem dX0_bestFinisher_45 : decode cX0_bestFinisher 45 = .ok (.iload 5, 2) := by decide +kernel
theorem dX0_bestFinisher_47 : decode cX0_bestFinisher 47 = .ok (.istore_n 3, 1) := by decide +kernel
theorem dX0_bestFinisher_48 : decode cX0_bestFinisher 48 = .ok (.iinc 5 1, 3) := by decide +kernel
theorem dX0_bestFinisher_51 : decode cX0_bestFinisher 51 = .ok (.goto (-43), 3) := by decide +kernel
theorem dX0_bestFinisher_54 : decode cX0_bestFinisher 54 = .ok (.iload_n 3, 1) := by decide +kernel
theorem dX0_bestFinisher_55 : decode cX0_bestFinisher 55 = .ok (.ireturn, 1) := by decide +kernel
theorem dX0_grantOrQueue_0 : decode cX0_grantOrQueue 0 = .ok (.aload_n 0, 1) := by decide +kernel
theorem dX0_grantOrQueue_1 : decode cX0_grantOrQueue 1 = .ok (.aload_n 1, 1) := by decide +kernel
theorem dX0_grantOrQueue_2 : decode cX0_grantOrQueue 2 = .ok (.iload_n 2, 1) := by decide +kernel
theorem dX0_grantOrQueue_3 : decode cX0_grantOrQueue 3 = .ok (.iload_n 3, 1) := by decide +kernel
theorem dX0_grantOrQueue_4 : decode cX0_grantOrQueue 4 = .ok (.iload 4, 2) := by decide +kernel
theorem dX0_grantOrQueue_6 : decode cX0_grantOrQueue 6 = .ok (.invokevirtual 77, 3) := by decide +kernel
theorem dX0_grantOrQueue_9 : decode cX0_grantOrQueue 9 = .ok (.ifCond .eq 30, 3) := by decide +kernel
theorem dX0_grantOrQueue_12 : decode cX0_grantOrQueue 12 = .ok (.aload_n 1, 1) := by decide +kernel
theorem dX0_grantOrQueue_13 : decode cX0_grantOrQueue 13 = .ok (.getfield 36, 3) := by decide +kernel
theorem dX0_grantOrQueue_16 : decode cX0_grantOrQueue 16 = .ok (.iload_n 2, 1) := by decide +kernel
theorem dX0_grantOrQueue_17 : decode cX0_grantOrQueue 17 = .ok (.iload_n 3, 1) := by decide +kernel
theorem dX0_grantOrQueue_18 : decode cX0_grantOrQueue 18 = .ok (.invokestatic 58, 3) := by decide +kernel
theorem dX0_grantOrQueue_21 : decode cX0_grantOrQueue 21 = .ok (.dup2, 1) := by decide +kernel
theorem dX0_grantOrQueue_22 : decode cX0_grantOrQueue 22 = .ok (.iaload, 1) := by decide +kernel
theorem dX0_grantOrQueue_23 : decode cX0_grantOrQueue 23 = .ok (.iload 4, 2) := by decide +kernel
theorem dX0_grantOrQueue_25 : decode cX0_grantOrQueue 25 = .ok (.iadd, 1) := by decide +kernel
theorem dX0_grantOrQueue_26 : decode cX0_grantOrQueue 26 = .ok (.iastore, 1) := by decide +kernel
theorem dX0_grantOrQueue_27 : decode cX0_grantOrQueue 27 = .ok (.aload_n 1, 1) := by decide +kernel
theorem dX0_grantOrQueue_28 : decode cX0_grantOrQueue 28 = .ok (.dup, 1) := by decide +kernel
theorem dX0_grantOrQueue_29 : decode cX0_grantOrQueue 29 = .ok (.getfield 103, 3) := by decide +kernel
theorem dX0_grantOrQueue_32 : decode cX0_grantOrQueue 32 = .ok (.iconst 1, 1) := by decide +kernel
theorem dX0_grantOrQueue_33 : decode cX0_grantOrQueue 33 = .ok (.iadd, 1) := by decide +kernel
theorem dX0_grantOrQueue_34 : decode cX0_grantOrQueue 34 = .ok (.putfield 103, 3) := by decide +kernel
theorem dX0_grantOrQueue_37 : decode cX0_grantOrQueue 37 = .ok (.iconst 1, 1) := by decide +kernel
theorem dX0_grantOrQueue_38 : decode cX0_grantOrQueue 38 = .ok (.ireturn, 1) := by decide +kernel
theorem dX0_grantOrQueue_39 : decode cX0_grantOrQueue 39 = .ok (.aload_n 1, 1) := by decide +kernel
theorem dX0_grantOrQueue_40 : decode cX0_grantOrQueue 40 = .ok (.iload_n 2, 1) := by decide +kernel
theorem dX0_grantOrQueue_41 : decode cX0_grantOrQueue 41 = .ok (.iload_n 3, 1) := by decide +kernel
theorem dX0_grantOrQueue_42 : decode cX0_grantOrQueue 42 = .ok (.iload 4, 2) := by decide +kernel
theorem dX0_grantOrQueue_44 : decode cX0_grantOrQueue 44 = .ok (.invokevirtual 106, 3) := by decide +kernel
theorem dX0_grantOrQueue_47 : decode cX0_grantOrQueue 47 = .ok (.aload_n 1, 1) := by decide +kernel
theorem dX0_grantOrQueue_48 : decode cX0_grantOrQueue 48 = .ok (.dup, 1) := by decide +kernel
theorem dX0_grantOrQueue_49 : decode cX0_grantOrQueue 49 = .ok (.getfield 110, 3) := by decide +kernel
theorem dX0_grantOrQueue_52 : decode cX0_grantOrQueue 52 = .ok (.iconst 1, 1) := by decide +kernel
theorem dX0_grantOrQueue_53 : decode cX0_grantOrQueue 53 = .ok (.iadd, 1) := by decide +kernel
theorem dX0_grantOrQueue_54 : decode cX0_grantOrQueue 54 = .ok (.putfield 110, 3) := by decide +kernel
theorem dX0_grantOrQueue_57 : decode cX0_grantOrQueue 57 = .ok (.iconst 0, 1) := by decide +kernel
theorem dX0_grantOrQueue_58 : decode cX0_grantOrQueue 58 = .ok (.ireturn, 1) := by decide +kernel
theorem dX0_takeBack_0 : decode cX0_takeBack 0 = .ok (.aload_n 1, 1) := by decide +kernel
theorem dX0_takeBack_1 : decode cX0_takeBack 1 = .ok (.getfield 36, 3) := by decide +kernel
theorem dX0_takeBack_4 : decode cX0_takeBack 4 = .ok (.iload_n 2, 1) := by decide +kernel
theorem dX0_takeBack_5 : decode cX0_takeBack 5 = .ok (.iload_n 3, 1) := by decide +kernel
theorem dX0_takeBack_6 : decode cX0_takeBack 6 = .ok (.invokestatic 58, 3) := by decide +kernel
theorem dX0_takeBack_9 : decode cX0_takeBack 9 = .ok (.dup2, 1) := by decide +kernel
theorem dX0_takeBack_10 : decode cX0_takeBack 10 = .ok (.iaload, 1) := by decide +kernel
theorem dX0_takeBack_11 : decode cX0_takeBack 11 = .ok (.iload 4, 2) := by decide +kernel
theorem dX0_takeBack_13 : decode cX0_takeBack 13 = .ok (.isub, 1) := by decide +kernel
theorem dX0_takeBack_14 : decode cX0_takeBack 14 = .ok (.iastore, 1) := by decide +kernel
theorem dX0_takeBack_15 : decode cX0_takeBack 15 = .ok (.aload_n 0, 1) := by decide +kernel
theorem dX0_takeBack_16 : decode cX0_takeBack 16 = .ok (.aload_n 1, 1) := by decide +kernel
theorem dX0_takeBack_17 : decode cX0_takeBack 17 = .ok (.invokevirtual 113, 3) := by decide +kernel
theorem dX0_takeBack_20 : decode cX0_takeBack 20 = .ok (.ireturn, 1) := by decide +kernel
theorem dX0_takeBackAll_0 : decode cX0_takeBackAll 0 = .ok (.aload_n 1, 1) := by decide +kernel
theorem dX0_takeBackAll_1 : decode cX0_takeBackAll 1 = .ok (.iload_n 2, 1) := by decide +kernel
theorem dX0_takeBackAll_2 : decode cX0_takeBackAll 2 = .ok (.invokevirtual 66, 3) := by decide +kernel
theorem dX0_takeBackAll_5 : decode cX0_takeBackAll 5 = .ok (.ifCond .eq 18, 3) := by decide +kernel
theorem dX0_takeBackAll_8 : decode cX0_takeBackAll 8 = .ok (.aload_n 1, 1) := by decide +kernel
theorem dX0_takeBackAll_9 : decode cX0_takeBackAll 9 = .ok (.iload_n 2, 1) := by decide +kernel
theorem dX0_takeBackAll_10 : decode cX0_takeBackAll 10 = .ok (.invokevirtual 117, 3) := by decide +kernel
theorem dX0_takeBackAll_13 : decode cX0_takeBackAll 13 = .ok (.aload_n 1, 1) := by decide +kernel
theorem dX0_takeBackAll_14 : decode cX0_takeBackAll 14 = .ok (.dup, 1) := by decide +kernel
theorem dX0_takeBackAll_15 : decode cX0_takeBackAll 15 = .ok (.getfield 121, 3) := by decide +kernel
theorem dX0_takeBackAll_18 : decode cX0_takeBackAll 18 = .ok (.iconst 1, 1) := by decide +kernel
theorem dX0_takeBackAll_19 : decode cX0_takeBackAll 19 = .ok (.iadd, 1) := by decide +kernel
theorem dX0_takeBackAll_20 : decode cX0_takeBackAll 20 = .ok (.putfield 121, 3) := by decide +kernel
theorem dX0_takeBackAll_23 : decode cX0_takeBackAll 23 = .ok (.iconst 0, 1) := by decide +kernel
theorem dX0_takeBackAll_24 : decode cX0_takeBackAll 24 = .ok (.istore_n 3, 1) := by decide +kernel
theorem dX0_takeBackAll_25 : decode cX0_takeBackAll 25 = .ok (.iload_n 3, 1) := by decide +kernel
theorem dX0_takeBackAll_26 : decode cX0_takeBackAll 26 = .ok (.aload_n 1, 1) := by decide +kernel
theorem dX0_takeBackAll_27 : decode cX0_takeBackAll 27 = .ok (.getfield 18, 3) := by decide +kernel
theorem dX0_takeBackAll_30 : decode cX0_takeBackAll 30 = .ok (.getfield 24, 3) := by decide +kernel
theorem dX0_takeBackAll_33 : decode cX0_takeBackAll 33 = .ok (.if_icmp .ge 20, 3) := by decide +kernel
theorem dX0_takeBackAll_36 : decode cX0_takeBackAll 36 = .ok (.aload_n 1, 1) := by decide +kernel
theorem dX0_takeBackAll_37 : decode cX0_takeBackAll 37 = .ok (.getfield 36, 3) := by decide +kernel
theorem dX0_takeBackAll_40 : decode cX0_takeBackAll 40 = .ok (.iload_n 2, 1) := by decide +kernel
theorem dX0_takeBackAll_41 : decode cX0_takeBackAll 41 = .ok (.iload_n 3, 1) := by decide +kernel
theorem dX0_takeBackAll_42 : decode cX0_takeBackAll 42 = .ok (.invokestatic 58, 3) := by decide +kernel
theorem dX0_takeBackAll_45 : decode cX0_takeBackAll 45 = .ok (.iconst 0, 1) := by decide +kernel
theorem dX0_takeBackAll_46 : decode cX0_takeBackAll 46 = .ok (.iastore, 1) := by decide +kernel
theorem dX0_takeBackAll_47 : decode cX0_takeBackAll 47 = .ok (.iinc 3 1, 3) := by decide +kernel
theorem dX0_takeBackAll_50 : decode cX0_takeBackAll 50 = .ok (.goto (-25), 3) := by decide +kernel
theorem dX0_takeBackAll_53 : decode cX0_takeBackAll 53 = .ok (.aload_n 0, 1) := by decide +kernel
theorem dX0_takeBackAll_54 : decode cX0_takeBackAll 54 = .ok (.aload_n 1, 1) := by decide +kernel
theorem dX0_takeBackAll_55 : decode cX0_takeBackAll 55 = .ok (.invokevirtual 113, 3) := by decide +kernel
theorem dX0_takeBackAll_58 : decode cX0_takeBackAll 58 = .ok (.ireturn, 1) := by decide +kernel
theorem dX0_withdrawRequest_0 : decode cX0_withdrawRequest 0 = .ok (.aload_n 1, 1) := by decide +kernel
theorem dX0_withdrawRequest_1 : decode cX0_withdrawRequest 1 = .ok (.iload_n 2, 1) := by decide +kernel
theorem dX0_withdrawRequest_2 : decode cX0_withdrawRequest 2 = .ok (.invokevirtual 117, 3) := by decide +kernel
theorem dX0_withdrawRequest_5 : decode cX0_withdrawRequest 5 = .ok (.aload_n 1, 1) := by decide +kernel
theorem dX0_withdrawRequest_6 : decode cX0_withdrawRequest 6 = .ok (.dup, 1) := by decide +kernel
theorem dX0_withdrawRequest_7 : decode cX0_withdrawRequest 7 = .ok (.getfield 121, 3) := by decide +kernel
theorem dX0_withdrawRequest_10 : decode cX0_withdrawRequest 10 = .ok (.iconst 1, 1) := by decide +kernel
theorem dX0_withdrawRequest_11 : decode cX0_withdrawRequest 11 = .ok (.iadd, 1) := by decide +kernel
theorem dX0_withdrawRequest_12 : decode cX0_withdrawRequest 12 = .ok (.putfield 121, 3) := by decide +kernel
theorem dX0_withdrawRequest_15 : decode cX0_withdrawRequest 15 = .ok (.aload_n 0, 1) := by decide +kernel
theorem dX0_withdrawRequest_16 : decode cX0_withdrawRequest 16 = .ok (.aload_n 1, 1) := by decide +kernel
theorem dX0_withdrawRequest_17 : decode cX0_withdrawRequest 17 = .ok (.invokevirtual 113, 3) := by decide +kernel
theorem dX0_withdrawRequest_20 : decode cX0_withdrawRequest 20 = .ok (.ireturn, 1) := by decide +kernel
theorem dX0_resize_0 : decode cX0_resize 0 = .ok (.aload_n 1, 1) := by decide +kernel
theorem dX0_resize_1 : decode cX0_resize 1 = .ok (.getfield 30, 3) := by decide +kernel
theorem dX0_resize_4 : decode cX0_resize 4 = .ok (.iload_n 2, 1) := by decide +kernel
theorem dX0_resize_5 : decode cX0_resize 5 = .ok (.iload_n 3, 1) := by decide +kernel
theorem dX0_resize_6 : decode cX0_resize 6 = .ok (.iastore, 1) := by decide +kernel
theorem dX0_resize_7 : decode cX0_resize 7 = .ok (.aload_n 0, 1) := by decide +kernel
theorem dX0_resize_8 : decode cX0_resize 8 = .ok (.aload_n 1, 1) := by decide +kernel
theorem dX0_resize_9 : decode cX0_resize 9 = .ok (.invokevirtual 113, 3) := by decide +kernel
theorem dX0_resize_12 : decode cX0_resize 12 = .ok (.ireturn, 1) := by decide +kernel
theorem dX0_changeClaim_0 : decode cX0_changeClaim 0 = .ok (.aload_n 1, 1) := by decide +kernel
theorem dX0_changeClaim_1 : decode cX0_changeClaim 1 = .ok (.getfield 39, 3) := by decide +kernel
theorem dX0_changeClaim_4 : decode cX0_changeClaim 4 = .ok (.iload_n 2, 1) := by decide +kernel
theorem dX0_changeClaim_5 : decode cX0_changeClaim 5 = .ok (.iload_n 3, 1) := by decide +kernel
theorem dX0_changeClaim_6 : decode cX0_changeClaim 6 = .ok (.invokestatic 58, 3) := by decide +kernel
theorem dX0_changeClaim_9 : decode cX0_changeClaim 9 = .ok (.iload 4, 2) := by decide +kernel
theorem dX0_changeClaim_11 : decode cX0_changeClaim 11 = .ok (.iastore, 1) := by decide +kernel
theorem dX0_changeClaim_12 : decode cX0_changeClaim 12 = .ok (.aload_n 0, 1) := by decide +kernel
theorem dX0_changeClaim_13 : decode cX0_changeClaim 13 = .ok (.aload_n 1, 1) := by decide +kernel
theorem dX0_changeClaim_14 : decode cX0_changeClaim 14 = .ok (.invokevirtual 113, 3) := by decide +kernel
theorem dX0_changeClaim_17 : decode cX0_changeClaim 17 = .ok (.ireturn, 1) := by decide +kernel
theorem dX0_serveQueue_0 : decode cX0_serveQueue 0 = .ok (.aload_n 1, 1) := by decide +kernel
theorem dX0_serveQueue_1 : decode cX0_serveQueue 1 = .ok (.getfield 124, 3) := by decide +kernel
theorem dX0_serveQueue_4 : decode cX0_serveQueue 4 = .ok (.istore_n 2, 1) := by decide +kernel
theorem dX0_serveQueue_5 : decode cX0_serveQueue 5 = .ok (.iconst (-1), 1) := by decide +kernel
theorem dX0_serveQueue_6 : decode cX0_serveQueue 6 = .ok (.istore_n 3, 1) := by decide +kernel
theorem dX0_serveQueue_7 : decode cX0_serveQueue 7 = .ok (.iconst 0, 1) := by decide +kernel
theorem dX0_serveQueue_8 : decode cX0_serveQueue 8 = .ok (.istore 4, 2) := by decide +kernel
theorem dX0_serveQueue_10 : decode cX0_serveQueue 10 = .ok (.iload 4, 2) := by decide +kernel
theorem dX0_serveQueue_12 : decode cX0_serveQueue 12 = .ok (.bipush 8, 2) := by decide +kernel
theorem dX0_serveQueue_14 : decode cX0_serveQueue 14 = .ok (.if_icmp .gt 131, 3) := by decide +kernel
theorem dX0_serveQueue_17 : decode cX0_serveQueue 17 = .ok (.aload_n 1, 1) := by decide +kernel
theorem dX0_serveQueue_18 : decode cX0_serveQueue 18 = .ok (.getfield 124, 3) := by decide +kernel
theorem dX0_serveQueue_21 : decode cX0_serveQueue 21 = .ok (.iload_n 3, 1) := by decide +kernel
theorem dX0_serveQueue_22 : decode cX0_serveQueue 22 = .ok (.if_icmp .eq 123, 3) := by decide +kernel
theorem dX0_serveQueue_25 : decode cX0_serveQueue 25 = .ok (.aload_n 1, 1) := by decide +kernel
theorem dX0_serveQueue_26 : decode cX0_serveQueue 26 = .ok (.getfield 124, 3) := by decide +kernel
theorem dX0_serveQueue_29 : decode cX0_serveQueue 29 = .ok (.istore_n 3, 1) := by decide +kernel
theorem dX0_serveQueue_30 : decode cX0_serveQueue 30 = .ok (.iconst 0, 1) := by decide +kernel
theorem dX0_serveQueue_31 : decode cX0_serveQueue 31 = .ok (.istore 5, 2) := by decide +kernel
theorem dX0_serveQueue_33 : decode cX0_serveQueue 33 = .ok (.aload_n 1, 1) := by decide +kernel
theorem dX0_serveQueue_34 : decode cX0_serveQueue 34 = .ok (.getfield 127, 3) := by decide +kernel
theorem dX0_serveQueue_37 : decode cX0_serveQueue 37 = .ok (.istore 6, 2) := by decide +kernel
theorem dX0_serveQueue_39 : decode cX0_serveQueue 39 = .ok (.iload 6, 2) := by decide +kernel
theorem dX0_serveQueue_41 : decode cX0_serveQueue 41 = .ok (.ifCond .le 98, 3) := by decide +kernel
theorem dX0_serveQueue_44 : decode cX0_serveQueue 44 = .ok (.iload 5, 2) := by decide +kernel
theorem dX0_serveQueue_46 : decode cX0_serveQueue 46 = .ok (.aload_n 1, 1) := by decide +kernel
theorem dX0_serveQueue_47 : decode cX0_serveQueue 47 = .ok (.getfield 127, 3) := by decide +kernel
theorem dX0_serveQueue_50 : decode cX0_serveQueue 50 = .ok (.if_icmp .ge 89, 3) := by decide +kernel
theorem dX0_serveQueue_53 : decode cX0_serveQueue 53 = .ok (.aload_n 1, 1) := by decide +kernel
theorem dX0_serveQueue_54 : decode cX0_serveQueue 54 = .ok (.getfield 130, 3) := by decide +kernel
theorem dX0_serveQueue_57 : decode cX0_serveQueue 57 = .ok (.iload 5, 2) := by decide +kernel
theorem dX0_serveQueue_59 : decode cX0_serveQueue 59 = .ok (.iaload, 1) := by decide +kernel
theorem dX0_serveQueue_60 : decode cX0_serveQueue 60 = .ok (.istore 7, 2) := by decide +kernel
theorem dX0_serveQueue_62 : decode cX0_serveQueue 62 = .ok (.aload_n 1, 1) := by decide +kernel
theorem dX0_serveQueue_63 : decode cX0_serveQueue 63 = .ok (.getfield 133, 3) := by decide +kernel
theorem dX0_serveQueue_66 : decode cX0_serveQueue 66 = .ok (.iload 7, 2) := by decide +kernel
theorem dX0_serveQueue_68 : decode cX0_serveQueue 68 = .ok (.iaload, 1) := by decide +kernel
theorem dX0_serveQueue_69 : decode cX0_serveQueue 69 = .ok (.istore 8, 2) := by decide +kernel
theorem dX0_serveQueue_71 : decode cX0_serveQueue 71 = .ok (.aload_n 1, 1) := by decide +kernel
theorem dX0_serveQueue_72 : decode cX0_serveQueue 72 = .ok (.getfield 136, 3) := by decide +kernel
theorem dX0_serveQueue_75 : decode cX0_serveQueue 75 = .ok (.iload 7, 2) := by decide +kernel
theorem dX0_serveQueue_77 : decode cX0_serveQueue 77 = .ok (.iaload, 1) := by decide +kernel
theorem dX0_serveQueue_78 : decode cX0_serveQueue 78 = .ok (.istore 9, 2) := by decide +kernel
theorem dX0_serveQueue_80 : decode cX0_serveQueue 80 = .ok (.aload_n 0, 1) := by decide +kernel
theorem dX0_serveQueue_81 : decode cX0_serveQueue 81 = .ok (.aload_n 1, 1) := by decide +kernel
theorem dX0_serveQueue_82 : decode cX0_serveQueue 82 = .ok (.iload 7, 2) := by decide +kernel
theorem dX0_serveQueue_84 : decode cX0_serveQueue 84 = .ok (.iload 8, 2) := by decide +kernel
theorem dX0_serveQueue_86 : decode cX0_serveQueue 86 = .ok (.iload 9, 2) := by decide +kernel
theorem dX0_serveQueue_88 : decode cX0_serveQueue 88 = .ok (.invokevirtual 77, 3) := by decide +kernel
theorem dX0_serveQueue_91 : decode cX0_serveQueue 91 = .ok (.ifCond .eq 39, 3) := by decide +kernel
theorem dX0_serveQueue_94 : decode cX0_serveQueue 94 = .ok (.aload_n 1, 1) := by decide +kernel
theorem dX0_serveQueue_95 : decode cX0_serveQueue 95 = .ok (.iload 7, 2) := by decide +kernel
theorem dX0_serveQueue_97 : decode cX0_serveQueue 97 = .ok (.invokevirtual 117, 3) := by decide +kernel
theorem dX0_serveQueue_100 : decode cX0_serveQueue 100 = .ok (.aload_n 1, 1) := by decide +kernel
theorem dX0_serveQueue_101 : decode cX0_serveQueue 101 = .ok (.getfield 36, 3) := by decide +kernel
theorem dX0_serveQueue_104 : decode cX0_serveQueue 104 = .ok (.iload 7, 2) := by decide +kernel
theorem dX0_serveQueue_106 : decode cX0_serveQueue 106 = .ok (.iload 8, 2) := by decide +kernel
theorem dX0_serveQueue_108 : decode cX0_serveQueue 108 = .ok (.invokestatic 58, 3) := by decide +kernel
theorem dX0_serveQueue_111 : decode cX0_serveQueue 111 = .ok (.dup2, 1) := by decide +kernel
theorem dX0_serveQueue_112 : decode cX0_serveQueue 112 = .ok (.iaload, 1) := by decide +kernel
theorem dX0_serveQueue_113 : decode cX0_serveQueue 113 = .ok (.iload 9, 2) := by decide +kernel
theorem dX0_serveQueue_115 : decode cX0_serveQueue 115 = .ok (.iadd, 1) := by decide +kernel
theorem dX0_serveQueue_116 : decode cX0_serveQueue 116 = .ok (.iastore, 1) := by decide +kernel
theorem dX0_serveQueue_117 : decode cX0_serveQueue 117 = .ok (.aload_n 1, 1) := by decide +kernel
theorem dX0_serveQueue_118 : decode cX0_serveQueue 118 = .ok (.dup, 1) := by decide +kernel
theorem dX0_serveQueue_119 : decode cX0_serveQueue 119 = .ok (.getfield 124, 3) := by decide +kernel
theorem dX0_serveQueue_122 : decode cX0_serveQueue 122 = .ok (.iconst 1, 1) := by decide +kernel
theorem dX0_serveQueue_123 : decode cX0_serveQueue 123 = .ok (.iadd, 1) := by decide +kernel
theorem dX0_serveQueue_124 : decode cX0_serveQueue 124 = .ok (.putfield 124, 3) := by decide +kernel
theorem dX0_serveQueue_127 : decode cX0_serveQueue 127 = .ok (.goto 6, 3) := by decide +kernel
theorem dX0_serveQueue_130 : decode cX0_serveQueue 130 = .ok (.iinc 5 1, 3) := by decide +kernel
theorem dX0_serveQueue_133 : decode cX0_serveQueue 133 = .ok (.iinc 6 (-1), 3) := by decide +kernel
theorem dX0_serveQueue_136 : decode cX0_serveQueue 136 = .ok (.goto (-97), 3) := by decide +kernel
theorem dX0_serveQueue_139 : decode cX0_serveQueue 139 = .ok (.iinc 4 1, 3) := by decide +kernel
theorem dX0_serveQueue_142 : decode cX0_serveQueue 142 = .ok (.goto (-132), 3) := by decide +kernel
theorem dX0_serveQueue_145 : decode cX0_serveQueue 145 = .ok (.aload_n 1, 1) := by decide +kernel
theorem dX0_serveQueue_146 : decode cX0_serveQueue 146 = .ok (.getfield 124, 3) := by decide +kernel
theorem dX0_serveQueue_149 : decode cX0_serveQueue 149 = .ok (.iload_n 2, 1) := by decide +kernel
theorem dX0_serveQueue_150 : decode cX0_serveQueue 150 = .ok (.isub, 1) := by decide +kernel
theorem dX0_serveQueue_151 : decode cX0_serveQueue 151 = .ok (.ireturn, 1) := by decide +kernel
theorem dX0_stuckHerds_0 : decode cX0_stuckHerds 0 = .ok (.aload_n 0, 1) := by decide +kernel
theorem dX0_stuckHerds_1 : decode cX0_stuckHerds 1 = .ok (.aload_n 1, 1) := by decide +kernel
theorem dX0_stuckHerds_2 : decode cX0_stuckHerds 2 = .ok (.invokevirtual 42, 3) := by decide +kernel
theorem dX0_stuckHerds_5 : decode cX0_stuckHerds 5 = .ok (.iconst 1, 1) := by decide +kernel
theorem dX0_stuckHerds_6 : decode cX0_stuckHerds 6 = .ok (.aload_n 1, 1) := by decide +kernel
theorem dX0_stuckHerds_7 : decode cX0_stuckHerds 7 = .ok (.getfield 33, 3) := by decide +kernel
theorem dX0_stuckHerds_10 : decode cX0_stuckHerds 10 = .ok (.getfield 24, 3) := by decide +kernel
theorem dX0_stuckHerds_13 : decode cX0_stuckHerds 13 = .ok (.ishl, 1) := by decide +kernel
theorem dX0_stuckHerds_14 : decode cX0_stuckHerds 14 = .ok (.iconst 1, 1) := by decide +kernel
theorem dX0_stuckHerds_15 : decode cX0_stuckHerds 15 = .ok (.isub, 1) := by decide +kernel
theorem dX0_stuckHerds_16 : decode cX0_stuckHerds 16 = .ok (.istore_n 2, 1) := by decide +kernel
theorem dX0_stuckHerds_17 : decode cX0_stuckHerds 17 = .ok (.iconst 0, 1) := by decide +kernel
theorem dX0_stuckHerds_18 : decode cX0_stuckHerds 18 = .ok (.istore_n 3, 1) := by decide +kernel
theorem dX0_stuckHerds_19 : decode cX0_stuckHerds 19 = .ok (.iload_n 3, 1) := by decide +kernel
theorem dX0_stuckHerds_20 : decode cX0_stuckHerds 20 = .ok (.aload_n 1, 1) := by decide +kernel
theorem dX0_stuckHerds_21 : decode cX0_stuckHerds 21 = .ok (.getfield 33, 3) := by decide +kernel
theorem dX0_stuckHerds_24 : decode cX0_stuckHerds 24 = .ok (.getfield 24, 3) := by decide +kernel
theorem dX0_stuckHerds_27 : decode cX0_stuckHerds 27 = .ok (.if_icmp .ge 65, 3) := by decide +kernel
theorem dX0_stuckHerds_30 : decode cX0_stuckHerds 30 = .ok (.iconst 0, 1) := by decide +kernel
theorem dX0_stuckHerds_31 : decode cX0_stuckHerds 31 = .ok (.istore 4, 2) := by decide +kernel
theorem dX0_stuckHerds_33 : decode cX0_stuckHerds 33 = .ok (.iload 4, 2) := by decide +kernel
theorem dX0_stuckHerds_35 : decode cX0_stuckHerds 35 = .ok (.aload_n 1, 1) := by decide +kernel
theorem dX0_stuckHerds_36 : decode cX0_stuckHerds 36 = .ok (.getfield 33, 3) := by decide +kernel
theorem dX0_stuckHerds_39 : decode cX0_stuckHerds 39 = .ok (.getfield 24, 3) := by decide +kernel
theorem dX0_stuckHerds_42 : decode cX0_stuckHerds 42 = .ok (.if_icmp .ge 44, 3) := by decide +kernel
theorem dX0_stuckHerds_45 : decode cX0_stuckHerds 45 = .ok (.iload_n 2, 1) := by decide +kernel
theorem dX0_stuckHerds_46 : decode cX0_stuckHerds 46 = .ok (.iload 4, 2) := by decide +kernel
theorem dX0_stuckHerds_48 : decode cX0_stuckHerds 48 = .ok (.invokestatic 50, 3) := by decide +kernel
theorem dX0_stuckHerds_51 : decode cX0_stuckHerds 51 = .ok (.ifCond .eq 29, 3) := by decide +kernel
theorem dX0_stuckHerds_54 : decode cX0_stuckHerds 54 = .ok (.aload_n 0, 1) := by decide +kernel
theorem dX0_stuckHerds_55 : decode cX0_stuckHerds 55 = .ok (.aload_n 1, 1) := by decide +kernel
theorem dX0_stuckHerds_56 : decode cX0_stuckHerds 56 = .ok (.iload 4, 2) := by decide +kernel
theorem dX0_stuckHerds_58 : decode cX0_stuckHerds 58 = .ok (.invokevirtual 139, 3) := by decide +kernel
theorem dX0_stuckHerds_61 : decode cX0_stuckHerds 61 = .ok (.ifCond .eq 19, 3) := by decide +kernel
theorem dX0_stuckHerds_64 : decode cX0_stuckHerds 64 = .ok (.iload_n 2, 1) := by decide +kernel
theorem dX0_stuckHerds_65 : decode cX0_stuckHerds 65 = .ok (.iconst 1, 1) := by decide +kernel
theorem dX0_stuckHerds_66 : decode cX0_stuckHerds 66 = .ok (.iload 4, 2) := by decide +kernel
theorem dX0_stuckHerds_68 : decode cX0_stuckHerds 68 = .ok (.ishl, 1) := by decide +kernel
theorem dX0_stuckHerds_69 : decode cX0_stuckHerds 69 = .ok (.iconst (-1), 1) := by decide +kernel
theorem dX0_stuckHerds_70 : decode cX0_stuckHerds 70 = .ok (.ixor, 1) := by decide +kernel
theorem dX0_stuckHerds_71 : decode cX0_stuckHerds 71 = .ok (.iand, 1) := by decide +kernel
theorem dX0_stuckHerds_72 : decode cX0_stuckHerds 72 = .ok (.istore_n 2, 1) := by decide +kernel
theorem dX0_stuckHerds_73 : decode cX0_stuckHerds 73 = .ok (.aload_n 0, 1) := by decide +kernel
theorem dX0_stuckHerds_74 : decode cX0_stuckHerds 74 = .ok (.aload_n 1, 1) := by decide +kernel
theorem dX0_stuckHerds_75 : decode cX0_stuckHerds 75 = .ok (.iload 4, 2) := by decide +kernel
theorem dX0_stuckHerds_77 : decode cX0_stuckHerds 77 = .ok (.invokevirtual 54, 3) := by decide +kernel
theorem dX0_stuckHerds_80 : decode cX0_stuckHerds 80 = .ok (.iinc 4 1, 3) := by decide +kernel
theorem dX0_stuckHerds_83 : decode cX0_stuckHerds 83 = .ok (.goto (-50), 3) := by decide +kernel
theorem dX0_stuckHerds_86 : decode cX0_stuckHerds 86 = .ok (.iinc 3 1, 3) := by decide +kernel
theorem dX0_stuckHerds_89 : decode cX0_stuckHerds 89 = .ok (.goto (-70), 3) := by decide +kernel
theorem dX0_stuckHerds_92 : decode cX0_stuckHerds 92 = .ok (.iload_n 2, 1) := by decide +kernel
theorem dX0_stuckHerds_93 : decode cX0_stuckHerds 93 = .ok (.ireturn, 1) := by decide +kernel
theorem dX0_goesOnWithFree_0 : decode cX0_goesOnWithFree 0 = .ok (.aload_n 1, 1) := by decide +kernel
theorem dX0_goesOnWithFree_1 : decode cX0_goesOnWithFree 1 = .ok (.iload_n 2, 1) := by decide +kernel
theorem dX0_goesOnWithFree_2 : decode cX0_goesOnWithFree 2 = .ok (.invokevirtual 66, 3) := by decide +kernel
theorem dX0_goesOnWithFree_5 : decode cX0_goesOnWithFree 5 = .ok (.ifCond .eq 23, 3) := by decide +kernel
theorem dX0_goesOnWithFree_8 : decode cX0_goesOnWithFree 8 = .ok (.aload_n 1, 1) := by decide +kernel
theorem dX0_goesOnWithFree_9 : decode cX0_goesOnWithFree 9 = .ok (.getfield 136, 3) := by decide +kernel
theorem dX0_goesOnWithFree_12 : decode cX0_goesOnWithFree 12 = .ok (.iload_n 2, 1) := by decide +kernel
theorem dX0_goesOnWithFree_13 : decode cX0_goesOnWithFree 13 = .ok (.iaload, 1) := by decide +kernel
theorem dX0_goesOnWithFree_14 : decode cX0_goesOnWithFree 14 = .ok (.aload_n 0, 1) := by decide +kernel
theorem dX0_goesOnWithFree_15 : decode cX0_goesOnWithFree 15 = .ok (.getfield 15, 3) := by decide +kernel
theorem dX0_goesOnWithFree_18 : decode cX0_goesOnWithFree 18 = .ok (.aload_n 1, 1) := by decide +kernel
theorem dX0_goesOnWithFree_19 : decode cX0_goesOnWithFree 19 = .ok (.getfield 133, 3) := by decide +kernel
theorem dX0_goesOnWithFree_22 : decode cX0_goesOnWithFree 22 = .ok (.iload_n 2, 1) := by decide +kernel
theorem dX0_goesOnWithFree_23 : decode cX0_goesOnWithFree 23 = .ok (.iaload, 1) := by decide +kernel
theorem dX0_goesOnWithFree_24 : decode cX0_goesOnWithFree 24 = .ok (.iaload, 1) := by decide +kernel
theorem dX0_goesOnWithFree_25 : decode cX0_goesOnWithFree 25 = .ok (.if_icmp .gt 7, 3) := by decide +kernel
theorem dX0_goesOnWithFree_28 : decode cX0_goesOnWithFree 28 = .ok (.iconst 1, 1) := by decide +kernel
theorem dX0_goesOnWithFree_29 : decode cX0_goesOnWithFree 29 = .ok (.goto 4, 3) := by decide +kernel
theorem dX0_goesOnWithFree_32 : decode cX0_goesOnWithFree 32 = .ok (.iconst 0, 1) := by decide +kernel
theorem dX0_goesOnWithFree_33 : decode cX0_goesOnWithFree 33 = .ok (.ireturn, 1) := by decide +kernel
theorem dX1_init_0 : decode cX1_init 0 = .ok (.aload_n 0, 1) := by decide +kernel
theorem dX1_init_1 : decode cX1_init 1 = .ok (.invokespecial 3, 3) := by decide +kernel
theorem dX1_init_4 : decode cX1_init 4 = .ok (.aload_n 0, 1) := by decide +kernel
theorem dX1_init_5 : decode cX1_init 5 = .ok (.bipush 64, 2) := by decide +kernel
theorem dX1_init_7 : decode cX1_init 7 = .ok (.newarray .int, 2) := by decide +kernel
theorem dX1_init_9 : decode cX1_init 9 = .ok (.putfield 9, 3) := by decide +kernel
theorem dX1_init_12 : decode cX1_init 12 = .ok (.return_, 1) := by decide +kernel
theorem dX1_copyFrom_0 : decode cX1_copyFrom 0 = .ok (.aload_n 1, 1) := by decide +kernel
theorem dX1_copyFrom_1 : decode cX1_copyFrom 1 = .ok (.getfield 9, 3) := by decide +kernel
theorem dX1_copyFrom_4 : decode cX1_copyFrom 4 = .ok (.iconst 0, 1) := by decide +kernel
theorem dX1_copyFrom_5 : decode cX1_copyFrom 5 = .ok (.aload_n 0, 1) := by decide +kernel
theorem dX1_copyFrom_6 : decode cX1_copyFrom 6 = .ok (.getfield 9, 3) := by decide +kernel
theorem dX1_copyFrom_9 : decode cX1_copyFrom 9 = .ok (.iconst 0, 1) := by decide +kernel
theorem dX1_copyFrom_10 : decode cX1_copyFrom 10 = .ok (.aload_n 0, 1) := by decide +kernel
theorem dX1_copyFrom_11 : decode cX1_copyFrom 11 = .ok (.getfield 9, 3) := by decide +kernel
theorem dX1_copyFrom_14 : decode cX1_copyFrom 14 = .ok (.arraylength, 1) := by decide +kernel
theorem dX1_copyFrom_15 : decode cX1_copyFrom 15 = .ok (.invokestatic 15, 3) := by decide +kernel
theorem dX1_copyFrom_18 : decode cX1_copyFrom 18 = .ok (.return_, 1) := by decide +kernel
theorem dX1_clear_0 : decode cX1_clear 0 = .ok (.iconst 0, 1) := by decide +kernel
theorem dX1_clear_1 : decode cX1_clear 1 = .ok (.istore_n 1, 1) := by decide +kernel
theorem dX1_clear_2 : decode cX1_clear 2 = .ok (.iload_n 1, 1) := by decide +kernel
theorem dX1_clear_3 : decode cX1_clear 3 = .ok (.aload_n 0, 1) := by decide +kernel
theorem dX1_clear_4 : decode cX1_clear 4 = .ok (.getfield 9, 3) := by decide +kernel
theorem dX1_clear_7 : decode cX1_clear 7 = .ok (.arraylength, 1) := by decide +kernel
theorem dX1_clear_8 : decode cX1_clear 8 = .ok (.if_icmp .ge 16, 3) := by decide +kernel
theorem dX1_clear_11 : decode cX1_clear 11 = .ok (.aload_n 0, 1) := by decide +kernel
theorem dX1_clear_12 : decode cX1_clear 12 = .ok (.getfield 9, 3) := by decide +kernel
theorem dX1_clear_15 : decode cX1_clear 15 = .ok (.iload_n 1, 1) := by decide +kernel
theorem dX1_clear_16 : decode cX1_clear 16 = .ok (.iconst 0, 1) := by decide +kernel
theorem dX1_clear_17 : decode cX1_clear 17 = .ok (.iastore, 1) := by decide +kernel
theorem dX1_clear_18 : decode cX1_clear 18 = .ok (.iinc 1 1, 3) := by decide +kernel
theorem dX1_clear_21 : decode cX1_clear 21 = .ok (.goto (-19), 3) := by decide +kernel
theorem dX1_clear_24 : decode cX1_clear 24 = .ok (.return_, 1) := by decide +kernel
theorem dX1_owed_0 : decode cX1_owed 0 = .ok (.aload_n 0, 1) := by decide +kernel
theorem dX1_owed_1 : decode cX1_owed 1 = .ok (.getfield 9, 3) := by decide +kernel
theorem dX1_owed_4 : decode cX1_owed 4 = .ok (.iload_n 1, 1) := by decide +kernel
theorem dX1_owed_5 : decode cX1_owed 5 = .ok (.bipush 8, 2) := by decide +kernel
theorem dX1_owed_7 : decode cX1_owed 7 = .ok (.imul, 1) := by decide +kernel
theorem dX1_owed_8 : decode cX1_owed 8 = .ok (.iload_n 2, 1) := by decide +kernel
theorem dX1_owed_9 : decode cX1_owed 9 = .ok (.iadd, 1) := by decide +kernel
theorem dX1_owed_10 : decode cX1_owed 10 = .ok (.iaload, 1) := by decide +kernel
theorem dX1_owed_11 : decode cX1_owed 11 = .ok (.ireturn, 1) := by decide +kernel
theorem dX1_change_0 : decode cX1_change 0 = .ok (.iload_n 1, 1) := by decide +kernel
theorem dX1_change_1 : decode cX1_change 1 = .ok (.bipush 8, 2) := by decide +kernel
theorem dX1_change_3 : decode cX1_change 3 = .ok (.imul, 1) := by decide +kernel
theorem dX1_change_4 : decode cX1_change 4 = .ok (.iload_n 2, 1) := by decide +kernel
theorem dX1_change_5 : decode cX1_change 5 = .ok (.iadd, 1) := by decide +kernel
theorem dX1_change_6 : decode cX1_change 6 = .ok (.istore 4, 2) := by decide +kernel
theorem dX1_change_8 : decode cX1_change 8 = .ok (.aload_n 0, 1) := by decide +kernel
theorem dX1_change_9 : decode cX1_change 9 = .ok (.getfield 9, 3) := by decide +kernel
theorem dX1_change_12 : decode cX1_change 12 = .ok (.iload 4, 2) := by decide +kernel
theorem dX1_change_14 : decode cX1_change 14 = .ok (.dup2, 1) := by decide +kernel
theorem dX1_change_15 : decode cX1_change 15 = .ok (.iaload, 1) := by decide +kernel
theorem dX1_change_16 : decode cX1_change 16 = .ok (.iload_n 3, 1) := by decide +kernel
theorem dX1_change_17 : decode cX1_change 17 = .ok (.iadd, 1) := by decide +kernel
theorem dX1_change_18 : decode cX1_change 18 = .ok (.iastore, 1) := by decide +kernel
theorem dX1_change_19 : decode cX1_change 19 = .ok (.aload_n 0, 1) := by decide +kernel
theorem dX1_change_20 : decode cX1_change 20 = .ok (.getfield 9, 3) := by decide +kernel
theorem dX1_change_23 : decode cX1_change 23 = .ok (.iload 4, 2) := by decide +kernel
theorem dX1_change_25 : decode cX1_change 25 = .ok (.iaload, 1) := by decide +kernel
theorem dX1_change_26 : decode cX1_change 26 = .ok (.ireturn, 1) := by decide +kernel
theorem dX1_sumBetween_0 : decode cX1_sumBetween 0 = .ok (.iconst 0, 1) := by decide +kernel
theorem dX1_sumBetween_1 : decode cX1_sumBetween 1 = .ok (.istore_n 3, 1) := by decide +kernel
theorem dX1_sumBetween_2 : decode cX1_sumBetween 2 = .ok (.iconst 0, 1) := by decide +kernel
theorem dX1_sumBetween_3 : decode cX1_sumBetween 3 = .ok (.istore 4, 2) := by decide +kernel
theorem dX1_sumBetween_5 : decode cX1_sumBetween 5 = .ok (.iload 4, 2) := by decide +kernel
theorem dX1_sumBetween_7 : decode cX1_sumBetween 7 = .ok (.bipush 8, 2) := by decide +kernel
theorem dX1_sumBetween_9 : decode cX1_sumBetween 9 = .ok (.if_icmp .ge 54, 3) := by decide +kernel
theorem dX1_sumBetween_12 : decode cX1_sumBetween 12 = .ok (.iconst 0, 1) := by decide +kernel
theorem dX1_sumBetween_13 : decode cX1_sumBetween 13 = .ok (.istore 5, 2) := by decide +kernel
theorem dX1_sumBetween_15 : decode cX1_sumBetween 15 = .ok (.iload 5, 2) := by decide +kernel
theorem dX1_sumBetween_17 : decode cX1_sumBetween 17 = .ok (.bipush 8, 2) := by decide +kernel
theorem dX1_sumBetween_19 : decode cX1_sumBetween 19 = .ok (.if_icmp .ge 38, 3) := by decide +kernel
theorem dX1_sumBetween_22 : decode cX1_sumBetween 22 = .ok (.iload_n 1, 1) := by decide +kernel
theorem dX1_sumBetween_23 : decode cX1_sumBetween 23 = .ok (.iload 4, 2) := by decide +kernel
theorem dX1_sumBetween_25 : decode cX1_sumBetween 25 = .ok (.invokestatic 21, 3) := by decide +kernel
theorem dX1_sumBetween_28 : decode cX1_sumBetween 28 = .ok (.ifCond .eq 23, 3) := by decide +kernel
theorem dX1_sumBetween_31 : decode cX1_sumBetween 31 = .ok (.iload_n 2, 1) := by decide +kernel
theorem dX1_sumBetween_32 : decode cX1_sumBetween 32 = .ok (.iload 5, 2) := by decide +kernel
theorem dX1_sumBetween_34 : decode cX1_sumBetween 34 = .ok (.invokestatic 21, 3) := by decide +kernel
theorem dX1_sumBetween_37 : decode cX1_sumBetween 37 = .ok (.ifCond .eq 14, 3) := by decide +kernel
theorem dX1_sumBetween_40 : decode cX1_sumBetween 40 = .ok (.iload_n 3, 1) := by decide +kernel
theorem dX1_sumBetween_41 : decode cX1_sumBetween 41 = .ok (.aload_n 0, 1) := by decide +kernel
theorem dX1_sumBetween_42 : decode cX1_sumBetween 42 = .ok (.iload 4, 2) := by decide +kernel
theorem dX1_sumBetween_44 : decode cX1_sumBetween 44 = .ok (.iload 5, 2) := by decide +kernel
theorem dX1_sumBetween_46 : decode cX1_sumBetween 46 = .ok (.invokevirtual 25, 3) := by decide +kernel
theorem dX1_sumBetween_49 : decode cX1_sumBetween 49 = .ok (.iadd, 1) := by decide +kernel
theorem dX1_sumBetween_50 : decode cX1_sumBetween 50 = .ok (.istore_n 3, 1) := by decide +kernel
theorem dX1_sumBetween_51 : decode cX1_sumBetween 51 = .ok (.iinc 5 1, 3) := by decide +kernel
theorem dX1_sumBetween_54 : decode cX1_sumBetween 54 = .ok (.goto (-39), 3) := by decide +kernel
theorem dX1_sumBetween_57 : decode cX1_sumBetween 57 = .ok (.iinc 4 1, 3) := by decide +kernel
theorem dX1_sumBetween_60 : decode cX1_sumBetween 60 = .ok (.goto (-55), 3) := by decide +kernel
theorem dX1_sumBetween_63 : decode cX1_sumBetween 63 = .ok (.iload_n 3, 1) := by decide +kernel
theorem dX1_sumBetween_64 : decode cX1_sumBetween 64 = .ok (.ireturn, 1) := by decide +kernel
theorem dX1_pairs_0 : decode cX1_pairs 0 = .ok (.iconst 0, 1) := by decide +kernel
theorem dX1_pairs_1 : decode cX1_pairs 1 = .ok (.istore_n 1, 1) := by decide +kernel
theorem dX1_pairs_2 : decode cX1_pairs 2 = .ok (.iconst 0, 1) := by decide +kernel
theorem dX1_pairs_3 : decode cX1_pairs 3 = .ok (.istore_n 2, 1) := by decide +kernel
theorem dX1_pairs_4 : decode cX1_pairs 4 = .ok (.iload_n 2, 1) := by decide +kernel
theorem dX1_pairs_5 : decode cX1_pairs 5 = .ok (.aload_n 0, 1) := by decide +kernel
theorem dX1_pairs_6 : decode cX1_pairs 6 = .ok (.getfield 9, 3) := by decide +kernel
theorem dX1_pairs_9 : decode cX1_pairs 9 = .ok (.arraylength, 1) := by decide +kernel
theorem dX1_pairs_10 : decode cX1_pairs 10 = .ok (.if_icmp .ge 21, 3) := by decide +kernel
theorem dX1_pairs_13 : decode cX1_pairs 13 = .ok (.aload_n 0, 1) := by decide +kernel
theorem dX1_pairs_14 : decode cX1_pairs 14 = .ok (.getfield 9, 3) := by decide +kernel
theorem dX1_pairs_17 : decode cX1_pairs 17 = .ok (.iload_n 2, 1) := by decide +kernel
theorem dX1_pairs_18 : decode cX1_pairs 18 = .ok (.iaload, 1) := by decide +kernel
theorem dX1_pairs_19 : decode cX1_pairs 19 = .ok (.ifCond .le 6, 3) := by decide +kernel
theorem dX1_pairs_22 : decode cX1_pairs 22 = .ok (.iinc 1 1, 3) := by decide +kernel
theorem dX1_pairs_25 : decode cX1_pairs 25 = .ok (.iinc 2 1, 3) := by decide +kernel
theorem dX1_pairs_28 : decode cX1_pairs 28 = .ok (.goto (-24), 3) := by decide +kernel
theorem dX1_pairs_31 : decode cX1_pairs 31 = .ok (.iload_n 1, 1) := by decide +kernel
theorem dX1_pairs_32 : decode cX1_pairs 32 = .ok (.ireturn, 1) := by decide +kernel
theorem dX1_creditorsOf_0 : decode cX1_creditorsOf 0 = .ok (.iconst 0, 1) := by decide +kernel
theorem dX1_creditorsOf_1 : decode cX1_creditorsOf 1 = .ok (.istore_n 2, 1) := by decide +kernel
theorem dX1_creditorsOf_2 : decode cX1_creditorsOf 2 = .ok (.iconst 0, 1) := by decide +kernel
theorem dX1_creditorsOf_3 : decode cX1_creditorsOf 3 = .ok (.istore_n 3, 1) := by decide +kernel
theorem dX1_creditorsOf_4 : decode cX1_creditorsOf 4 = .ok (.iload_n 3, 1) := by decide +kernel
theorem dX1_creditorsOf_5 : decode cX1_creditorsOf 5 = .ok (.bipush 8, 2) := by decide +kernel
theorem dX1_creditorsOf_7 : decode cX1_creditorsOf 7 = .ok (.if_icmp .ge 50, 3) := by decide +kernel
theorem dX1_creditorsOf_10 : decode cX1_creditorsOf 10 = .ok (.iconst 0, 1) := by decide +kernel
theorem dX1_creditorsOf_11 : decode cX1_creditorsOf 11 = .ok (.istore 4, 2) := by decide +kernel
theorem dX1_creditorsOf_13 : decode cX1_creditorsOf 13 = .ok (.iload 4, 2) := by decide +kernel
theorem dX1_creditorsOf_15 : decode cX1_creditorsOf 15 = .ok (.bipush 8, 2) := by decide +kernel
theorem dX1_creditorsOf_17 : decode cX1_creditorsOf 17 = .ok (.if_icmp .ge 34, 3) := by decide +kernel
theorem dX1_creditorsOf_20 : decode cX1_creditorsOf 20 = .ok (.aload_n 0, 1) := by decide +kernel
theorem dX1_creditorsOf_21 : decode cX1_creditorsOf 21 = .ok (.iload_n 3, 1) := by decide +kernel
theorem dX1_creditorsOf_22 : decode cX1_creditorsOf 22 = .ok (.iload 4, 2) := by decide +kernel
theorem dX1_creditorsOf_24 : decode cX1_creditorsOf 24 = .ok (.invokevirtual 25, 3) := by decide +kernel
theorem dX1_creditorsOf_27 : decode cX1_creditorsOf 27 = .ok (.ifCond .le 18, 3) := by decide +kernel
theorem dX1_creditorsOf_30 : decode cX1_creditorsOf 30 = .ok (.iload_n 1, 1) := by decide +kernel
theorem dX1_creditorsOf_31 : decode cX1_creditorsOf 31 = .ok (.iload_n 3, 1) := by decide +kernel
theorem dX1_creditorsOf_32 : decode cX1_creditorsOf 32 = .ok (.invokestatic 21, 3) := by decide +kernel
theorem dX1_creditorsOf_35 : decode cX1_creditorsOf 35 = .ok (.ifCond .eq 10, 3) := by decide +kernel
theorem dX1_creditorsOf_38 : decode cX1_creditorsOf 38 = .ok (.iload_n 2, 1) := by decide +kernel
theorem dX1_creditorsOf_39 : decode cX1_creditorsOf 39 = .ok (.iconst 1, 1) := by decide +kernel
theorem dX1_creditorsOf_40 : decode cX1_creditorsOf 40 = .ok (.iload 4, 2) := by decide +kernel
theorem dX1_creditorsOf_42 : decode cX1_creditorsOf 42 = .ok (.ishl, 1) := by decide +kernel
theorem dX1_creditorsOf_43 : decode cX1_creditorsOf 43 = .ok (.ior, 1) := by decide +kernel
theorem dX1_creditorsOf_44 : decode cX1_creditorsOf 44 = .ok (.istore_n 2, 1) := by decide +kernel
theorem dX1_creditorsOf_45 : decode cX1_creditorsOf 45 = .ok (.iinc 4 1, 3) := by decide +kernel
theorem dX1_creditorsOf_48 : decode cX1_creditorsOf 48 = .ok (.goto (-35), 3) := by decide +kernel
theorem dX1_creditorsOf_51 : decode cX1_creditorsOf 51 = .ok (.iinc 3 1, 3) := by decide +kernel
theorem dX1_creditorsOf_54 : decode cX1_creditorsOf 54 = .ok (.goto (-50), 3) := by decide +kernel
theorem dX1_creditorsOf_57 : decode cX1_creditorsOf 57 = .ok (.iload_n 2, 1) := by decide +kernel
theorem dX1_creditorsOf_58 : decode cX1_creditorsOf 58 = .ok (.ireturn, 1) := by decide +kernel
theorem dX1_debtorsOf_0 : decode cX1_debtorsOf 0 = .ok (.iconst 0, 1) := by decide +kernel
theorem dX1_debtorsOf_1 : decode cX1_debtorsOf 1 = .ok (.istore_n 2, 1) := by decide +kernel
theorem dX1_debtorsOf_2 : decode cX1_debtorsOf 2 = .ok (.iconst 0, 1) := by decide +kernel
theorem dX1_debtorsOf_3 : decode cX1_debtorsOf 3 = .ok (.istore_n 3, 1) := by decide +kernel
theorem dX1_debtorsOf_4 : decode cX1_debtorsOf 4 = .ok (.iload_n 3, 1) := by decide +kernel
theorem dX1_debtorsOf_5 : decode cX1_debtorsOf 5 = .ok (.bipush 8, 2) := by decide +kernel
theorem dX1_debtorsOf_7 : decode cX1_debtorsOf 7 = .ok (.if_icmp .ge 50, 3) := by decide +kernel
theorem dX1_debtorsOf_10 : decode cX1_debtorsOf 10 = .ok (.iconst 0, 1) := by decide +kernel
theorem dX1_debtorsOf_11 : decode cX1_debtorsOf 11 = .ok (.istore 4, 2) := by decide +kernel
theorem dX1_debtorsOf_13 : decode cX1_debtorsOf 13 = .ok (.iload 4, 2) := by decide +kernel
theorem dX1_debtorsOf_15 : decode cX1_debtorsOf 15 = .ok (.bipush 8, 2) := by decide +kernel
theorem dX1_debtorsOf_17 : decode cX1_debtorsOf 17 = .ok (.if_icmp .ge 34, 3) := by decide +kernel
theorem dX1_debtorsOf_20 : decode cX1_debtorsOf 20 = .ok (.aload_n 0, 1) := by decide +kernel
theorem dX1_debtorsOf_21 : decode cX1_debtorsOf 21 = .ok (.iload_n 3, 1) := by decide +kernel
theorem dX1_debtorsOf_22 : decode cX1_debtorsOf 22 = .ok (.iload 4, 2) := by decide +kernel
theorem dX1_debtorsOf_24 : decode cX1_debtorsOf 24 = .ok (.invokevirtual 25, 3) := by decide +kernel
theorem dX1_debtorsOf_27 : decode cX1_debtorsOf 27 = .ok (.ifCond .le 18, 3) := by decide +kernel
theorem dX1_debtorsOf_30 : decode cX1_debtorsOf 30 = .ok (.iload_n 1, 1) := by decide +kernel
theorem dX1_debtorsOf_31 : decode cX1_debtorsOf 31 = .ok (.iload 4, 2) := by decide +kernel
theorem dX1_debtorsOf_33 : decode cX1_debtorsOf 33 = .ok (.invokestatic 21, 3) := by decide +kernel
theorem dX1_debtorsOf_36 : decode cX1_debtorsOf 36 = .ok (.ifCond .eq 9, 3) := by decide +kernel
theorem dX1_debtorsOf_39 : decode cX1_debtorsOf 39 = .ok (.iload_n 2, 1) := by decide +kernel
theorem dX1_debtorsOf_40 : decode cX1_debtorsOf 40 = .ok (.iconst 1, 1) := by decide +kernel
theorem dX1_debtorsOf_41 : decode cX1_debtorsOf 41 = .ok (.iload_n 3, 1) := by decide +kernel
theorem dX1_debtorsOf_42 : decode cX1_debtorsOf 42 = .ok (.ishl, 1) := by decide +kernel
theorem dX1_debtorsOf_43 : decode cX1_debtorsOf 43 = .ok (.ior, 1) := by decide +kernel
theorem dX1_debtorsOf_44 : decode cX1_debtorsOf 44 = .ok (.istore_n 2, 1) := by decide +kernel
theorem dX1_debtorsOf_45 : decode cX1_debtorsOf 45 = .ok (.iinc 4 1, 3) := by decide +kernel
theorem dX1_debtorsOf_48 : decode cX1_debtorsOf 48 = .ok (.goto (-35), 3) := by decide +kernel
theorem dX1_debtorsOf_51 : decode cX1_debtorsOf 51 = .ok (.iinc 3 1, 3) := by decide +kernel
theorem dX1_debtorsOf_54 : decode cX1_debtorsOf 54 = .ok (.goto (-50), 3) := by decide +kernel
theorem dX1_debtorsOf_57 : decode cX1_debtorsOf 57 = .ok (.iload_n 2, 1) := by decide +kernel
theorem dX1_debtorsOf_58 : decode cX1_debtorsOf 58 = .ok (.ireturn, 1) := by decide +kernel
theorem dX1_herdsReaching_0 : decode cX1_herdsReaching 0 = .ok (.aload_n 0, 1) := by decide +kernel
theorem dX1_herdsReaching_1 : decode cX1_herdsReaching 1 = .ok (.iconst 1, 1) := by decide +kernel
theorem dX1_herdsReaching_2 : decode cX1_herdsReaching 2 = .ok (.iload_n 1, 1) := by decide +kernel
theorem dX1_herdsReaching_3 : decode cX1_herdsReaching 3 = .ok (.ishl, 1) := by decide +kernel
theorem dX1_herdsReaching_4 : decode cX1_herdsReaching 4 = .ok (.invokevirtual 29, 3) := by decide +kernel
theorem dX1_herdsReaching_7 : decode cX1_herdsReaching 7 = .ok (.istore_n 2, 1) := by decide +kernel
theorem dX1_herdsReaching_8 : decode cX1_herdsReaching 8 = .ok (.iconst 2, 1) := by decide +kernel
theorem dX1_herdsReaching_9 : decode cX1_herdsReaching 9 = .ok (.istore_n 3, 1) := by decide +kernel
theorem dX1_herdsReaching_10 : decode cX1_herdsReaching 10 = .ok (.iload_n 3, 1) := by decide +kernel
theorem dX1_herdsReaching_11 : decode cX1_herdsReaching 11 = .ok (.bipush 8, 2) := by decide +kernel
theorem dX1_herdsReaching_13 : decode cX1_herdsReaching 13 = .ok (.if_icmp .gt 17, 3) := by decide +kernel
theorem dX1_herdsReaching_16 : decode cX1_herdsReaching 16 = .ok (.iload_n 2, 1) := by decide +kernel
theorem dX1_herdsReaching_17 : decode cX1_herdsReaching 17 = .ok (.aload_n 0, 1) := by decide +kernel
theorem dX1_herdsReaching_18 : decode cX1_herdsReaching 18 = .ok (.iload_n 2, 1) := by decide +kernel
theorem dX1_herdsReaching_19 : decode cX1_herdsReaching 19 = .ok (.invokevirtual 29, 3) := by decide +kernel
theorem dX1_herdsReaching_22 : decode cX1_herdsReaching 22 = .ok (.ior, 1) := by decide +kernel
theorem dX1_herdsReaching_23 : decode cX1_herdsReaching 23 = .ok (.istore_n 2, 1) := by decide +kernel
theorem dX1_herdsReaching_24 : decode cX1_herdsReaching 24 = .ok (.iinc 3 1, 3) := by decide +kernel
theorem dX1_herdsReaching_27 : decode cX1_herdsReaching 27 = .ok (.goto (-17), 3) := by decide +kernel
theorem dX1_herdsReaching_30 : decode cX1_herdsReaching 30 = .ok (.iload_n 2, 1) := by decide +kernel
theorem dX1_herdsReaching_31 : decode cX1_herdsReaching 31 = .ok (.ireturn, 1) := by decide +kernel
theorem dX1_herdsInCycles_0 : decode cX1_herdsInCycles 0 = .ok (.iconst 0, 1) := by decide +kernel
theorem dX1_herdsInCycles_1 : decode cX1_herdsInCycles 1 = .ok (.istore_n 1, 1) := by decide +kernel
theorem dX1_herdsInCycles_2 : decode cX1_herdsInCycles 2 = .ok (.iconst 0, 1) := by decide +kernel
theorem dX1_herdsInCycles_3 : decode cX1_herdsInCycles 3 = .ok (.istore_n 2, 1) := by decide +kernel
theorem dX1_herdsInCycles_4 : decode cX1_herdsInCycles 4 = .ok (.iload_n 2, 1) := by decide +kernel
theorem dX1_herdsInCycles_5 : decode cX1_herdsInCycles 5 = .ok (.bipush 8, 2) := by decide +kernel
theorem dX1_herdsInCycles_7 : decode cX1_herdsInCycles 7 = .ok (.if_icmp .ge 24, 3) := by decide +kernel
theorem dX1_herdsInCycles_10 : decode cX1_herdsInCycles 10 = .ok (.aload_n 0, 1) := by decide +kernel
theorem dX1_herdsInCycles_11 : decode cX1_herdsInCycles 11 = .ok (.iload_n 2, 1) := by decide +kernel
theorem dX1_herdsInCycles_12 : decode cX1_herdsInCycles 12 = .ok (.invokevirtual 33, 3) := by decide +kernel
theorem dX1_herdsInCycles_15 : decode cX1_herdsInCycles 15 = .ok (.iload_n 2, 1) := by decide +kernel
theorem dX1_herdsInCycles_16 : decode cX1_herdsInCycles 16 = .ok (.invokestatic 21, 3) := by decide +kernel
theorem dX1_herdsInCycles_19 : decode cX1_herdsInCycles 19 = .ok (.ifCond .eq 6, 3) := by decide +kernel
theorem dX1_herdsInCycles_22 : decode cX1_herdsInCycles 22 = .ok (.iinc 1 1, 3) := by decide +kernel
theorem dX1_herdsInCycles_25 : decode cX1_herdsInCycles 25 = .ok (.iinc 2 1, 3) := by decide +kernel
theorem dX1_herdsInCycles_28 : decode cX1_herdsInCycles 28 = .ok (.goto (-24), 3) := by decide +kernel
theorem dX1_herdsInCycles_31 : decode cX1_herdsInCycles 31 = .ok (.iload_n 1, 1) := by decide +kernel
theorem dX1_herdsInCycles_32 : decode cX1_herdsInCycles 32 = .ok (.ireturn, 1) := by decide +kernel
theorem dX1_cycleClosedBy_0 : decode cX1_cycleClosedBy 0 = .ok (.iconst 1, 1) := by decide +kernel
theorem dX1_cycleClosedBy_1 : decode cX1_cycleClosedBy 1 = .ok (.iload_n 2, 1) := by decide +kernel
theorem dX1_cycleClosedBy_2 : decode cX1_cycleClosedBy 2 = .ok (.ishl, 1) := by decide +kernel
theorem dX1_cycleClosedBy_3 : decode cX1_cycleClosedBy 3 = .ok (.istore_n 3, 1) := by decide +kernel
theorem dX1_cycleClosedBy_4 : decode cX1_cycleClosedBy 4 = .ok (.iconst 1, 1) := by decide +kernel
theorem dX1_cycleClosedBy_5 : decode cX1_cycleClosedBy 5 = .ok (.istore 4, 2) := by decide +kernel
theorem dX1_cycleClosedBy_7 : decode cX1_cycleClosedBy 7 = .ok (.iload 4, 2) := by decide +kernel
theorem dX1_cycleClosedBy_9 : decode cX1_cycleClosedBy 9 = .ok (.bipush 8, 2) := by decide +kernel
theorem dX1_cycleClosedBy_11 : decode cX1_cycleClosedBy 11 = .ok (.if_icmp .gt 26, 3) := by decide +kernel
theorem dX1_cycleClosedBy_14 : decode cX1_cycleClosedBy 14 = .ok (.iload_n 3, 1) := by decide +kernel
theorem dX1_cycleClosedBy_15 : decode cX1_cycleClosedBy 15 = .ok (.iload_n 1, 1) := by decide +kernel
theorem dX1_cycleClosedBy_16 : decode cX1_cycleClosedBy 16 = .ok (.invokestatic 21, 3) := by decide +kernel
theorem dX1_cycleClosedBy_19 : decode cX1_cycleClosedBy 19 = .ok (.ifCond .eq 6, 3) := by decide +kernel
theorem dX1_cycleClosedBy_22 : decode cX1_cycleClosedBy 22 = .ok (.iload 4, 2) := by decide +kernel
theorem dX1_cycleClosedBy_24 : decode cX1_cycleClosedBy 24 = .ok (.ireturn, 1) := by decide +kernel
theorem dX1_cycleClosedBy_25 : decode cX1_cycleClosedBy 25 = .ok (.aload_n 0, 1) := by decide +kernel
theorem dX1_cycleClosedBy_26 : decode cX1_cycleClosedBy 26 = .ok (.iload_n 3, 1) := by decide +kernel
theorem dX1_cycleClosedBy_27 : decode cX1_cycleClosedBy 27 = .ok (.invokevirtual 36, 3) := by decide +kernel
theorem dX1_cycleClosedBy_30 : decode cX1_cycleClosedBy 30 = .ok (.istore_n 3, 1) := by decide +kernel
theorem dX1_cycleClosedBy_31 : decode cX1_cycleClosedBy 31 = .ok (.iinc 4 1, 3) := by decide +kernel
theorem dX1_cycleClosedBy_34 : decode cX1_cycleClosedBy 34 = .ok (.goto (-27), 3) := by decide +kernel
theorem dX1_cycleClosedBy_37 : decode cX1_cycleClosedBy 37 = .ok (.iconst (-1), 1) := by decide +kernel
theorem dX1_cycleClosedBy_38 : decode cX1_cycleClosedBy 38 = .ok (.ireturn, 1) := by decide +kernel
theorem dX1_longestChain_0 : decode cX1_longestChain 0 = .ok (.iconst 0, 1) := by decide +kernel
theorem dX1_longestChain_1 : decode cX1_longestChain 1 = .ok (.istore_n 2, 1) := by decide +kernel
theorem dX1_longestChain_2 : decode cX1_longestChain 2 = .ok (.aload_n 0, 1) := by decide +kernel
theorem dX1_longestChain_3 : decode cX1_longestChain 3 = .ok (.iconst 1, 1) := by decide +kernel
theorem dX1_longestChain_4 : decode cX1_longestChain 4 = .ok (.iload_n 1, 1) := by decide +kernel
theorem dX1_longestChain_5 : decode cX1_longestChain 5 = .ok (.ishl, 1) := by decide +kernel
theorem dX1_longestChain_6 : decode cX1_longestChain 6 = .ok (.invokevirtual 36, 3) := by decide +kernel
theorem dX1_longestChain_9 : decode cX1_longestChain 9 = .ok (.istore_n 3, 1) := by decide +kernel
theorem dX1_longestChain_10 : decode cX1_longestChain 10 = .ok (.iload_n 2, 1) := by decide +kernel
theorem dX1_longestChain_11 : decode cX1_longestChain 11 = .ok (.bipush 8, 2) := by decide +kernel
theorem dX1_longestChain_13 : decode cX1_longestChain 13 = .ok (.if_icmp .ge 19, 3) := by decide +kernel
theorem dX1_longestChain_16 : decode cX1_longestChain 16 = .ok (.iload_n 3, 1) := by decide +kernel
theorem dX1_longestChain_17 : decode cX1_longestChain 17 = .ok (.ifCond .eq 15, 3) := by decide +kernel
theorem dX1_longestChain_20 : decode cX1_longestChain 20 = .ok (.iinc 2 1, 3) := by decide +kernel
theorem dX1_longestChain_23 : decode cX1_longestChain 23 = .ok (.aload_n 0, 1) := by decide +kernel
theorem dX1_longestChain_24 : decode cX1_longestChain 24 = .ok (.iload_n 3, 1) := by decide +kernel
theorem dX1_longestChain_25 : decode cX1_longestChain 25 = .ok (.invokevirtual 36, 3) := by decide +kernel
theorem dX1_longestChain_28 : decode cX1_longestChain 28 = .ok (.istore_n 3, 1) := by decide +kernel
theorem dX1_longestChain_29 : decode cX1_longestChain 29 = .ok (.goto (-19), 3) := by decide +kernel
theorem dX1_longestChain_32 : decode cX1_longestChain 32 = .ok (.iload_n 2, 1) := by decide +kernel
theorem dX1_longestChain_33 : decode cX1_longestChain 33 = .ok (.ireturn, 1) := by decide +kernel
theorem dX1_settledAt_0 : decode cX1_settledAt 0 = .ok (.iconst 0, 1) := by decide +kernel
theorem dX1_settledAt_1 : decode cX1_settledAt 1 = .ok (.istore_n 2, 1) := by decide +kernel
theorem dX1_settledAt_2 : decode cX1_settledAt 2 = .ok (.iconst (-1), 1) := by decide +kernel
theorem dX1_settledAt_3 : decode cX1_settledAt 3 = .ok (.istore_n 3, 1) := by decide +kernel
theorem dX1_settledAt_4 : decode cX1_settledAt 4 = .ok (.iconst 0, 1) := by decide +kernel
theorem dX1_settledAt_5 : decode cX1_settledAt 5 = .ok (.istore 4, 2) := by decide +kernel
theorem dX1_settledAt_7 : decode cX1_settledAt 7 = .ok (.iload 4, 2) := by decide +kernel
theorem dX1_settledAt_9 : decode cX1_settledAt 9 = .ok (.iload_n 1, 1) := by decide +kernel
theorem dX1_settledAt_10 : decode cX1_settledAt 10 = .ok (.if_icmp .gt 28, 3) := by decide +kernel
theorem dX1_settledAt_13 : decode cX1_settledAt 13 = .ok (.iload 4, 2) := by decide +kernel
theorem dX1_settledAt_15 : decode cX1_settledAt 15 = .ok (.bipush 8, 2) := by decide +kernel
theorem dX1_settledAt_17 : decode cX1_settledAt 17 = .ok (.if_icmp .ge 21, 3) := by decide +kernel
theorem dX1_settledAt_20 : decode cX1_settledAt 20 = .ok (.aload_n 0, 1) := by decide +kernel
theorem dX1_settledAt_21 : decode cX1_settledAt 21 = .ok (.iload_n 2, 1) := by decide +kernel
theorem dX1_settledAt_22 : decode cX1_settledAt 22 = .ok (.invokevirtual 39, 3) := by decide +kernel
theorem dX1_settledAt_25 : decode cX1_settledAt 25 = .ok (.istore_n 3, 1) := by decide +kernel
theorem dX1_settledAt_26 : decode cX1_settledAt 26 = .ok (.iload_n 2, 1) := by decide +kernel
theorem dX1_settledAt_27 : decode cX1_settledAt 27 = .ok (.iconst 1, 1) := by decide +kernel
theorem dX1_settledAt_28 : decode cX1_settledAt 28 = .ok (.iload_n 3, 1) := by decide +kernel
theorem dX1_settledAt_29 : decode cX1_settledAt 29 = .ok (.ishl, 1) := by decide +kernel
theorem dX1_settledAt_30 : decode cX1_settledAt 30 = .ok (.ior, 1) := by decide +kernel
theorem dX1_settledAt_31 : decode cX1_settledAt 31 = .ok (.istore_n 2, 1) := by decide +kernel
theorem dX1_settledAt_32 : decode cX1_settledAt 32 = .ok (.iinc 4 1, 3) := by decide +kernel
theorem dX1_settledAt_35 : decode cX1_settledAt 35 = .ok (.goto (-28), 3) := by decide +kernel
theorem dX1_settledAt_38 : decode cX1_settledAt 38 = .ok (.iload_n 3, 1) := by decide +kernel
theorem dX1_settledAt_39 : decode cX1_settledAt 39 = .ok (.ireturn, 1) := by decide +kernel
theorem dX1_nextToSettle_0 : decode cX1_nextToSettle 0 = .ok (.iconst 0, 1) := by decide +kernel
theorem dX1_nextToSettle_1 : decode cX1_nextToSettle 1 = .ok (.istore_n 2, 1) := by decide +kernel
theorem dX1_nextToSettle_2 : decode cX1_nextToSettle 2 = .ok (.iload_n 2, 1) := by decide +kernel
theorem dX1_nextToSettle_3 : decode cX1_nextToSettle 3 = .ok (.bipush 8, 2) := by decide +kernel
theorem dX1_nextToSettle_5 : decode cX1_nextToSettle 5 = .ok (.if_icmp .ge 33, 3) := by decide +kernel
theorem dX1_nextToSettle_8 : decode cX1_nextToSettle 8 = .ok (.iload_n 1, 1) := by decide +kernel
theorem dX1_nextToSettle_9 : decode cX1_nextToSettle 9 = .ok (.iload_n 2, 1) := by decide +kernel
theorem dX1_nextToSettle_10 : decode cX1_nextToSettle 10 = .ok (.invokestatic 21, 3) := by decide +kernel
theorem dX1_nextToSettle_13 : decode cX1_nextToSettle 13 = .ok (.ifCond .ne 19, 3) := by decide +kernel
theorem dX1_nextToSettle_16 : decode cX1_nextToSettle 16 = .ok (.aload_n 0, 1) := by decide +kernel
theorem dX1_nextToSettle_17 : decode cX1_nextToSettle 17 = .ok (.iconst 1, 1) := by decide +kernel
theorem dX1_nextToSettle_18 : decode cX1_nextToSettle 18 = .ok (.iload_n 2, 1) := by decide +kernel
theorem dX1_nextToSettle_19 : decode cX1_nextToSettle 19 = .ok (.ishl, 1) := by decide +kernel
theorem dX1_nextToSettle_20 : decode cX1_nextToSettle 20 = .ok (.invokevirtual 29, 3) := by decide +kernel
theorem dX1_nextToSettle_23 : decode cX1_nextToSettle 23 = .ok (.iload_n 1, 1) := by decide +kernel
theorem dX1_nextToSettle_24 : decode cX1_nextToSettle 24 = .ok (.iconst (-1), 1) := by decide +kernel
theorem dX1_nextToSettle_25 : decode cX1_nextToSettle 25 = .ok (.ixor, 1) := by decide +kernel
theorem dX1_nextToSettle_26 : decode cX1_nextToSettle 26 = .ok (.iand, 1) := by decide +kernel
theorem dX1_nextToSettle_27 : decode cX1_nextToSettle 27 = .ok (.ifCond .ne 5, 3) := by decide +kernel
theorem dX1_nextToSettle_30 : decode cX1_nextToSettle 30 = .ok (.iload_n 2, 1) := by decide +kernel
theorem dX1_nextToSettle_31 : decode cX1_nextToSettle 31 = .ok (.ireturn, 1) := by decide +kernel
theorem dX1_nextToSettle_32 : decode cX1_nextToSettle 32 = .ok (.iinc 2 1, 3) := by decide +kernel
theorem dX1_nextToSettle_35 : decode cX1_nextToSettle 35 = .ok (.goto (-33), 3) := by decide +kernel
theorem dX1_nextToSettle_38 : decode cX1_nextToSettle 38 = .ok (.iconst 0, 1) := by decide +kernel
theorem dX1_nextToSettle_39 : decode cX1_nextToSettle 39 = .ok (.ireturn, 1) := by decide +kernel
theorem dX2_ofHerd_0 : decode cX2_ofHerd 0 = .ok (.aload_n 0, 1) := by decide +kernel
theorem dX2_ofHerd_1 : decode cX2_ofHerd 1 = .ok (.getfield 9, 3) := by decide +kernel
theorem dX2_ofHerd_4 : decode cX2_ofHerd 4 = .ok (.iload_n 1, 1) := by decide +kernel
theorem dX2_ofHerd_5 : decode cX2_ofHerd 5 = .ok (.invokevirtual 15, 3) := by decide +kernel
theorem dX2_ofHerd_8 : decode cX2_ofHerd 8 = .ok (.ifCond .eq 7, 3) := by decide +kernel
theorem dX2_ofHerd_11 : decode cX2_ofHerd 11 = .ok (.iconst 0, 1) := by decide +kernel
theorem dX2_ofHerd_12 : decode cX2_ofHerd 12 = .ok (.goto 4, 3) := by decide +kernel
theorem dX2_ofHerd_15 : decode cX2_ofHerd 15 = .ok (.iconst 1, 1) := by decide +kernel
theorem dX2_ofHerd_16 : decode cX2_ofHerd 16 = .ok (.ireturn, 1) := by decide +kernel
theorem dX2_ofPasture_0 : decode cX2_ofPasture 0 = .ok (.aload_n 0, 1) := by decide +kernel
theorem dX2_ofPasture_1 : decode cX2_ofPasture 1 = .ok (.getfield 21, 3) := by decide +kernel
theorem dX2_ofPasture_4 : decode cX2_ofPasture 4 = .ok (.iload_n 1, 1) := by decide +kernel
theorem dX2_ofPasture_5 : decode cX2_ofPasture 5 = .ok (.invokevirtual 15, 3) := by decide +kernel
theorem dX2_ofPasture_8 : decode cX2_ofPasture 8 = .ok (.ifCond .eq 7, 3) := by decide +kernel
theorem dX2_ofPasture_11 : decode cX2_ofPasture 11 = .ok (.iconst 0, 1) := by decide +kernel
theorem dX2_ofPasture_12 : decode cX2_ofPasture 12 = .ok (.goto 4, 3) := by decide +kernel
theorem dX2_ofPasture_15 : decode cX2_ofPasture 15 = .ok (.iconst 1, 1) := by decide +kernel
theorem dX2_ofPasture_16 : decode cX2_ofPasture 16 = .ok (.ireturn, 1) := by decide +kernel
theorem dX2_ofHerdOrPasture_0 : decode cX2_ofHerdOrPasture 0 = .ok (.aload_n 0, 1) := by decide +kernel
theorem dX2_ofHerdOrPasture_1 : decode cX2_ofHerdOrPasture 1 = .ok (.getfield 9, 3) := by decide +kernel
theorem dX2_ofHerdOrPasture_4 : decode cX2_ofHerdOrPasture 4 = .ok (.iload_n 1, 1) := by decide +kernel
theorem dX2_ofHerdOrPasture_5 : decode cX2_ofHerdOrPasture 5 = .ok (.invokevirtual 15, 3) := by decide +kernel
theorem dX2_ofHerdOrPasture_8 : decode cX2_ofHerdOrPasture 8 = .ok (.ifCond .eq 18, 3) := by decide +kernel
theorem dX2_ofHerdOrPasture_11 : decode cX2_ofHerdOrPasture 11 = .ok (.aload_n 0, 1) := by decide +kernel
theorem dX2_ofHerdOrPasture_12 : decode cX2_ofHerdOrPasture 12 = .ok (.getfield 21, 3) := by decide +kernel
theorem dX2_ofHerdOrPasture_15 : decode cX2_ofHerdOrPasture 15 = .ok (.iload_n 2, 1) := by decide +kernel
theorem dX2_ofHerdOrPasture_16 : decode cX2_ofHerdOrPasture 16 = .ok (.invokevirtual 15, 3) := by decide +kernel
theorem dX2_ofHerdOrPasture_19 : decode cX2_ofHerdOrPasture 19 = .ok (.ifCond .eq 7, 3) := by decide +kernel
theorem dX2_ofHerdOrPasture_22 : decode cX2_ofHerdOrPasture 22 = .ok (.iconst 0, 1) := by decide +kernel
theorem dX2_ofHerdOrPasture_23 : decode cX2_ofHerdOrPasture 23 = .ok (.goto 4, 3) := by decide +kernel
theorem dX2_ofHerdOrPasture_26 : decode cX2_ofHerdOrPasture 26 = .ok (.iconst 1, 1) := by decide +kernel
theorem dX2_ofHerdOrPasture_27 : decode cX2_ofHerdOrPasture 27 = .ok (.ireturn, 1) := by decide +kernel
theorem dX2_ofTwoHerds_0 : decode cX2_ofTwoHerds 0 = .ok (.aload_n 0, 1) := by decide +kernel
theorem dX2_ofTwoHerds_1 : decode cX2_ofTwoHerds 1 = .ok (.getfield 9, 3) := by decide +kernel
theorem dX2_ofTwoHerds_4 : decode cX2_ofTwoHerds 4 = .ok (.iload_n 1, 1) := by decide +kernel
theorem dX2_ofTwoHerds_5 : decode cX2_ofTwoHerds 5 = .ok (.invokevirtual 15, 3) := by decide +kernel
theorem dX2_ofTwoHerds_8 : decode cX2_ofTwoHerds 8 = .ok (.ifCond .eq 18, 3) := by decide +kernel
theorem dX2_ofTwoHerds_11 : decode cX2_ofTwoHerds 11 = .ok (.aload_n 0, 1) := by decide +kernel
theorem dX2_ofTwoHerds_12 : decode cX2_ofTwoHerds 12 = .ok (.getfield 9, 3) := by decide +kernel
theorem dX2_ofTwoHerds_15 : decode cX2_ofTwoHerds 15 = .ok (.iload_n 2, 1) := by decide +kernel
theorem dX2_ofTwoHerds_16 : decode cX2_ofTwoHerds 16 = .ok (.invokevirtual 15, 3) := by decide +kernel
theorem dX2_ofTwoHerds_19 : decode cX2_ofTwoHerds 19 = .ok (.ifCond .eq 7, 3) := by decide +kernel
theorem dX2_ofTwoHerds_22 : decode cX2_ofTwoHerds 22 = .ok (.iconst 0, 1) := by decide +kernel
theorem dX2_ofTwoHerds_23 : decode cX2_ofTwoHerds 23 = .ok (.goto 4, 3) := by decide +kernel
theorem dX2_ofTwoHerds_26 : decode cX2_ofTwoHerds 26 = .ok (.iconst 1, 1) := by decide +kernel
theorem dX2_ofTwoHerds_27 : decode cX2_ofTwoHerds 27 = .ok (.ireturn, 1) := by decide +kernel
theorem dX2_ofLetter_0 : decode cX2_ofLetter 0 = .ok (.aload_n 0, 1) := by decide +kernel
theorem dX2_ofLetter_1 : decode cX2_ofLetter 1 = .ok (.iload_n 1, 1) := by decide +kernel
theorem dX2_ofLetter_2 : decode cX2_ofLetter 2 = .ok (.invokevirtual 15, 3) := by decide +kernel
theorem dX2_ofLetter_5 : decode cX2_ofLetter 5 = .ok (.ifCond .eq 17, 3) := by decide +kernel
theorem dX2_ofLetter_8 : decode cX2_ofLetter 8 = .ok (.iload_n 2, 1) := by decide +kernel
theorem dX2_ofLetter_9 : decode cX2_ofLetter 9 = .ok (.ifCond .lt 13, 3) := by decide +kernel
theorem dX2_ofLetter_12 : decode cX2_ofLetter 12 = .ok (.iload_n 2, 1) := by decide +kernel
theorem dX2_ofLetter_13 : decode cX2_ofLetter 13 = .ok (.aload_n 0, 1) := by decide +kernel
theorem dX2_ofLetter_14 : decode cX2_ofLetter 14 = .ok (.getfield 24, 3) := by decide +kernel
theorem dX2_ofLetter_17 : decode cX2_ofLetter 17 = .ok (.iload_n 1, 1) := by decide +kernel
theorem dX2_ofLetter_18 : decode cX2_ofLetter 18 = .ok (.iaload, 1) := by decide +kernel
theorem dX2_ofLetter_19 : decode cX2_ofLetter 19 = .ok (.if_icmp .lt 5, 3) := by decide +kernel
theorem dX2_ofLetter_22 : decode cX2_ofLetter 22 = .ok (.iconst 1, 1) := by decide +kernel
theorem dX2_ofLetter_23 : decode cX2_ofLetter 23 = .ok (.ireturn, 1) := by decide +kernel
theorem dX2_ofLetter_24 : decode cX2_ofLetter 24 = .ok (.iconst 0, 1) := by decide +kernel
theorem dX2_ofLetter_25 : decode cX2_ofLetter 25 = .ok (.ireturn, 1) := by decide +kernel
theorem dX2_ofSlot_0 : decode cX2_ofSlot 0 = .ok (.iload_n 0, 1) := by decide +kernel
theorem dX2_ofSlot_1 : decode cX2_ofSlot 1 = .ok (.ifCond .lt 12, 3) := by decide +kernel
theorem dX2_ofSlot_4 : decode cX2_ofSlot 4 = .ok (.iload_n 0, 1) := by decide +kernel
theorem dX2_ofSlot_5 : decode cX2_ofSlot 5 = .ok (.iconst 2, 1) := by decide +kernel
theorem dX2_ofSlot_6 : decode cX2_ofSlot 6 = .ok (.if_icmp .ge 7, 3) := by decide +kernel
theorem dX2_ofSlot_9 : decode cX2_ofSlot 9 = .ok (.iconst 0, 1) := by decide +kernel
theorem dX2_ofSlot_10 : decode cX2_ofSlot 10 = .ok (.goto 4, 3) := by decide +kernel
theorem dX2_ofSlot_13 : decode cX2_ofSlot 13 = .ok (.iconst 1, 1) := by decide +kernel
theorem dX2_ofSlot_14 : decode cX2_ofSlot 14 = .ok (.ireturn, 1) := by decide +kernel
theorem dX2_ofUnits_0 : decode cX2_ofUnits 0 = .ok (.aload_n 0, 1) := by decide +kernel
theorem dX2_ofUnits_1 : decode cX2_ofUnits 1 = .ok (.getfield 9, 3) := by decide +kernel
theorem dX2_ofUnits_4 : decode cX2_ofUnits 4 = .ok (.iload_n 1, 1) := by decide +kernel
theorem dX2_ofUnits_5 : decode cX2_ofUnits 5 = .ok (.invokevirtual 15, 3) := by decide +kernel
theorem dX2_ofUnits_8 : decode cX2_ofUnits 8 = .ok (.ifCond .eq 14, 3) := by decide +kernel
theorem dX2_ofUnits_11 : decode cX2_ofUnits 11 = .ok (.aload_n 0, 1) := by decide +kernel
theorem dX2_ofUnits_12 : decode cX2_ofUnits 12 = .ok (.getfield 21, 3) := by decide +kernel
theorem dX2_ofUnits_15 : decode cX2_ofUnits 15 = .ok (.iload_n 2, 1) := by decide +kernel
theorem dX2_ofUnits_16 : decode cX2_ofUnits 16 = .ok (.invokevirtual 15, 3) := by decide +kernel
theorem dX2_ofUnits_19 : decode cX2_ofUnits 19 = .ok (.ifCond .ne 5, 3) := by decide +kernel
theorem dX2_ofUnits_22 : decode cX2_ofUnits 22 = .ok (.iconst 1, 1) := by decide +kernel
theorem dX2_ofUnits_23 : decode cX2_ofUnits 23 = .ok (.ireturn, 1) := by decide +kernel
theorem dX2_ofUnits_24 : decode cX2_ofUnits 24 = .ok (.iload_n 3, 1) := by decide +kernel
theorem dX2_ofUnits_25 : decode cX2_ofUnits 25 = .ok (.iconst 1, 1) := by decide +kernel
theorem dX2_ofUnits_26 : decode cX2_ofUnits 26 = .ok (.if_icmp .lt 13, 3) := by decide +kernel
theorem dX2_ofUnits_29 : decode cX2_ofUnits 29 = .ok (.iload_n 3, 1) := by decide +kernel
theorem dX2_ofUnits_30 : decode cX2_ofUnits 30 = .ok (.bipush 50, 2) := by decide +kernel
theorem dX2_ofUnits_32 : decode cX2_ofUnits 32 = .ok (.if_icmp .gt 7, 3) := by decide +kernel
theorem dX2_ofUnits_35 : decode cX2_ofUnits 35 = .ok (.iconst 0, 1) := by decide +kernel
theorem dX2_ofUnits_36 : decode cX2_ofUnits 36 = .ok (.goto 4, 3) := by decide +kernel
theorem dX2_ofUnits_39 : decode cX2_ofUnits 39 = .ok (.iconst 2, 1) := by decide +kernel
theorem dX2_ofUnits_40 : decode cX2_ofUnits 40 = .ok (.ireturn, 1) := by decide +kernel
theorem dX2_ofRequest_0 : decode cX2_ofRequest 0 = .ok (.aload_n 0, 1) := by decide +kernel
theorem dX2_ofRequest_1 : decode cX2_ofRequest 1 = .ok (.iload_n 1, 1) := by decide +kernel
theorem dX2_ofRequest_2 : decode cX2_ofRequest 2 = .ok (.iload_n 2, 1) := by decide +kernel
theorem dX2_ofRequest_3 : decode cX2_ofRequest 3 = .ok (.iload_n 3, 1) := by decide +kernel
theorem dX2_ofRequest_4 : decode cX2_ofRequest 4 = .ok (.invokestatic 28, 3) := by decide +kernel
theorem dX2_ofRequest_7 : decode cX2_ofRequest 7 = .ok (.istore 4, 2) := by decide +kernel
theorem dX2_ofRequest_9 : decode cX2_ofRequest 9 = .ok (.iload 4, 2) := by decide +kernel
theorem dX2_ofRequest_11 : decode cX2_ofRequest 11 = .ok (.ifCond .eq 6, 3) := by decide +kernel
theorem dX2_ofRequest_14 : decode cX2_ofRequest 14 = .ok (.iload 4, 2) := by decide +kernel
theorem dX2_ofRequest_16 : decode cX2_ofRequest 16 = .ok (.ireturn, 1) := by decide +kernel
theorem dX2_ofRequest_17 : decode cX2_ofRequest 17 = .ok (.aload_n 0, 1) := by decide +kernel
theorem dX2_ofRequest_18 : decode cX2_ofRequest 18 = .ok (.iload_n 1, 1) := by decide +kernel
theorem dX2_ofRequest_19 : decode cX2_ofRequest 19 = .ok (.invokevirtual 34, 3) := by decide +kernel
theorem dX2_ofRequest_22 : decode cX2_ofRequest 22 = .ok (.ifCond .ne 13, 3) := by decide +kernel
theorem dX2_ofRequest_25 : decode cX2_ofRequest 25 = .ok (.iload_n 3, 1) := by decide +kernel
theorem dX2_ofRequest_26 : decode cX2_ofRequest 26 = .ok (.aload_n 0, 1) := by decide +kernel
theorem dX2_ofRequest_27 : decode cX2_ofRequest 27 = .ok (.iload_n 1, 1) := by decide +kernel
theorem dX2_ofRequest_28 : decode cX2_ofRequest 28 = .ok (.iload_n 2, 1) := by decide +kernel
theorem dX2_ofRequest_29 : decode cX2_ofRequest 29 = .ok (.invokevirtual 37, 3) := by decide +kernel
theorem dX2_ofRequest_32 : decode cX2_ofRequest 32 = .ok (.if_icmp .le 7, 3) := by decide +kernel
theorem dX2_ofRequest_35 : decode cX2_ofRequest 35 = .ok (.iconst 3, 1) := by decide +kernel
theorem dX2_ofRequest_36 : decode cX2_ofRequest 36 = .ok (.goto 4, 3) := by decide +kernel
theorem dX2_ofRequest_39 : decode cX2_ofRequest 39 = .ok (.iconst 0, 1) := by decide +kernel
theorem dX2_ofRequest_40 : decode cX2_ofRequest 40 = .ok (.ireturn, 1) := by decide +kernel
theorem dX2_ofRelease_0 : decode cX2_ofRelease 0 = .ok (.aload_n 0, 1) := by decide +kernel
theorem dX2_ofRelease_1 : decode cX2_ofRelease 1 = .ok (.iload_n 1, 1) := by decide +kernel
theorem dX2_ofRelease_2 : decode cX2_ofRelease 2 = .ok (.iload_n 2, 1) := by decide +kernel
theorem dX2_ofRelease_3 : decode cX2_ofRelease 3 = .ok (.iload_n 3, 1) := by decide +kernel
theorem dX2_ofRelease_4 : decode cX2_ofRelease 4 = .ok (.invokestatic 28, 3) := by decide +kernel
theorem dX2_ofRelease_7 : decode cX2_ofRelease 7 = .ok (.istore 4, 2) := by decide +kernel
theorem dX2_ofRelease_9 : decode cX2_ofRelease 9 = .ok (.iload 4, 2) := by decide +kernel
theorem dX2_ofRelease_11 : decode cX2_ofRelease 11 = .ok (.ifCond .eq 6, 3) := by decide +kernel
theorem dX2_ofRelease_14 : decode cX2_ofRelease 14 = .ok (.iload 4, 2) := by decide +kernel
theorem dX2_ofRelease_16 : decode cX2_ofRelease 16 = .ok (.ireturn, 1) := by decide +kernel
theorem dX2_ofRelease_17 : decode cX2_ofRelease 17 = .ok (.iload_n 3, 1) := by decide +kernel
theorem dX2_ofRelease_18 : decode cX2_ofRelease 18 = .ok (.aload_n 0, 1) := by decide +kernel
theorem dX2_ofRelease_19 : decode cX2_ofRelease 19 = .ok (.getfield 41, 3) := by decide +kernel
theorem dX2_ofRelease_22 : decode cX2_ofRelease 22 = .ok (.iload_n 1, 1) := by decide +kernel
theorem dX2_ofRelease_23 : decode cX2_ofRelease 23 = .ok (.iload_n 2, 1) := by decide +kernel
theorem dX2_ofRelease_24 : decode cX2_ofRelease 24 = .ok (.invokestatic 44, 3) := by decide +kernel
theorem dX2_ofRelease_27 : decode cX2_ofRelease 27 = .ok (.iaload, 1) := by decide +kernel
theorem dX2_ofRelease_28 : decode cX2_ofRelease 28 = .ok (.if_icmp .le 7, 3) := by decide +kernel
theorem dX2_ofRelease_31 : decode cX2_ofRelease 31 = .ok (.iconst 3, 1) := by decide +kernel
theorem dX2_ofRelease_32 : decode cX2_ofRelease 32 = .ok (.goto 4, 3) := by decide +kernel
theorem dX2_ofRelease_35 : decode cX2_ofRelease 35 = .ok (.iconst 0, 1) := by decide +kernel
theorem dX2_ofRelease_36 : decode cX2_ofRelease 36 = .ok (.ireturn, 1) := by decide +kernel
theorem dX2_ofCancel_0 : decode cX2_ofCancel 0 = .ok (.aload_n 0, 1) := by decide +kernel
theorem dX2_ofCancel_1 : decode cX2_ofCancel 1 = .ok (.getfield 9, 3) := by decide +kernel
theorem dX2_ofCancel_4 : decode cX2_ofCancel 4 = .ok (.iload_n 1, 1) := by decide +kernel
theorem dX2_ofCancel_5 : decode cX2_ofCancel 5 = .ok (.invokevirtual 15, 3) := by decide +kernel
theorem dX2_ofCancel_8 : decode cX2_ofCancel 8 = .ok (.ifCond .ne 5, 3) := by decide +kernel
theorem dX2_ofCancel_11 : decode cX2_ofCancel 11 = .ok (.iconst 1, 1) := by decide +kernel
theorem dX2_ofCancel_12 : decode cX2_ofCancel 12 = .ok (.ireturn, 1) := by decide +kernel
theorem dX2_ofCancel_13 : decode cX2_ofCancel 13 = .ok (.aload_n 0, 1) := by decide +kernel
theorem dX2_ofCancel_14 : decode cX2_ofCancel 14 = .ok (.iload_n 1, 1) := by decide +kernel
theorem dX2_ofCancel_15 : decode cX2_ofCancel 15 = .ok (.invokevirtual 34, 3) := by decide +kernel
theorem dX2_ofCancel_18 : decode cX2_ofCancel 18 = .ok (.ifCond .eq 7, 3) := by decide +kernel
theorem dX2_ofCancel_21 : decode cX2_ofCancel 21 = .ok (.iconst 0, 1) := by decide +kernel
theorem dX2_ofCancel_22 : decode cX2_ofCancel 22 = .ok (.goto 4, 3) := by decide +kernel
theorem dX2_ofCancel_25 : decode cX2_ofCancel 25 = .ok (.iconst 3, 1) := by decide +kernel
theorem dX2_ofCancel_26 : decode cX2_ofCancel 26 = .ok (.ireturn, 1) := by decide +kernel
theorem dX2_ofCapacity_0 : decode cX2_ofCapacity 0 = .ok (.aload_n 0, 1) := by decide +kernel
theorem dX2_ofCapacity_1 : decode cX2_ofCapacity 1 = .ok (.getfield 21, 3) := by decide +kernel
theorem dX2_ofCapacity_4 : decode cX2_ofCapacity 4 = .ok (.iload_n 1, 1) := by decide +kernel
theorem dX2_ofCapacity_5 : decode cX2_ofCapacity 5 = .ok (.invokevirtual 15, 3) := by decide +kernel
theorem dX2_ofCapacity_8 : decode cX2_ofCapacity 8 = .ok (.ifCond .ne 5, 3) := by decide +kernel
theorem dX2_ofCapacity_11 : decode cX2_ofCapacity 11 = .ok (.iconst 1, 1) := by decide +kernel
theorem dX2_ofCapacity_12 : decode cX2_ofCapacity 12 = .ok (.ireturn, 1) := by decide +kernel
theorem dX2_ofCapacity_13 : decode cX2_ofCapacity 13 = .ok (.iload_n 2, 1) := by decide +kernel
theorem dX2_ofCapacity_14 : decode cX2_ofCapacity 14 = .ok (.ifCond .lt 9, 3) := by decide +kernel
theorem dX2_ofCapacity_17 : decode cX2_ofCapacity 17 = .ok (.iload_n 2, 1) := by decide +kernel
theorem dX2_ofCapacity_18 : decode cX2_ofCapacity 18 = .ok (.bipush 50, 2) := by decide +kernel
theorem dX2_ofCapacity_20 : decode cX2_ofCapacity 20 = .ok (.if_icmp .le 5, 3) := by decide +kernel
theorem dX2_ofCapacity_23 : decode cX2_ofCapacity 23 = .ok (.iconst 2, 1) := by decide +kernel
theorem dX2_ofCapacity_24 : decode cX2_ofCapacity 24 = .ok (.ireturn, 1) := by decide +kernel
theorem dX2_ofCapacity_25 : decode cX2_ofCapacity 25 = .ok (.iload_n 2, 1) := by decide +kernel
theorem dX2_ofCapacity_26 : decode cX2_ofCapacity 26 = .ok (.aload_n 0, 1) := by decide +kernel
theorem dX2_ofCapacity_27 : decode cX2_ofCapacity 27 = .ok (.iload_n 1, 1) := by decide +kernel
theorem dX2_ofCapacity_28 : decode cX2_ofCapacity 28 = .ok (.invokevirtual 47, 3) := by decide +kernel
theorem dX2_ofCapacity_31 : decode cX2_ofCapacity 31 = .ok (.if_icmp .ge 7, 3) := by decide +kernel
theorem dX2_ofCapacity_34 : decode cX2_ofCapacity 34 = .ok (.iconst 3, 1) := by decide +kernel
theorem dX2_ofCapacity_35 : decode cX2_ofCapacity 35 = .ok (.goto 4, 3) := by decide +kernel
theorem dX2_ofCapacity_38 : decode cX2_ofCapacity 38 = .ok (.iconst 0, 1) := by decide +kernel
theorem dX2_ofCapacity_39 : decode cX2_ofCapacity 39 = .ok (.ireturn, 1) := by decide +kernel
theorem dX2_ofMaximum_0 : decode cX2_ofMaximum 0 = .ok (.aload_n 0, 1) := by decide +kernel
theorem dX2_ofMaximum_1 : decode cX2_ofMaximum 1 = .ok (.getfield 9, 3) := by decide +kernel
theorem dX2_ofMaximum_4 : decode cX2_ofMaximum 4 = .ok (.iload_n 1, 1) := by decide +kernel
theorem dX2_ofMaximum_5 : decode cX2_ofMaximum 5 = .ok (.invokevirtual 15, 3) := by decide +kernel
theorem dX2_ofMaximum_8 : decode cX2_ofMaximum 8 = .ok (.ifCond .eq 14, 3) := by decide +kernel
theorem dX2_ofMaximum_11 : decode cX2_ofMaximum 11 = .ok (.aload_n 0, 1) := by decide +kernel
theorem dX2_ofMaximum_12 : decode cX2_ofMaximum 12 = .ok (.getfield 21, 3) := by decide +kernel
theorem dX2_ofMaximum_15 : decode cX2_ofMaximum 15 = .ok (.iload_n 2, 1) := by decide +kernel
theorem dX2_ofMaximum_16 : decode cX2_ofMaximum 16 = .ok (.invokevirtual 15, 3) := by decide +kernel
theorem dX2_ofMaximum_19 : decode cX2_ofMaximum 19 = .ok (.ifCond .ne 5, 3) := by decide +kernel
theorem dX2_ofMaximum_22 : decode cX2_ofMaximum 22 = .ok (.iconst 1, 1) := by decide +kernel
theorem dX2_ofMaximum_23 : decode cX2_ofMaximum 23 = .ok (.ireturn, 1) := by decide +kernel
theorem dX2_ofMaximum_24 : decode cX2_ofMaximum 24 = .ok (.iload_n 3, 1) := by decide +kernel
theorem dX2_ofMaximum_25 : decode cX2_ofMaximum 25 = .ok (.ifCond .lt 9, 3) := by decide +kernel
theorem dX2_ofMaximum_28 : decode cX2_ofMaximum 28 = .ok (.iload_n 3, 1) := by decide +kernel
theorem dX2_ofMaximum_29 : decode cX2_ofMaximum 29 = .ok (.bipush 50, 2) := by decide +kernel
theorem dX2_ofMaximum_31 : decode cX2_ofMaximum 31 = .ok (.if_icmp .le 5, 3) := by decide +kernel
theorem dX2_ofMaximum_34 : decode cX2_ofMaximum 34 = .ok (.iconst 2, 1) := by decide +kernel
theorem dX2_ofMaximum_35 : decode cX2_ofMaximum 35 = .ok (.ireturn, 1) := by decide +kernel
theorem dX2_ofMaximum_36 : decode cX2_ofMaximum 36 = .ok (.aload_n 0, 1) := by decide +kernel
theorem dX2_ofMaximum_37 : decode cX2_ofMaximum 37 = .ok (.getfield 41, 3) := by decide +kernel
theorem dX2_ofMaximum_40 : decode cX2_ofMaximum 40 = .ok (.iload_n 1, 1) := by decide +kernel
theorem dX2_ofMaximum_41 : decode cX2_ofMaximum 41 = .ok (.iload_n 2, 1) := by decide +kernel
theorem dX2_ofMaximum_42 : decode cX2_ofMaximum 42 = .ok (.invokestatic 44, 3) := by decide +kernel
theorem dX2_ofMaximum_45 : decode cX2_ofMaximum 45 = .ok (.iaload, 1) := by decide +kernel
theorem dX2_ofMaximum_46 : decode cX2_ofMaximum 46 = .ok (.aload_n 0, 1) := by decide +kernel
theorem dX2_ofMaximum_47 : decode cX2_ofMaximum 47 = .ok (.iload_n 1, 1) := by decide +kernel
theorem dX2_ofMaximum_48 : decode cX2_ofMaximum 48 = .ok (.iload_n 2, 1) := by decide +kernel
theorem dX2_ofMaximum_49 : decode cX2_ofMaximum 49 = .ok (.invokevirtual 51, 3) := by decide +kernel
theorem dX2_ofMaximum_52 : decode cX2_ofMaximum 52 = .ok (.iadd, 1) := by decide +kernel
theorem dX2_ofMaximum_53 : decode cX2_ofMaximum 53 = .ok (.istore 4, 2) := by decide +kernel
theorem dX2_ofMaximum_55 : decode cX2_ofMaximum 55 = .ok (.iload_n 3, 1) := by decide +kernel
theorem dX2_ofMaximum_56 : decode cX2_ofMaximum 56 = .ok (.iload 4, 2) := by decide +kernel
theorem dX2_ofMaximum_58 : decode cX2_ofMaximum 58 = .ok (.if_icmp .ge 7, 3) := by decide +kernel
theorem dX2_ofMaximum_61 : decode cX2_ofMaximum 61 = .ok (.iconst 3, 1) := by decide +kernel
theorem dX2_ofMaximum_62 : decode cX2_ofMaximum 62 = .ok (.goto 4, 3) := by decide +kernel
theorem dX2_ofMaximum_65 : decode cX2_ofMaximum 65 = .ok (.iconst 0, 1) := by decide +kernel
theorem dX2_ofMaximum_66 : decode cX2_ofMaximum 66 = .ok (.ireturn, 1) := by decide +kernel
theorem dX2_ofCoins_0 : decode cX2_ofCoins 0 = .ok (.aload_n 0, 1) := by decide +kernel
theorem dX2_ofCoins_1 : decode cX2_ofCoins 1 = .ok (.getfield 9, 3) := by decide +kernel
theorem dX2_ofCoins_4 : decode cX2_ofCoins 4 = .ok (.iload_n 1, 1) := by decide +kernel
theorem dX2_ofCoins_5 : decode cX2_ofCoins 5 = .ok (.invokevirtual 15, 3) := by decide +kernel
theorem dX2_ofCoins_8 : decode cX2_ofCoins 8 = .ok (.ifCond .eq 14, 3) := by decide +kernel
theorem dX2_ofCoins_11 : decode cX2_ofCoins 11 = .ok (.aload_n 0, 1) := by decide +kernel
theorem dX2_ofCoins_12 : decode cX2_ofCoins 12 = .ok (.getfield 9, 3) := by decide +kernel
theorem dX2_ofCoins_15 : decode cX2_ofCoins 15 = .ok (.iload_n 2, 1) := by decide +kernel
theorem dX2_ofCoins_16 : decode cX2_ofCoins 16 = .ok (.invokevirtual 15, 3) := by decide +kernel
theorem dX2_ofCoins_19 : decode cX2_ofCoins 19 = .ok (.ifCond .ne 5, 3) := by decide +kernel
theorem dX2_ofCoins_22 : decode cX2_ofCoins 22 = .ok (.iconst 1, 1) := by decide +kernel
theorem dX2_ofCoins_23 : decode cX2_ofCoins 23 = .ok (.ireturn, 1) := by decide +kernel
theorem dX2_ofCoins_24 : decode cX2_ofCoins 24 = .ok (.iload_n 3, 1) := by decide +kernel
theorem dX2_ofCoins_25 : decode cX2_ofCoins 25 = .ok (.iconst 1, 1) := by decide +kernel
theorem dX2_ofCoins_26 : decode cX2_ofCoins 26 = .ok (.if_icmp .lt 14, 3) := by decide +kernel
theorem dX2_ofCoins_29 : decode cX2_ofCoins 29 = .ok (.iload_n 3, 1) := by decide +kernel
theorem dX2_ofCoins_30 : decode cX2_ofCoins 30 = .ok (.sipush 999, 3) := by decide +kernel
theorem dX2_ofCoins_33 : decode cX2_ofCoins 33 = .ok (.if_icmp .gt 7, 3) := by decide +kernel
theorem dX2_ofCoins_36 : decode cX2_ofCoins 36 = .ok (.iconst 0, 1) := by decide +kernel
theorem dX2_ofCoins_37 : decode cX2_ofCoins 37 = .ok (.goto 4, 3) := by decide +kernel
theorem dX2_ofCoins_40 : decode cX2_ofCoins 40 = .ok (.iconst 2, 1) := by decide +kernel
theorem dX2_ofCoins_41 : decode cX2_ofCoins 41 = .ok (.ireturn, 1) := by decide +kernel
theorem dX2_ofLoan_0 : decode cX2_ofLoan 0 = .ok (.aload_n 0, 1) := by decide +kernel
theorem dX2_ofLoan_1 : decode cX2_ofLoan 1 = .ok (.iload_n 1, 1) := by decide +kernel
theorem dX2_ofLoan_2 : decode cX2_ofLoan 2 = .ok (.iload_n 2, 1) := by decide +kernel
theorem dX2_ofLoan_3 : decode cX2_ofLoan 3 = .ok (.iload_n 3, 1) := by decide +kernel
theorem dX2_ofLoan_4 : decode cX2_ofLoan 4 = .ok (.invokestatic 54, 3) := by decide +kernel
theorem dX2_ofLoan_7 : decode cX2_ofLoan 7 = .ok (.istore 4, 2) := by decide +kernel
theorem dX2_ofLoan_9 : decode cX2_ofLoan 9 = .ok (.iload 4, 2) := by decide +kernel
theorem dX2_ofLoan_11 : decode cX2_ofLoan 11 = .ok (.ifCond .eq 6, 3) := by decide +kernel
theorem dX2_ofLoan_14 : decode cX2_ofLoan 14 = .ok (.iload 4, 2) := by decide +kernel
theorem dX2_ofLoan_16 : decode cX2_ofLoan 16 = .ok (.ireturn, 1) := by decide +kernel
theorem dX2_ofLoan_17 : decode cX2_ofLoan 17 = .ok (.aload_n 0, 1) := by decide +kernel
theorem dX2_ofLoan_18 : decode cX2_ofLoan 18 = .ok (.getfield 57, 3) := by decide +kernel
theorem dX2_ofLoan_21 : decode cX2_ofLoan 21 = .ok (.iload_n 2, 1) := by decide +kernel
theorem dX2_ofLoan_22 : decode cX2_ofLoan 22 = .ok (.iload_n 1, 1) := by decide +kernel
theorem dX2_ofLoan_23 : decode cX2_ofLoan 23 = .ok (.invokevirtual 61, 3) := by decide +kernel
theorem dX2_ofLoan_26 : decode cX2_ofLoan 26 = .ok (.iconst (-1), 1) := by decide +kernel
theorem dX2_ofLoan_27 : decode cX2_ofLoan 27 = .ok (.if_icmp .eq 5, 3) := by decide +kernel
theorem dX2_ofLoan_30 : decode cX2_ofLoan 30 = .ok (.iconst 3, 1) := by decide +kernel
theorem dX2_ofLoan_31 : decode cX2_ofLoan 31 = .ok (.ireturn, 1) := by decide +kernel
theorem dX2_ofLoan_32 : decode cX2_ofLoan 32 = .ok (.iload_n 3, 1) := by decide +kernel
theorem dX2_ofLoan_33 : decode cX2_ofLoan 33 = .ok (.sipush 999, 3) := by decide +kernel
theorem dX2_ofLoan_36 : decode cX2_ofLoan 36 = .ok (.aload_n 0, 1) := by decide +kernel
theorem dX2_ofLoan_37 : decode cX2_ofLoan 37 = .ok (.getfield 57, 3) := by decide +kernel
theorem dX2_ofLoan_40 : decode cX2_ofLoan 40 = .ok (.iload_n 2, 1) := by decide +kernel
theorem dX2_ofLoan_41 : decode cX2_ofLoan 41 = .ok (.iload_n 1, 1) := by decide +kernel
theorem dX2_ofLoan_42 : decode cX2_ofLoan 42 = .ok (.invokevirtual 66, 3) := by decide +kernel
theorem dX2_ofLoan_45 : decode cX2_ofLoan 45 = .ok (.isub, 1) := by decide +kernel
theorem dX2_ofLoan_46 : decode cX2_ofLoan 46 = .ok (.if_icmp .le 7, 3) := by decide +kernel
theorem dX2_ofLoan_49 : decode cX2_ofLoan 49 = .ok (.iconst 3, 1) := by decide +kernel
theorem dX2_ofLoan_50 : decode cX2_ofLoan 50 = .ok (.goto 4, 3) := by decide +kernel
theorem dX2_ofLoan_53 : decode cX2_ofLoan 53 = .ok (.iconst 0, 1) := by decide +kernel
theorem dX2_ofLoan_54 : decode cX2_ofLoan 54 = .ok (.ireturn, 1) := by decide +kernel
theorem dX2_ofRepayment_0 : decode cX2_ofRepayment 0 = .ok (.aload_n 0, 1) := by decide +kernel
theorem dX2_ofRepayment_1 : decode cX2_ofRepayment 1 = .ok (.iload_n 1, 1) := by decide +kernel
theorem dX2_ofRepayment_2 : decode cX2_ofRepayment 2 = .ok (.iload_n 2, 1) := by decide +kernel
theorem dX2_ofRepayment_3 : decode cX2_ofRepayment 3 = .ok (.iload_n 3, 1) := by decide +kernel
theorem dX2_ofRepayment_4 : decode cX2_ofRepayment 4 = .ok (.invokestatic 54, 3) := by decide +kernel
theorem dX2_ofRepayment_7 : decode cX2_ofRepayment 7 = .ok (.istore 4, 2) := by decide +kernel
theorem dX2_ofRepayment_9 : decode cX2_ofRepayment 9 = .ok (.iload 4, 2) := by decide +kernel
theorem dX2_ofRepayment_11 : decode cX2_ofRepayment 11 = .ok (.ifCond .eq 6, 3) := by decide +kernel
theorem dX2_ofRepayment_14 : decode cX2_ofRepayment 14 = .ok (.iload 4, 2) := by decide +kernel
theorem dX2_ofRepayment_16 : decode cX2_ofRepayment 16 = .ok (.ireturn, 1) := by decide +kernel
theorem dX2_ofRepayment_17 : decode cX2_ofRepayment 17 = .ok (.iload_n 3, 1) := by decide +kernel
theorem dX2_ofRepayment_18 : decode cX2_ofRepayment 18 = .ok (.aload_n 0, 1) := by decide +kernel
theorem dX2_ofRepayment_19 : decode cX2_ofRepayment 19 = .ok (.getfield 57, 3) := by decide +kernel
theorem dX2_ofRepayment_22 : decode cX2_ofRepayment 22 = .ok (.iload_n 1, 1) := by decide +kernel
theorem dX2_ofRepayment_23 : decode cX2_ofRepayment 23 = .ok (.iload_n 2, 1) := by decide +kernel
theorem dX2_ofRepayment_24 : decode cX2_ofRepayment 24 = .ok (.invokevirtual 66, 3) := by decide +kernel
theorem dX2_ofRepayment_27 : decode cX2_ofRepayment 27 = .ok (.if_icmp .le 7, 3) := by decide +kernel
theorem dX2_ofRepayment_30 : decode cX2_ofRepayment 30 = .ok (.iconst 3, 1) := by decide +kernel
theorem dX2_ofRepayment_31 : decode cX2_ofRepayment 31 = .ok (.goto 4, 3) := by decide +kernel
theorem dX2_ofRepayment_34 : decode cX2_ofRepayment 34 = .ok (.iconst 0, 1) := by decide +kernel
theorem dX2_ofRepayment_35 : decode cX2_ofRepayment 35 = .ok (.ireturn, 1) := by decide +kernel
theorem dX2_ofCommand_0 : decode cX2_ofCommand 0 = .ok (.iload_n 1, 1) := by decide +kernel
theorem dX2_ofCommand_1 : decode cX2_ofCommand 1 = .ok (.tableswitch 87 0 5 #[39, 48, 57, 63, 69, 78], 39) := by decide +kernel
theorem dX2_ofCommand_40 : decode cX2_ofCommand 40 = .ok (.aload_n 0, 1) := by decide +kernel
theorem dX2_ofCommand_41 : decode cX2_ofCommand 41 = .ok (.iload_n 2, 1) := by decide +kernel
theorem dX2_ofCommand_42 : decode cX2_ofCommand 42 = .ok (.iload_n 3, 1) := by decide +kernel
theorem dX2_ofCommand_43 : decode cX2_ofCommand 43 = .ok (.iload 4, 2) := by decide +kernel
theorem dX2_ofCommand_45 : decode cX2_ofCommand 45 = .ok (.invokestatic 69, 3) := by decide +kernel
theorem dX2_ofCommand_48 : decode cX2_ofCommand 48 = .ok (.ireturn, 1) := by decide +kernel
theorem dX2_ofCommand_49 : decode cX2_ofCommand 49 = .ok (.aload_n 0, 1) := by decide +kernel
theorem dX2_ofCommand_50 : decode cX2_ofCommand 50 = .ok (.iload_n 2, 1) := by decide +kernel
theorem dX2_ofCommand_51 : decode cX2_ofCommand 51 = .ok (.iload_n 3, 1) := by decide +kernel
theorem dX2_ofCommand_52 : decode cX2_ofCommand 52 = .ok (.iload 4, 2) := by decide +kernel
theorem dX2_ofCommand_54 : decode cX2_ofCommand 54 = .ok (.invokestatic 72, 3) := by decide +kernel
theorem dX2_ofCommand_57 : decode cX2_ofCommand 57 = .ok (.ireturn, 1) := by decide +kernel
theorem dX2_ofCommand_58 : decode cX2_ofCommand 58 = .ok (.aload_n 0, 1) := by decide +kernel
theorem dX2_ofCommand_59 : decode cX2_ofCommand 59 = .ok (.iload_n 2, 1) := by decide +kernel
theorem dX2_ofCommand_60 : decode cX2_ofCommand 60 = .ok (.invokestatic 75, 3) := by decide +kernel
theorem dX2_ofCommand_63 : decode cX2_ofCommand 63 = .ok (.ireturn, 1) := by decide +kernel
theorem dX2_ofCommand_64 : decode cX2_ofCommand 64 = .ok (.aload_n 0, 1) := by decide +kernel
theorem dX2_ofCommand_65 : decode cX2_ofCommand 65 = .ok (.iload_n 2, 1) := by decide +kernel
theorem dX2_ofCommand_66 : decode cX2_ofCommand 66 = .ok (.invokestatic 79, 3) := by decide +kernel
theorem dX2_ofCommand_69 : decode cX2_ofCommand 69 = .ok (.ireturn, 1) := by decide +kernel
theorem dX2_ofCommand_70 : decode cX2_ofCommand 70 = .ok (.aload_n 0, 1) := by decide +kernel
theorem dX2_ofCommand_71 : decode cX2_ofCommand 71 = .ok (.iload_n 2, 1) := by decide +kernel
theorem dX2_ofCommand_72 : decode cX2_ofCommand 72 = .ok (.iload_n 3, 1) := by decide +kernel
theorem dX2_ofCommand_73 : decode cX2_ofCommand 73 = .ok (.iload 4, 2) := by decide +kernel
theorem dX2_ofCommand_75 : decode cX2_ofCommand 75 = .ok (.invokestatic 82, 3) := by decide +kernel
theorem dX2_ofCommand_78 : decode cX2_ofCommand 78 = .ok (.ireturn, 1) := by decide +kernel
theorem dX2_ofCommand_79 : decode cX2_ofCommand 79 = .ok (.aload_n 0, 1) := by decide +kernel
theorem dX2_ofCommand_80 : decode cX2_ofCommand 80 = .ok (.iload_n 2, 1) := by decide +kernel
theorem dX2_ofCommand_81 : decode cX2_ofCommand 81 = .ok (.iload_n 3, 1) := by decide +kernel
theorem dX2_ofCommand_82 : decode cX2_ofCommand 82 = .ok (.iload 4, 2) := by decide +kernel
theorem dX2_ofCommand_84 : decode cX2_ofCommand 84 = .ok (.invokestatic 85, 3) := by decide +kernel
theorem dX2_ofCommand_87 : decode cX2_ofCommand 87 = .ok (.ireturn, 1) := by decide +kernel
theorem dX2_ofCommand_88 : decode cX2_ofCommand 88 = .ok (.aload_n 0, 1) := by decide +kernel
theorem dX2_ofCommand_89 : decode cX2_ofCommand 89 = .ok (.iload_n 2, 1) := by decide +kernel
theorem dX2_ofCommand_90 : decode cX2_ofCommand 90 = .ok (.iload_n 3, 1) := by decide +kernel
theorem dX2_ofCommand_91 : decode cX2_ofCommand 91 = .ok (.invokestatic 88, 3) := by decide +kernel
theorem dX2_ofCommand_94 : decode cX2_ofCommand 94 = .ok (.ireturn, 1) := by decide +kernel
theorem dX3_init_0 : decode cX3_init 0 = .ok (.aload_n 0, 1) := by decide +kernel
theorem dX3_init_1 : decode cX3_init 1 = .ok (.invokespecial 3, 3) := by decide +kernel
theorem dX3_init_4 : decode cX3_init 4 = .ok (.aload_n 0, 1) := by decide +kernel
theorem dX3_init_5 : decode cX3_init 5 = .ok (.bipush 6, 2) := by decide +kernel
theorem dX3_init_7 : decode cX3_init 7 = .ok (.anewarray 9, 3) := by decide +kernel
theorem dX3_init_10 : decode cX3_init 10 = .ok (.putfield 11, 3) := by decide +kernel
theorem dX3_init_13 : decode cX3_init 13 = .ok (.iconst 0, 1) := by decide +kernel
theorem dX3_init_14 : decode cX3_init 14 = .ok (.istore_n 1, 1) := by decide +kernel
theorem dX3_init_15 : decode cX3_init 15 = .ok (.iload_n 1, 1) := by decide +kernel
theorem dX3_init_16 : decode cX3_init 16 = .ok (.bipush 6, 2) := by decide +kernel
theorem dX3_init_18 : decode cX3_init 18 = .ok (.if_icmp .ge 22, 3) := by decide +kernel
theorem dX3_init_21 : decode cX3_init 21 = .ok (.aload_n 0, 1) := by decide +kernel
theorem dX3_init_22 : decode cX3_init 22 = .ok (.getfield 11, 3) := by decide +kernel
theorem dX3_init_25 : decode cX3_init 25 = .ok (.iload_n 1, 1) := by decide +kernel
theorem dX3_init_26 : decode cX3_init 26 = .ok (.new 9, 3) := by decide +kernel
theorem dX3_init_29 : decode cX3_init 29 = .ok (.dup, 1) := by decide +kernel
theorem dX3_init_30 : decode cX3_init 30 = .ok (.invokespecial 17, 3) := by decide +kernel
theorem dX3_init_33 : decode cX3_init 33 = .ok (.aastore, 1) := by decide +kernel
theorem dX3_init_34 : decode cX3_init 34 = .ok (.iinc 1 1, 3) := by decide +kernel
theorem dX3_init_37 : decode cX3_init 37 = .ok (.goto (-22), 3) := by decide +kernel
theorem dX3_init_40 : decode cX3_init 40 = .ok (.return_, 1) := by decide +kernel
theorem dX3_remember_0 : decode cX3_remember 0 = .ok (.aload_n 0, 1) := by decide +kernel
theorem dX3_remember_1 : decode cX3_remember 1 = .ok (.getfield 11, 3) := by decide +kernel
theorem dX3_remember_4 : decode cX3_remember 4 = .ok (.aload_n 0, 1) := by decide +kernel
theorem dX3_remember_5 : decode cX3_remember 5 = .ok (.getfield 18, 3) := by decide +kernel
theorem dX3_remember_8 : decode cX3_remember 8 = .ok (.aaload, 1) := by decide +kernel
theorem dX3_remember_9 : decode cX3_remember 9 = .ok (.aload_n 1, 1) := by decide +kernel
theorem dX3_remember_10 : decode cX3_remember 10 = .ok (.invokevirtual 22, 3) := by decide +kernel
theorem dX3_remember_13 : decode cX3_remember 13 = .ok (.aload_n 0, 1) := by decide +kernel
theorem dX3_remember_14 : decode cX3_remember 14 = .ok (.aload_n 0, 1) := by decide +kernel
theorem dX3_remember_15 : decode cX3_remember 15 = .ok (.getfield 18, 3) := by decide +kernel
theorem dX3_remember_18 : decode cX3_remember 18 = .ok (.iconst 1, 1) := by decide +kernel
theorem dX3_remember_19 : decode cX3_remember 19 = .ok (.iadd, 1) := by decide +kernel
theorem dX3_remember_20 : decode cX3_remember 20 = .ok (.bipush 6, 2) := by decide +kernel
theorem dX3_remember_22 : decode cX3_remember 22 = .ok (.if_icmp .ge 12, 3) := by decide +kernel
theorem dX3_remember_25 : decode cX3_remember 25 = .ok (.aload_n 0, 1) := by decide +kernel
theorem dX3_remember_26 : decode cX3_remember 26 = .ok (.getfield 18, 3) := by decide +kernel
theorem dX3_remember_29 : decode cX3_remember 29 = .ok (.iconst 1, 1) := by decide +kernel
theorem dX3_remember_30 : decode cX3_remember 30 = .ok (.iadd, 1) := by decide +kernel
theorem dX3_remember_31 : decode cX3_remember 31 = .ok (.goto 4, 3) := by decide +kernel
theorem dX3_remember_34 : decode cX3_remember 34 = .ok (.iconst 0, 1) := by decide +kernel
theorem dX3_remember_35 : decode cX3_remember 35 = .ok (.putfield 18, 3) := by decide +kernel
theorem dX3_remember_38 : decode cX3_remember 38 = .ok (.aload_n 0, 1) := by decide +kernel
theorem dX3_remember_39 : decode cX3_remember 39 = .ok (.aload_n 0, 1) := by decide +kernel
theorem dX3_remember_40 : decode cX3_remember 40 = .ok (.getfield 26, 3) := by decide +kernel
theorem dX3_remember_43 : decode cX3_remember 43 = .ok (.iconst 1, 1) := by decide +kernel
theorem dX3_remember_44 : decode cX3_remember 44 = .ok (.iadd, 1) := by decide +kernel
theorem dX3_remember_45 : decode cX3_remember 45 = .ok (.bipush 6, 2) := by decide +kernel
theorem dX3_remember_47 : decode cX3_remember 47 = .ok (.invokestatic 29, 3) := by decide +kernel
theorem dX3_remember_50 : decode cX3_remember 50 = .ok (.putfield 26, 3) := by decide +kernel
theorem dX3_remember_53 : decode cX3_remember 53 = .ok (.return_, 1) := by decide +kernel
theorem dX3_takeBack_0 : decode cX3_takeBack 0 = .ok (.aload_n 0, 1) := by decide +kernel
theorem dX3_takeBack_1 : decode cX3_takeBack 1 = .ok (.aload_n 0, 1) := by decide +kernel
theorem dX3_takeBack_2 : decode cX3_takeBack 2 = .ok (.getfield 18, 3) := by decide +kernel
theorem dX3_takeBack_5 : decode cX3_takeBack 5 = .ok (.ifCond .le 12, 3) := by decide +kernel
theorem dX3_takeBack_8 : decode cX3_takeBack 8 = .ok (.aload_n 0, 1) := by decide +kernel
theorem dX3_takeBack_9 : decode cX3_takeBack 9 = .ok (.getfield 18, 3) := by decide +kernel
theorem dX3_takeBack_12 : decode cX3_takeBack 12 = .ok (.iconst 1, 1) := by decide +kernel
theorem dX3_takeBack_13 : decode cX3_takeBack 13 = .ok (.isub, 1) := by decide +kernel
theorem dX3_takeBack_14 : decode cX3_takeBack 14 = .ok (.goto 4, 3) := by decide +kernel
theorem dX3_takeBack_17 : decode cX3_takeBack 17 = .ok (.iconst 5, 1) := by decide +kernel
theorem dX3_takeBack_18 : decode cX3_takeBack 18 = .ok (.putfield 18, 3) := by decide +kernel
theorem dX3_takeBack_21 : decode cX3_takeBack 21 = .ok (.aload_n 1, 1) := by decide +kernel
theorem dX3_takeBack_22 : decode cX3_takeBack 22 = .ok (.aload_n 0, 1) := by decide +kernel
theorem dX3_takeBack_23 : decode cX3_takeBack 23 = .ok (.getfield 11, 3) := by decide +kernel
theorem dX3_takeBack_26 : decode cX3_takeBack 26 = .ok (.aload_n 0, 1) := by decide +kernel
theorem dX3_takeBack_27 : decode cX3_takeBack 27 = .ok (.getfield 18, 3) := by decide +kernel
theorem dX3_takeBack_30 : decode cX3_takeBack 30 = .ok (.aaload, 1) := by decide +kernel
theorem dX3_takeBack_31 : decode cX3_takeBack 31 = .ok (.invokevirtual 22, 3) := by decide +kernel
theorem dX3_takeBack_34 : decode cX3_takeBack 34 = .ok (.aload_n 0, 1) := by decide +kernel
theorem dX3_takeBack_35 : decode cX3_takeBack 35 = .ok (.dup, 1) := by decide +kernel
theorem dX3_takeBack_36 : decode cX3_takeBack 36 = .ok (.getfield 26, 3) := by decide +kernel
theorem dX3_takeBack_39 : decode cX3_takeBack 39 = .ok (.iconst 1, 1) := by decide +kernel
theorem dX3_takeBack_40 : decode cX3_takeBack 40 = .ok (.isub, 1) := by decide +kernel
theorem dX3_takeBack_41 : decode cX3_takeBack 41 = .ok (.putfield 26, 3) := by decide +kernel
theorem dX3_takeBack_44 : decode cX3_takeBack 44 = .ok (.return_, 1) := by decide +kernel
theorem dX4_init_0 : decode cX4_init 0 = .ok (.aload_n 0, 1) := by decide +kernel
theorem dX4_init_1 : decode cX4_init 1 = .ok (.invokespecial 3, 3) := by decide +kernel
theorem dX4_init_4 : decode cX4_init 4 = .ok (.aload_n 0, 1) := by decide +kernel
theorem dX4_init_5 : decode cX4_init 5 = .ok (.sipush 600, 3) := by decide +kernel
theorem dX4_init_8 : decode cX4_init 8 = .ok (.newarray .byte, 2) := by decide +kernel
theorem dX4_init_10 : decode cX4_init 10 = .ok (.putfield 9, 3) := by decide +kernel
theorem dX4_init_13 : decode cX4_init 13 = .ok (.return_, 1) := by decide +kernel
theorem dX4_putText_0 : decode cX4_putText 0 = .ok (.iconst 0, 1) := by decide +kernel
theorem dX4_putText_1 : decode cX4_putText 1 = .ok (.istore_n 2, 1) := by decide +kernel
theorem dX4_putText_2 : decode cX4_putText 2 = .ok (.iload_n 2, 1) := by decide +kernel
theorem dX4_putText_3 : decode cX4_putText 3 = .ok (.aload_n 1, 1) := by decide +kernel
theorem dX4_putText_4 : decode cX4_putText 4 = .ok (.invokevirtual 15, 3) := by decide +kernel
theorem dX4_putText_7 : decode cX4_putText 7 = .ok (.if_icmp .ge 18, 3) := by decide +kernel
theorem dX4_putText_10 : decode cX4_putText 10 = .ok (.aload_n 0, 1) := by decide +kernel
theorem dX4_putText_11 : decode cX4_putText 11 = .ok (.aload_n 1, 1) := by decide +kernel
theorem dX4_putText_12 : decode cX4_putText 12 = .ok (.iload_n 2, 1) := by decide +kernel
theorem dX4_putText_13 : decode cX4_putText 13 = .ok (.invokevirtual 21, 3) := by decide +kernel
theorem dX4_putText_16 : decode cX4_putText 16 = .ok (.invokevirtual 25, 3) := by decide +kernel
theorem dX4_putText_19 : decode cX4_putText 19 = .ok (.iinc 2 1, 3) := by decide +kernel
theorem dX4_putText_22 : decode cX4_putText 22 = .ok (.goto (-20), 3) := by decide +kernel
theorem dX4_putText_25 : decode cX4_putText 25 = .ok (.return_, 1) := by decide +kernel
theorem dX4_putFourBytes_0 : decode cX4_putFourBytes 0 = .ok (.aload_n 0, 1) := by decide +kernel
theorem dX4_putFourBytes_1 : decode cX4_putFourBytes 1 = .ok (.iload_n 1, 1) := by decide +kernel
theorem dX4_putFourBytes_2 : decode cX4_putFourBytes 2 = .ok (.bipush 24, 2) := by decide +kernel
theorem dX4_putFourBytes_4 : decode cX4_putFourBytes 4 = .ok (.ishr, 1) := by decide +kernel
theorem dX4_putFourBytes_5 : decode cX4_putFourBytes 5 = .ok (.invokevirtual 25, 3) := by decide +kernel
theorem dX4_putFourBytes_8 : decode cX4_putFourBytes 8 = .ok (.aload_n 0, 1) := by decide +kernel
theorem dX4_putFourBytes_9 : decode cX4_putFourBytes 9 = .ok (.iload_n 1, 1) := by decide +kernel
theorem dX4_putFourBytes_10 : decode cX4_putFourBytes 10 = .ok (.bipush 16, 2) := by decide +kernel
theorem dX4_putFourBytes_12 : decode cX4_putFourBytes 12 = .ok (.ishr, 1) := by decide +kernel
theorem dX4_putFourBytes_13 : decode cX4_putFourBytes 13 = .ok (.invokevirtual 25, 3) := by decide +kernel
theorem dX4_putFourBytes_16 : decode cX4_putFourBytes 16 = .ok (.aload_n 0, 1) := by decide +kernel
theorem dX4_putFourBytes_17 : decode cX4_putFourBytes 17 = .ok (.iload_n 1, 1) := by decide +kernel
theorem dX4_putFourBytes_18 : decode cX4_putFourBytes 18 = .ok (.bipush 8, 2) := by decide +kernel
theorem dX4_putFourBytes_20 : decode cX4_putFourBytes 20 = .ok (.ishr, 1) := by decide +kernel
theorem dX4_putFourBytes_21 : decode cX4_putFourBytes 21 = .ok (.invokevirtual 25, 3) := by decide +kernel
theorem dX4_putFourBytes_24 : decode cX4_putFourBytes 24 = .ok (.aload_n 0, 1) := by decide +kernel
theorem dX4_putFourBytes_25 : decode cX4_putFourBytes 25 = .ok (.iload_n 1, 1) := by decide +kernel
theorem dX4_putFourBytes_26 : decode cX4_putFourBytes 26 = .ok (.invokevirtual 25, 3) := by decide +kernel
theorem dX4_putFourBytes_29 : decode cX4_putFourBytes 29 = .ok (.return_, 1) := by decide +kernel
theorem dX4_put_0 : decode cX4_put 0 = .ok (.aload_n 0, 1) := by decide +kernel
theorem dX4_put_1 : decode cX4_put 1 = .ok (.getfield 29, 3) := by decide +kernel
theorem dX4_put_4 : decode cX4_put 4 = .ok (.sipush 600, 3) := by decide +kernel
theorem dX4_put_7 : decode cX4_put 7 = .ok (.if_icmp .ge 24, 3) := by decide +kernel
theorem dX4_put_10 : decode cX4_put 10 = .ok (.aload_n 0, 1) := by decide +kernel
theorem dX4_put_11 : decode cX4_put 11 = .ok (.getfield 9, 3) := by decide +kernel
theorem dX4_put_14 : decode cX4_put 14 = .ok (.aload_n 0, 1) := by decide +kernel
theorem dX4_put_15 : decode cX4_put 15 = .ok (.getfield 29, 3) := by decide +kernel
theorem dX4_put_18 : decode cX4_put 18 = .ok (.iload_n 1, 1) := by decide +kernel
theorem dX4_put_19 : decode cX4_put 19 = .ok (.i2b, 1) := by decide +kernel
theorem dX4_put_20 : decode cX4_put 20 = .ok (.bastore, 1) := by decide +kernel
theorem dX4_put_21 : decode cX4_put 21 = .ok (.aload_n 0, 1) := by decide +kernel
theorem dX4_put_22 : decode cX4_put 22 = .ok (.dup, 1) := by decide +kernel
theorem dX4_put_23 : decode cX4_put 23 = .ok (.getfield 29, 3) := by decide +kernel
theorem dX4_put_26 : decode cX4_put 26 = .ok (.iconst 1, 1) := by decide +kernel
theorem dX4_put_27 : decode cX4_put 27 = .ok (.iadd, 1) := by decide +kernel
theorem dX4_put_28 : decode cX4_put 28 = .ok (.putfield 29, 3) := by decide +kernel
theorem dX4_put_31 : decode cX4_put 31 = .ok (.return_, 1) := by decide +kernel
theorem dX4_readFirst_0 : decode cX4_readFirst 0 = .ok (.aload_n 0, 1) := by decide +kernel
theorem dX4_readFirst_1 : decode cX4_readFirst 1 = .ok (.iconst 0, 1) := by decide +kernel
theorem dX4_readFirst_2 : decode cX4_readFirst 2 = .ok (.putfield 32, 3) := by decide +kernel
theorem dX4_readFirst_5 : decode cX4_readFirst 5 = .ok (.aload_n 0, 1) := by decide +kernel
theorem dX4_readFirst_6 : decode cX4_readFirst 6 = .ok (.invokevirtual 35, 3) := by decide +kernel
theorem dX4_readFirst_9 : decode cX4_readFirst 9 = .ok (.return_, 1) := by decide +kernel
theorem dX4_readNext_0 : decode cX4_readNext 0 = .ok (.aload_n 0, 1) := by decide +kernel
theorem dX4_readNext_1 : decode cX4_readNext 1 = .ok (.aload_n 0, 1) := by decide +kernel
theorem dX4_readNext_2 : decode cX4_readNext 2 = .ok (.getfield 32, 3) := by decide +kernel
theorem dX4_readNext_5 : decode cX4_readNext 5 = .ok (.putfield 38, 3) := by decide +kernel
theorem dX4_readNext_8 : decode cX4_readNext 8 = .ok (.aload_n 0, 1) := by decide +kernel
theorem dX4_readNext_9 : decode cX4_readNext 9 = .ok (.getfield 38, 3) := by decide +kernel
theorem dX4_readNext_12 : decode cX4_readNext 12 = .ok (.aload_n 0, 1) := by decide +kernel
theorem dX4_readNext_13 : decode cX4_readNext 13 = .ok (.getfield 29, 3) := by decide +kernel
theorem dX4_readNext_16 : decode cX4_readNext 16 = .ok (.if_icmp .ge 31, 3) := by decide +kernel
theorem dX4_readNext_19 : decode cX4_readNext 19 = .ok (.aload_n 0, 1) := by decide +kernel
theorem dX4_readNext_20 : decode cX4_readNext 20 = .ok (.getfield 9, 3) := by decide +kernel
theorem dX4_readNext_23 : decode cX4_readNext 23 = .ok (.aload_n 0, 1) := by decide +kernel
theorem dX4_readNext_24 : decode cX4_readNext 24 = .ok (.getfield 38, 3) := by decide +kernel
theorem dX4_readNext_27 : decode cX4_readNext 27 = .ok (.baload, 1) := by decide +kernel
theorem dX4_readNext_28 : decode cX4_readNext 28 = .ok (.invokestatic 41, 3) := by decide +kernel
theorem dX4_readNext_31 : decode cX4_readNext 31 = .ok (.ifCond .eq 16, 3) := by decide +kernel
theorem dX4_readNext_34 : decode cX4_readNext 34 = .ok (.aload_n 0, 1) := by decide +kernel
theorem dX4_readNext_35 : decode cX4_readNext 35 = .ok (.dup, 1) := by decide +kernel
theorem dX4_readNext_36 : decode cX4_readNext 36 = .ok (.getfield 38, 3) := by decide +kernel
theorem dX4_readNext_39 : decode cX4_readNext 39 = .ok (.iconst 1, 1) := by decide +kernel
theorem dX4_readNext_40 : decode cX4_readNext 40 = .ok (.iadd, 1) := by decide +kernel
theorem dX4_readNext_41 : decode cX4_readNext 41 = .ok (.putfield 38, 3) := by decide +kernel
theorem dX4_readNext_44 : decode cX4_readNext 44 = .ok (.goto (-36), 3) := by decide +kernel
theorem dX4_readNext_47 : decode cX4_readNext 47 = .ok (.aload_n 0, 1) := by decide +kernel
theorem dX4_readNext_48 : decode cX4_readNext 48 = .ok (.aload_n 0, 1) := by decide +kernel
theorem dX4_readNext_49 : decode cX4_readNext 49 = .ok (.getfield 38, 3) := by decide +kernel
theorem dX4_readNext_52 : decode cX4_readNext 52 = .ok (.putfield 32, 3) := by decide +kernel
theorem dX4_readNext_55 : decode cX4_readNext 55 = .ok (.aload_n 0, 1) := by decide +kernel
theorem dX4_readNext_56 : decode cX4_readNext 56 = .ok (.getfield 32, 3) := by decide +kernel
theorem dX4_readNext_59 : decode cX4_readNext 59 = .ok (.aload_n 0, 1) := by decide +kernel
theorem dX4_readNext_60 : decode cX4_readNext 60 = .ok (.getfield 29, 3) := by decide +kernel
theorem dX4_readNext_63 : decode cX4_readNext 63 = .ok (.if_icmp .ge 31, 3) := by decide +kernel
theorem dX4_readNext_66 : decode cX4_readNext 66 = .ok (.aload_n 0, 1) := by decide +kernel
theorem dX4_readNext_67 : decode cX4_readNext 67 = .ok (.getfield 9, 3) := by decide +kernel
theorem dX4_readNext_70 : decode cX4_readNext 70 = .ok (.aload_n 0, 1) := by decide +kernel
theorem dX4_readNext_71 : decode cX4_readNext 71 = .ok (.getfield 32, 3) := by decide +kernel
theorem dX4_readNext_74 : decode cX4_readNext 74 = .ok (.baload, 1) := by decide +kernel
theorem dX4_readNext_75 : decode cX4_readNext 75 = .ok (.invokestatic 45, 3) := by decide +kernel
theorem dX4_readNext_78 : decode cX4_readNext 78 = .ok (.ifCond .eq 16, 3) := by decide +kernel
theorem dX4_readNext_81 : decode cX4_readNext 81 = .ok (.aload_n 0, 1) := by decide +kernel
theorem dX4_readNext_82 : decode cX4_readNext 82 = .ok (.dup, 1) := by decide +kernel
theorem dX4_readNext_83 : decode cX4_readNext 83 = .ok (.getfield 32, 3) := by decide +kernel
theorem dX4_readNext_86 : decode cX4_readNext 86 = .ok (.iconst 1, 1) := by decide +kernel
theorem dX4_readNext_87 : decode cX4_readNext 87 = .ok (.iadd, 1) := by decide +kernel
theorem dX4_readNext_88 : decode cX4_readNext 88 = .ok (.putfield 32, 3) := by decide +kernel
theorem dX4_readNext_91 : decode cX4_readNext 91 = .ok (.goto (-36), 3) := by decide +kernel
theorem dX4_readNext_94 : decode cX4_readNext 94 = .ok (.aload_n 0, 1) := by decide +kernel
theorem dX4_readNext_95 : decode cX4_readNext 95 = .ok (.getfield 32, 3) := by decide +kernel
theorem dX4_readNext_98 : decode cX4_readNext 98 = .ok (.aload_n 0, 1) := by decide +kernel
theorem dX4_readNext_99 : decode cX4_readNext 99 = .ok (.getfield 38, 3) := by decide +kernel
theorem dX4_readNext_102 : decode cX4_readNext 102 = .ok (.if_icmp .le 27, 3) := by decide +kernel
theorem dX4_readNext_105 : decode cX4_readNext 105 = .ok (.aload_n 0, 1) := by decide +kernel
theorem dX4_readNext_106 : decode cX4_readNext 106 = .ok (.aload_n 0, 1) := by decide +kernel
theorem dX4_readNext_107 : decode cX4_readNext 107 = .ok (.getfield 32, 3) := by decide +kernel
theorem dX4_readNext_110 : decode cX4_readNext 110 = .ok (.aload_n 0, 1) := by decide +kernel
theorem dX4_readNext_111 : decode cX4_readNext 111 = .ok (.getfield 38, 3) := by decide +kernel
theorem dX4_readNext_114 : decode cX4_readNext 114 = .ok (.isub, 1) := by decide +kernel
theorem dX4_readNext_115 : decode cX4_readNext 115 = .ok (.bipush 8, 2) := by decide +kernel
theorem dX4_readNext_117 : decode cX4_readNext 117 = .ok (.if_icmp .gt 7, 3) := by decide +kernel
theorem dX4_readNext_120 : decode cX4_readNext 120 = .ok (.iconst 1, 1) := by decide +kernel
theorem dX4_readNext_121 : decode cX4_readNext 121 = .ok (.goto 4, 3) := by decide +kernel
theorem dX4_readNext_124 : decode cX4_readNext 124 = .ok (.iconst 4, 1) := by decide +kernel
theorem dX4_readNext_125 : decode cX4_readNext 125 = .ok (.putfield 48, 3) := by decide +kernel
theorem dX4_readNext_128 : decode cX4_readNext 128 = .ok (.return_, 1) := by decide +kernel
theorem dX4_readNext_129 : decode cX4_readNext 129 = .ok (.aload_n 0, 1) := by decide +kernel
theorem dX4_readNext_130 : decode cX4_readNext 130 = .ok (.iconst 0, 1) := by decide +kernel
theorem dX4_readNext_131 : decode cX4_readNext 131 = .ok (.putfield 51, 3) := by decide +kernel
theorem dX4_readNext_134 : decode cX4_readNext 134 = .ok (.aload_n 0, 1) := by decide +kernel
theorem dX4_readNext_135 : decode cX4_readNext 135 = .ok (.getfield 32, 3) := by decide +kernel
theorem dX4_readNext_138 : decode cX4_readNext 138 = .ok (.aload_n 0, 1) := by decide +kernel
theorem dX4_readNext_139 : decode cX4_readNext 139 = .ok (.getfield 29, 3) := by decide +kernel
theorem dX4_readNext_142 : decode cX4_readNext 142 = .ok (.if_icmp .ge 55, 3) := by decide +kernel
theorem dX4_readNext_145 : decode cX4_readNext 145 = .ok (.aload_n 0, 1) := by decide +kernel
theorem dX4_readNext_146 : decode cX4_readNext 146 = .ok (.getfield 9, 3) := by decide +kernel
theorem dX4_readNext_149 : decode cX4_readNext 149 = .ok (.aload_n 0, 1) := by decide +kernel
theorem dX4_readNext_150 : decode cX4_readNext 150 = .ok (.getfield 32, 3) := by decide +kernel
theorem dX4_readNext_153 : decode cX4_readNext 153 = .ok (.baload, 1) := by decide +kernel
theorem dX4_readNext_154 : decode cX4_readNext 154 = .ok (.invokestatic 54, 3) := by decide +kernel
theorem dX4_readNext_157 : decode cX4_readNext 157 = .ok (.ifCond .eq 40, 3) := by decide +kernel
theorem dX4_readNext_160 : decode cX4_readNext 160 = .ok (.aload_n 0, 1) := by decide +kernel
theorem dX4_readNext_161 : decode cX4_readNext 161 = .ok (.aload_n 0, 1) := by decide +kernel
theorem dX4_readNext_162 : decode cX4_readNext 162 = .ok (.getfield 51, 3) := by decide +kernel
theorem dX4_readNext_165 : decode cX4_readNext 165 = .ok (.bipush 10, 2) := by decide +kernel
theorem dX4_readNext_167 : decode cX4_readNext 167 = .ok (.imul, 1) := by decide +kernel
theorem dX4_readNext_168 : decode cX4_readNext 168 = .ok (.aload_n 0, 1) := by decide +kernel
theorem dX4_readNext_169 : decode cX4_readNext 169 = .ok (.getfield 9, 3) := by decide +kernel
theorem dX4_readNext_172 : decode cX4_readNext 172 = .ok (.aload_n 0, 1) := by decide +kernel
theorem dX4_readNext_173 : decode cX4_readNext 173 = .ok (.getfield 32, 3) := by decide +kernel
theorem dX4_readNext_176 : decode cX4_readNext 176 = .ok (.baload, 1) := by decide +kernel
theorem dX4_readNext_177 : decode cX4_readNext 177 = .ok (.iadd, 1) := by decide +kernel
theorem dX4_readNext_178 : decode cX4_readNext 178 = .ok (.bipush 48, 2) := by decide +kernel
theorem dX4_readNext_180 : decode cX4_readNext 180 = .ok (.isub, 1) := by decide +kernel
theorem dX4_readNext_181 : decode cX4_readNext 181 = .ok (.putfield 51, 3) := by decide +kernel
theorem dX4_readNext_184 : decode cX4_readNext 184 = .ok (.aload_n 0, 1) := by decide +kernel
theorem dX4_readNext_185 : decode cX4_readNext 185 = .ok (.dup, 1) := by decide +kernel
theorem dX4_readNext_186 : decode cX4_readNext 186 = .ok (.getfield 32, 3) := by decide +kernel
theorem dX4_readNext_189 : decode cX4_readNext 189 = .ok (.iconst 1, 1) := by decide +kernel
theorem dX4_readNext_190 : decode cX4_readNext 190 = .ok (.iadd, 1) := by decide +kernel
theorem dX4_readNext_191 : decode cX4_readNext 191 = .ok (.putfield 32, 3) := by decide +kernel
theorem dX4_readNext_194 : decode cX4_readNext 194 = .ok (.goto (-60), 3) := by decide +kernel
theorem dX4_readNext_197 : decode cX4_readNext 197 = .ok (.aload_n 0, 1) := by decide +kernel
theorem dX4_readNext_198 : decode cX4_readNext 198 = .ok (.getfield 32, 3) := by decide +kernel
theorem dX4_readNext_201 : decode cX4_readNext 201 = .ok (.aload_n 0, 1) := by decide +kernel
theorem dX4_readNext_202 : decode cX4_readNext 202 = .ok (.getfield 38, 3) := by decide +kernel
theorem dX4_readNext_205 : decode cX4_readNext 205 = .ok (.if_icmp .le 26, 3) := by decide +kernel
theorem dX4_readNext_208 : decode cX4_readNext 208 = .ok (.aload_n 0, 1) := by decide +kernel
theorem dX4_readNext_209 : decode cX4_readNext 209 = .ok (.aload_n 0, 1) := by decide +kernel
theorem dX4_readNext_210 : decode cX4_readNext 210 = .ok (.getfield 32, 3) := by decide +kernel
theorem dX4_readNext_213 : decode cX4_readNext 213 = .ok (.aload_n 0, 1) := by decide +kernel
theorem dX4_readNext_214 : decode cX4_readNext 214 = .ok (.getfield 38, 3) := by decide +kernel
theorem dX4_readNext_217 : decode cX4_readNext 217 = .ok (.isub, 1) := by decide +kernel
theorem dX4_readNext_218 : decode cX4_readNext 218 = .ok (.iconst 3, 1) := by decide +kernel
theorem dX4_readNext_219 : decode cX4_readNext 219 = .ok (.if_icmp .gt 7, 3) := by decide +kernel
theorem dX4_readNext_222 : decode cX4_readNext 222 = .ok (.iconst 2, 1) := by decide +kernel
theorem dX4_readNext_223 : decode cX4_readNext 223 = .ok (.goto 4, 3) := by decide +kernel
theorem dX4_readNext_226 : decode cX4_readNext 226 = .ok (.iconst 4, 1) := by decide +kernel
theorem dX4_readNext_227 : decode cX4_readNext 227 = .ok (.putfield 48, 3) := by decide +kernel
theorem dX4_readNext_230 : decode cX4_readNext 230 = .ok (.return_, 1) := by decide +kernel
theorem dX4_readNext_231 : decode cX4_readNext 231 = .ok (.aload_n 0, 1) := by decide +kernel
theorem dX4_readNext_232 : decode cX4_readNext 232 = .ok (.invokevirtual 57, 3) := by decide +kernel
theorem dX4_readNext_235 : decode cX4_readNext 235 = .ok (.return_, 1) := by decide +kernel
theorem dX4_readSign_0 : decode cX4_readSign 0 = .ok (.aload_n 0, 1) := by decide +kernel
theorem dX4_readSign_1 : decode cX4_readSign 1 = .ok (.getfield 38, 3) := by decide +kernel
theorem dX4_readSign_4 : decode cX4_readSign 4 = .ok (.aload_n 0, 1) := by decide +kernel
theorem dX4_readSign_5 : decode cX4_readSign 5 = .ok (.getfield 29, 3) := by decide +kernel
theorem dX4_readSign_8 : decode cX4_readSign 8 = .ok (.if_icmp .lt 9, 3) := by decide +kernel
theorem dX4_readSign_11 : decode cX4_readSign 11 = .ok (.aload_n 0, 1) := by decide +kernel
theorem dX4_readSign_12 : decode cX4_readSign 12 = .ok (.iconst 0, 1) := by decide +kernel
theorem dX4_readSign_13 : decode cX4_readSign 13 = .ok (.putfield 48, 3) := by decide +kernel
theorem dX4_readSign_16 : decode cX4_readSign 16 = .ok (.return_, 1) := by decide +kernel
theorem dX4_readSign_17 : decode cX4_readSign 17 = .ok (.aload_n 0, 1) := by decide +kernel
theorem dX4_readSign_18 : decode cX4_readSign 18 = .ok (.aload_n 0, 1) := by decide +kernel
theorem dX4_readSign_19 : decode cX4_readSign 19 = .ok (.getfield 9, 3) := by decide +kernel
theorem dX4_readSign_22 : decode cX4_readSign 22 = .ok (.aload_n 0, 1) := by decide +kernel
theorem dX4_readSign_23 : decode cX4_readSign 23 = .ok (.getfield 38, 3) := by decide +kernel
theorem dX4_readSign_26 : decode cX4_readSign 26 = .ok (.baload, 1) := by decide +kernel
theorem dX4_readSign_27 : decode cX4_readSign 27 = .ok (.bipush 59, 2) := by decide +kernel
theorem dX4_readSign_29 : decode cX4_readSign 29 = .ok (.if_icmp .ne 7, 3) := by decide +kernel
theorem dX4_readSign_32 : decode cX4_readSign 32 = .ok (.iconst 3, 1) := by decide +kernel
theorem dX4_readSign_33 : decode cX4_readSign 33 = .ok (.goto 4, 3) := by decide +kernel
theorem dX4_readSign_36 : decode cX4_readSign 36 = .ok (.iconst 4, 1) := by decide +kernel
theorem dX4_readSign_37 : decode cX4_readSign 37 = .ok (.putfield 48, 3) := by decide +kernel
theorem dX4_readSign_40 : decode cX4_readSign 40 = .ok (.aload_n 0, 1) := by decide +kernel
theorem dX4_readSign_41 : decode cX4_readSign 41 = .ok (.aload_n 0, 1) := by decide +kernel
theorem dX4_readSign_42 : decode cX4_readSign 42 = .ok (.getfield 38, 3) := by decide +kernel
theorem dX4_readSign_45 : decode cX4_readSign 45 = .ok (.iconst 1, 1) := by decide +kernel
theorem dX4_readSign_46 : decode cX4_readSign 46 = .ok (.iadd, 1) := by decide +kernel
theorem dX4_readSign_47 : decode cX4_readSign 47 = .ok (.putfield 32, 3) := by decide +kernel
theorem dX4_readSign_50 : decode cX4_readSign 50 = .ok (.return_, 1) := by decide +kernel
theorem dX4_isWord_0 : decode cX4_isWord 0 = .ok (.aload_n 0, 1) := by decide +kernel
theorem dX4_isWord_1 : decode cX4_isWord 1 = .ok (.getfield 48, 3) := by decide +kernel
theorem dX4_isWord_4 : decode cX4_isWord 4 = .ok (.iconst 1, 1) := by decide +kernel
theorem dX4_isWord_5 : decode cX4_isWord 5 = .ok (.if_icmp .ne 19, 3) := by decide +kernel
theorem dX4_isWord_8 : decode cX4_isWord 8 = .ok (.aload_n 0, 1) := by decide +kernel
theorem dX4_isWord_9 : decode cX4_isWord 9 = .ok (.getfield 32, 3) := by decide +kernel
theorem dX4_isWord_12 : decode cX4_isWord 12 = .ok (.aload_n 0, 1) := by decide +kernel
theorem dX4_isWord_13 : decode cX4_isWord 13 = .ok (.getfield 38, 3) := by decide +kernel
theorem dX4_isWord_16 : decode cX4_isWord 16 = .ok (.isub, 1) := by decide +kernel
theorem dX4_isWord_17 : decode cX4_isWord 17 = .ok (.aload_n 1, 1) := by decide +kernel
theorem dX4_isWord_18 : decode cX4_isWord 18 = .ok (.invokevirtual 15, 3) := by decide +kernel
theorem dX4_isWord_21 : decode cX4_isWord 21 = .ok (.if_icmp .eq 5, 3) := by decide +kernel
theorem dX4_isWord_24 : decode cX4_isWord 24 = .ok (.iconst 0, 1) := by decide +kernel
theorem dX4_isWord_25 : decode cX4_isWord 25 = .ok (.ireturn, 1) := by decide +kernel
theorem dX4_isWord_26 : decode cX4_isWord 26 = .ok (.iconst 0, 1) := by decide +kernel
theorem dX4_isWord_27 : decode cX4_isWord 27 = .ok (.istore_n 2, 1) := by decide +kernel
theorem dX4_isWord_28 : decode cX4_isWord 28 = .ok (.iload_n 2, 1) := by decide +kernel
theorem dX4_isWord_29 : decode cX4_isWord 29 = .ok (.aload_n 1, 1) := by decide +kernel
theorem dX4_isWord_30 : decode cX4_isWord 30 = .ok (.invokevirtual 15, 3) := by decide +kernel
theorem dX4_isWord_33 : decode cX4_isWord 33 = .ok (.if_icmp .ge 30, 3) := by decide +kernel
theorem dX4_isWord_36 : decode cX4_isWord 36 = .ok (.aload_n 0, 1) := by decide +kernel
theorem dX4_isWord_37 : decode cX4_isWord 37 = .ok (.getfield 9, 3) := by decide +kernel
theorem dX4_isWord_40 : decode cX4_isWord 40 = .ok (.aload_n 0, 1) := by decide +kernel
theorem dX4_isWord_41 : decode cX4_isWord 41 = .ok (.getfield 38, 3) := by decide +kernel
theorem dX4_isWord_44 : decode cX4_isWord 44 = .ok (.iload_n 2, 1) := by decide +kernel
theorem dX4_isWord_45 : decode cX4_isWord 45 = .ok (.iadd, 1) := by decide +kernel
theorem dX4_isWord_46 : decode cX4_isWord 46 = .ok (.baload, 1) := by decide +kernel
theorem dX4_isWord_47 : decode cX4_isWord 47 = .ok (.aload_n 1, 1) := by decide +kernel
theorem dX4_isWord_48 : decode cX4_isWord 48 = .ok (.iload_n 2, 1) := by decide +kernel
theorem dX4_isWord_49 : decode cX4_isWord 49 = .ok (.invokevirtual 21, 3) := by decide +kernel
theorem dX4_isWord_52 : decode cX4_isWord 52 = .ok (.if_icmp .eq 5, 3) := by decide +kernel
theorem dX4_isWord_55 : decode cX4_isWord 55 = .ok (.iconst 0, 1) := by decide +kernel
theorem dX4_isWord_56 : decode cX4_isWord 56 = .ok (.ireturn, 1) := by decide +kernel
theorem dX4_isWord_57 : decode cX4_isWord 57 = .ok (.iinc 2 1, 3) := by decide +kernel
theorem dX4_isWord_60 : decode cX4_isWord 60 = .ok (.goto (-32), 3) := by decide +kernel
theorem dX4_isWord_63 : decode cX4_isWord 63 = .ok (.iconst 1, 1) := by decide +kernel
theorem dX4_isWord_64 : decode cX4_isWord 64 = .ok (.ireturn, 1) := by decide +kernel
theorem dX4_isSeparator_0 : decode cX4_isSeparator 0 = .ok (.iload_n 0, 1) := by decide +kernel
theorem dX4_isSeparator_1 : decode cX4_isSeparator 1 = .ok (.bipush 32, 2) := by decide +kernel
theorem dX4_isSeparator_3 : decode cX4_isSeparator 3 = .ok (.if_icmp .eq 9, 3) := by decide +kernel
theorem dX4_isSeparator_6 : decode cX4_isSeparator 6 = .ok (.iload_n 0, 1) := by decide +kernel
theorem dX4_isSeparator_7 : decode cX4_isSeparator 7 = .ok (.bipush 10, 2) := by decide +kernel
theorem dX4_isSeparator_9 : decode cX4_isSeparator 9 = .ok (.if_icmp .ne 7, 3) := by decide +kernel
theorem dX4_isSeparator_12 : decode cX4_isSeparator 12 = .ok (.iconst 1, 1) := by decide +kernel
theorem dX4_isSeparator_13 : decode cX4_isSeparator 13 = .ok (.goto 4, 3) := by decide +kernel
theorem dX4_isSeparator_16 : decode cX4_isSeparator 16 = .ok (.iconst 0, 1) := by decide +kernel
theorem dX4_isSeparator_17 : decode cX4_isSeparator 17 = .ok (.ireturn, 1) := by decide +kernel
theorem dX4_isLetter_0 : decode cX4_isLetter 0 = .ok (.iload_n 0, 1) := by decide +kernel
theorem dX4_isLetter_1 : decode cX4_isLetter 1 = .ok (.bipush 97, 2) := by decide +kernel
theorem dX4_isLetter_3 : decode cX4_isLetter 3 = .ok (.if_icmp .lt 13, 3) := by decide +kernel
theorem dX4_isLetter_6 : decode cX4_isLetter 6 = .ok (.iload_n 0, 1) := by decide +kernel
theorem dX4_isLetter_7 : decode cX4_isLetter 7 = .ok (.bipush 122, 2) := by decide +kernel
theorem dX4_isLetter_9 : decode cX4_isLetter 9 = .ok (.if_icmp .gt 7, 3) := by decide +kernel
theorem dX4_isLetter_12 : decode cX4_isLetter 12 = .ok (.iconst 1, 1) := by decide +kernel
theorem dX4_isLetter_13 : decode cX4_isLetter 13 = .ok (.goto 4, 3) := by decide +kernel
theorem dX4_isLetter_16 : decode cX4_isLetter 16 = .ok (.iconst 0, 1) := by decide +kernel
theorem dX4_isLetter_17 : decode cX4_isLetter 17 = .ok (.ireturn, 1) := by decide +kernel
theorem dX4_isDigit_0 : decode cX4_isDigit 0 = .ok (.iload_n 0, 1) := by decide +kernel
theorem dX4_isDigit_1 : decode cX4_isDigit 1 = .ok (.bipush 48, 2) := by decide +kernel
theorem dX4_isDigit_3 : decode cX4_isDigit 3 = .ok (.if_icmp .lt 13, 3) := by decide +kernel
theorem dX4_isDigit_6 : decode cX4_isDigit 6 = .ok (.iload_n 0, 1) := by decide +kernel
theorem dX4_isDigit_7 : decode cX4_isDigit 7 = .ok (.bipush 57, 2) := by decide +kernel
theorem dX4_isDigit_9 : decode cX4_isDigit 9 = .ok (.if_icmp .gt 7, 3) := by decide +kernel
theorem dX4_isDigit_12 : decode cX4_isDigit 12 = .ok (.iconst 1, 1) := by decide +kernel
theorem dX4_isDigit_13 : decode cX4_isDigit 13 = .ok (.goto 4, 3) := by decide +kernel
theorem dX4_isDigit_16 : decode cX4_isDigit 16 = .ok (.iconst 0, 1) := by decide +kernel
theorem dX4_isDigit_17 : decode cX4_isDigit 17 = .ok (.ireturn, 1) := by decide +kernel
theorem dX5_init_0 : decode cX5_init 0 = .ok (.aload_n 0, 1) := by decide +kernel
theorem dX5_init_1 : decode cX5_init 1 = .ok (.invokespecial 3, 3) := by decide +kernel
theorem dX5_init_4 : decode cX5_init 4 = .ok (.aload_n 0, 1) := by decide +kernel
theorem dX5_init_5 : decode cX5_init 5 = .ok (.bipush 48, 2) := by decide +kernel
theorem dX5_init_7 : decode cX5_init 7 = .ok (.newarray .byte, 2) := by decide +kernel
theorem dX5_init_9 : decode cX5_init 9 = .ok (.putfield 9, 3) := by decide +kernel
theorem dX5_init_12 : decode cX5_init 12 = .ok (.aload_n 0, 1) := by decide +kernel
theorem dX5_init_13 : decode cX5_init 13 = .ok (.bipush 8, 2) := by decide +kernel
theorem dX5_init_15 : decode cX5_init 15 = .ok (.newarray .int, 2) := by decide +kernel
theorem dX5_init_17 : decode cX5_init 17 = .ok (.putfield 15, 3) := by decide +kernel
theorem dX5_init_20 : decode cX5_init 20 = .ok (.return_, 1) := by decide +kernel
theorem dX5_copyFrom_0 : decode cX5_copyFrom 0 = .ok (.aload_n 1, 1) := by decide +kernel
theorem dX5_copyFrom_1 : decode cX5_copyFrom 1 = .ok (.getfield 9, 3) := by decide +kernel
theorem dX5_copyFrom_4 : decode cX5_copyFrom 4 = .ok (.iconst 0, 1) := by decide +kernel
theorem dX5_copyFrom_5 : decode cX5_copyFrom 5 = .ok (.aload_n 0, 1) := by decide +kernel
theorem dX5_copyFrom_6 : decode cX5_copyFrom 6 = .ok (.getfield 9, 3) := by decide +kernel
theorem dX5_copyFrom_9 : decode cX5_copyFrom 9 = .ok (.iconst 0, 1) := by decide +kernel
theorem dX5_copyFrom_10 : decode cX5_copyFrom 10 = .ok (.aload_n 0, 1) := by decide +kernel
theorem dX5_copyFrom_11 : decode cX5_copyFrom 11 = .ok (.getfield 9, 3) := by decide +kernel
theorem dX5_copyFrom_14 : decode cX5_copyFrom 14 = .ok (.arraylength, 1) := by decide +kernel
theorem dX5_copyFrom_15 : decode cX5_copyFrom 15 = .ok (.invokestatic 19, 3) := by decide +kernel
theorem dX5_copyFrom_18 : decode cX5_copyFrom 18 = .ok (.aload_n 1, 1) := by decide +kernel
theorem dX5_copyFrom_19 : decode cX5_copyFrom 19 = .ok (.getfield 15, 3) := by decide +kernel
theorem dX5_copyFrom_22 : decode cX5_copyFrom 22 = .ok (.iconst 0, 1) := by decide +kernel
theorem dX5_copyFrom_23 : decode cX5_copyFrom 23 = .ok (.aload_n 0, 1) := by decide +kernel
theorem dX5_copyFrom_24 : decode cX5_copyFrom 24 = .ok (.getfield 15, 3) := by decide +kernel
theorem dX5_copyFrom_27 : decode cX5_copyFrom 27 = .ok (.iconst 0, 1) := by decide +kernel
theorem dX5_copyFrom_28 : decode cX5_copyFrom 28 = .ok (.aload_n 0, 1) := by decide +kernel
theorem dX5_copyFrom_29 : decode cX5_copyFrom 29 = .ok (.getfield 15, 3) := by decide +kernel
theorem dX5_copyFrom_32 : decode cX5_copyFrom 32 = .ok (.arraylength, 1) := by decide +kernel
theorem dX5_copyFrom_33 : decode cX5_copyFrom 33 = .ok (.invokestatic 19, 3) := by decide +kernel
theorem dX5_copyFrom_36 : decode cX5_copyFrom 36 = .ok (.aload_n 0, 1) := by decide +kernel
theorem dX5_copyFrom_37 : decode cX5_copyFrom 37 = .ok (.aload_n 1, 1) := by decide +kernel
theorem dX5_copyFrom_38 : decode cX5_copyFrom 38 = .ok (.getfield 25, 3) := by decide +kernel
theorem dX5_copyFrom_41 : decode cX5_copyFrom 41 = .ok (.putfield 25, 3) := by decide +kernel
theorem dX5_copyFrom_44 : decode cX5_copyFrom 44 = .ok (.return_, 1) := by decide +kernel
theorem dX5_has_0 : decode cX5_has 0 = .ok (.iload_n 1, 1) := by decide +kernel
theorem dX5_has_1 : decode cX5_has 1 = .ok (.ifCond .lt 15, 3) := by decide +kernel
theorem dX5_has_4 : decode cX5_has 4 = .ok (.iload_n 1, 1) := by decide +kernel
theorem dX5_has_5 : decode cX5_has 5 = .ok (.aload_n 0, 1) := by decide +kernel
theorem dX5_has_6 : decode cX5_has 6 = .ok (.getfield 25, 3) := by decide +kernel
theorem dX5_has_9 : decode cX5_has 9 = .ok (.if_icmp .ge 7, 3) := by decide +kernel
theorem dX5_has_12 : decode cX5_has 12 = .ok (.iconst 1, 1) := by decide +kernel
theorem dX5_has_13 : decode cX5_has 13 = .ok (.goto 4, 3) := by decide +kernel
theorem dX5_has_16 : decode cX5_has 16 = .ok (.iconst 0, 1) := by decide +kernel
theorem dX5_has_17 : decode cX5_has 17 = .ok (.ireturn, 1) := by decide +kernel
theorem dX5_letter_0 : decode cX5_letter 0 = .ok (.aload_n 0, 1) := by decide +kernel
theorem dX5_letter_1 : decode cX5_letter 1 = .ok (.getfield 9, 3) := by decide +kernel
theorem dX5_letter_4 : decode cX5_letter 4 = .ok (.iload_n 1, 1) := by decide +kernel
theorem dX5_letter_5 : decode cX5_letter 5 = .ok (.bipush 6, 2) := by decide +kernel
theorem dX5_letter_7 : decode cX5_letter 7 = .ok (.imul, 1) := by decide +kernel
theorem dX5_letter_8 : decode cX5_letter 8 = .ok (.iload_n 2, 1) := by decide +kernel
theorem dX5_letter_9 : decode cX5_letter 9 = .ok (.iadd, 1) := by decide +kernel
theorem dX5_letter_10 : decode cX5_letter 10 = .ok (.baload, 1) := by decide +kernel
theorem dX5_letter_11 : decode cX5_letter 11 = .ok (.ireturn, 1) := by decide +kernel
theorem dX5_add_0 : decode cX5_add 0 = .ok (.aload_n 0, 1) := by decide +kernel
theorem dX5_add_1 : decode cX5_add 1 = .ok (.getfield 25, 3) := by decide +kernel
theorem dX5_add_4 : decode cX5_add 4 = .ok (.bipush 8, 2) := by decide +kernel
theorem dX5_add_6 : decode cX5_add 6 = .ok (.if_icmp .ge 9, 3) := by decide +kernel
theorem dX5_add_9 : decode cX5_add 9 = .ok (.iload_n 3, 1) := by decide +kernel
theorem dX5_add_10 : decode cX5_add 10 = .ok (.bipush 6, 2) := by decide +kernel
theorem dX5_add_12 : decode cX5_add 12 = .ok (.if_icmp .le 4, 3) := by decide +kernel
theorem dX5_add_15 : decode cX5_add 15 = .ok (.return_, 1) := by decide +kernel
theorem dX5_add_16 : decode cX5_add 16 = .ok (.aload_n 1, 1) := by decide +kernel
theorem dX5_add_17 : decode cX5_add 17 = .ok (.iload_n 2, 1) := by decide +kernel
theorem dX5_add_18 : decode cX5_add 18 = .ok (.aload_n 0, 1) := by decide +kernel
theorem dX5_add_19 : decode cX5_add 19 = .ok (.getfield 9, 3) := by decide +kernel
theorem dX5_add_22 : decode cX5_add 22 = .ok (.aload_n 0, 1) := by decide +kernel
theorem dX5_add_23 : decode cX5_add 23 = .ok (.getfield 25, 3) := by decide +kernel
theorem dX5_add_26 : decode cX5_add 26 = .ok (.bipush 6, 2) := by decide +kernel
theorem dX5_add_28 : decode cX5_add 28 = .ok (.imul, 1) := by decide +kernel
theorem dX5_add_29 : decode cX5_add 29 = .ok (.iload_n 3, 1) := by decide +kernel
theorem dX5_add_30 : decode cX5_add 30 = .ok (.invokestatic 19, 3) := by decide +kernel
theorem dX5_add_33 : decode cX5_add 33 = .ok (.aload_n 0, 1) := by decide +kernel
theorem dX5_add_34 : decode cX5_add 34 = .ok (.getfield 15, 3) := by decide +kernel
theorem dX5_add_37 : decode cX5_add 37 = .ok (.aload_n 0, 1) := by decide +kernel
theorem dX5_add_38 : decode cX5_add 38 = .ok (.getfield 25, 3) := by decide +kernel
theorem dX5_add_41 : decode cX5_add 41 = .ok (.iload_n 3, 1) := by decide +kernel
theorem dX5_add_42 : decode cX5_add 42 = .ok (.iastore, 1) := by decide +kernel
theorem dX5_add_43 : decode cX5_add 43 = .ok (.aload_n 0, 1) := by decide +kernel
theorem dX5_add_44 : decode cX5_add 44 = .ok (.dup, 1) := by decide +kernel
theorem dX5_add_45 : decode cX5_add 45 = .ok (.getfield 25, 3) := by decide +kernel
theorem dX5_add_48 : decode cX5_add 48 = .ok (.iconst 1, 1) := by decide +kernel
theorem dX5_add_49 : decode cX5_add 49 = .ok (.iadd, 1) := by decide +kernel
theorem dX5_add_50 : decode cX5_add 50 = .ok (.putfield 25, 3) := by decide +kernel
theorem dX5_add_53 : decode cX5_add 53 = .ok (.return_, 1) := by decide +kernel
theorem dX5_find_0 : decode cX5_find 0 = .ok (.iconst 0, 1) := by decide +kernel
theorem dX5_find_1 : decode cX5_find 1 = .ok (.istore 4, 2) := by decide +kernel
theorem dX5_find_3 : decode cX5_find 3 = .ok (.iload 4, 2) := by decide +kernel
theorem dX5_find_5 : decode cX5_find 5 = .ok (.aload_n 0, 1) := by decide +kernel
theorem dX5_find_6 : decode cX5_find 6 = .ok (.getfield 25, 3) := by decide +kernel
theorem dX5_find_9 : decode cX5_find 9 = .ok (.if_icmp .ge 34, 3) := by decide +kernel
theorem dX5_find_12 : decode cX5_find 12 = .ok (.aload_n 0, 1) := by decide +kernel
theorem dX5_find_13 : decode cX5_find 13 = .ok (.getfield 15, 3) := by decide +kernel
theorem dX5_find_16 : decode cX5_find 16 = .ok (.iload 4, 2) := by decide +kernel
theorem dX5_find_18 : decode cX5_find 18 = .ok (.iaload, 1) := by decide +kernel
theorem dX5_find_19 : decode cX5_find 19 = .ok (.iload_n 3, 1) := by decide +kernel
theorem dX5_find_20 : decode cX5_find 20 = .ok (.if_icmp .ne 17, 3) := by decide +kernel
theorem dX5_find_23 : decode cX5_find 23 = .ok (.aload_n 0, 1) := by decide +kernel
theorem dX5_find_24 : decode cX5_find 24 = .ok (.iload 4, 2) := by decide +kernel
theorem dX5_find_26 : decode cX5_find 26 = .ok (.aload_n 1, 1) := by decide +kernel
theorem dX5_find_27 : decode cX5_find 27 = .ok (.iload_n 2, 1) := by decide +kernel
theorem dX5_find_28 : decode cX5_find 28 = .ok (.invokevirtual 29, 3) := by decide +kernel
theorem dX5_find_31 : decode cX5_find 31 = .ok (.ifCond .eq 6, 3) := by decide +kernel
theorem dX5_find_34 : decode cX5_find 34 = .ok (.iload 4, 2) := by decide +kernel
theorem dX5_find_36 : decode cX5_find 36 = .ok (.ireturn, 1) := by decide +kernel
theorem dX5_find_37 : decode cX5_find 37 = .ok (.iinc 4 1, 3) := by decide +kernel
theorem dX5_find_40 : decode cX5_find 40 = .ok (.goto (-37), 3) := by decide +kernel
theorem dX5_find_43 : decode cX5_find 43 = .ok (.iconst (-1), 1) := by decide +kernel
theorem dX5_find_44 : decode cX5_find 44 = .ok (.ireturn, 1) := by decide +kernel
theorem dX5_isAt_0 : decode cX5_isAt 0 = .ok (.iconst 0, 1) := by decide +kernel
theorem dX5_isAt_1 : decode cX5_isAt 1 = .ok (.istore 4, 2) := by decide +kernel
theorem dX5_isAt_3 : decode cX5_isAt 3 = .ok (.iload 4, 2) := by decide +kernel
theorem dX5_isAt_5 : decode cX5_isAt 5 = .ok (.aload_n 0, 1) := by decide +kernel
theorem dX5_isAt_6 : decode cX5_isAt 6 = .ok (.getfield 15, 3) := by decide +kernel
theorem dX5_isAt_9 : decode cX5_isAt 9 = .ok (.iload_n 1, 1) := by decide +kernel
theorem dX5_isAt_10 : decode cX5_isAt 10 = .ok (.iaload, 1) := by decide +kernel
theorem dX5_isAt_11 : decode cX5_isAt 11 = .ok (.if_icmp .ge 32, 3) := by decide +kernel
theorem dX5_isAt_14 : decode cX5_isAt 14 = .ok (.aload_n 0, 1) := by decide +kernel
theorem dX5_isAt_15 : decode cX5_isAt 15 = .ok (.getfield 9, 3) := by decide +kernel
theorem dX5_isAt_18 : decode cX5_isAt 18 = .ok (.iload_n 1, 1) := by decide +kernel
theorem dX5_isAt_19 : decode cX5_isAt 19 = .ok (.bipush 6, 2) := by decide +kernel
theorem dX5_isAt_21 : decode cX5_isAt 21 = .ok (.imul, 1) := by decide +kernel
theorem dX5_isAt_22 : decode cX5_isAt 22 = .ok (.iload 4, 2) := by decide +kernel
theorem dX5_isAt_24 : decode cX5_isAt 24 = .ok (.iadd, 1) := by decide +kernel
theorem dX5_isAt_25 : decode cX5_isAt 25 = .ok (.baload, 1) := by decide +kernel
theorem dX5_isAt_26 : decode cX5_isAt 26 = .ok (.aload_n 2, 1) := by decide +kernel
theorem dX5_isAt_27 : decode cX5_isAt 27 = .ok (.iload_n 3, 1) := by decide +kernel
theorem dX5_isAt_28 : decode cX5_isAt 28 = .ok (.iload 4, 2) := by decide +kernel
theorem dX5_isAt_30 : decode cX5_isAt 30 = .ok (.iadd, 1) := by decide +kernel
theorem dX5_isAt_31 : decode cX5_isAt 31 = .ok (.baload, 1) := by decide +kernel
theorem dX5_isAt_32 : decode cX5_isAt 32 = .ok (.if_icmp .eq 5, 3) := by decide +kernel
theorem dX5_isAt_35 : decode cX5_isAt 35 = .ok (.iconst 0, 1) := by decide +kernel
theorem dX5_isAt_36 : decode cX5_isAt 36 = .ok (.ireturn, 1) := by decide +kernel
theorem dX5_isAt_37 : decode cX5_isAt 37 = .ok (.iinc 4 1, 3) := by decide +kernel
theorem dX5_isAt_40 : decode cX5_isAt 40 = .ok (.goto (-37), 3) := by decide +kernel
theorem dX5_isAt_43 : decode cX5_isAt 43 = .ok (.iconst 1, 1) := by decide +kernel
theorem dX5_isAt_44 : decode cX5_isAt 44 = .ok (.ireturn, 1) := by decide +kernel
theorem dX6_init_0 : decode cX6_init 0 = .ok (.aload_n 0, 1) := by decide +kernel
theorem dX6_init_1 : decode cX6_init 1 = .ok (.invokespecial 3, 3) := by decide +kernel
theorem dX6_init_4 : decode cX6_init 4 = .ok (.aload_n 0, 1) := by decide +kernel
theorem dX6_init_5 : decode cX6_init 5 = .ok (.sipush 200, 3) := by decide +kernel
theorem dX6_init_8 : decode cX6_init 8 = .ok (.newarray .byte, 2) := by decide +kernel
theorem dX6_init_10 : decode cX6_init 10 = .ok (.putfield 9, 3) := by decide +kernel
theorem dX6_init_13 : decode cX6_init 13 = .ok (.return_, 1) := by decide +kernel
theorem dX6_put_0 : decode cX6_put 0 = .ok (.aload_n 0, 1) := by decide +kernel
theorem dX6_put_1 : decode cX6_put 1 = .ok (.getfield 15, 3) := by decide +kernel
theorem dX6_put_4 : decode cX6_put 4 = .ok (.sipush 200, 3) := by decide +kernel
theorem dX6_put_7 : decode cX6_put 7 = .ok (.if_icmp .ge 24, 3) := by decide +kernel
theorem dX6_put_10 : decode cX6_put 10 = .ok (.aload_n 0, 1) := by decide +kernel
theorem dX6_put_11 : decode cX6_put 11 = .ok (.getfield 9, 3) := by decide +kernel
theorem dX6_put_14 : decode cX6_put 14 = .ok (.aload_n 0, 1) := by decide +kernel
theorem dX6_put_15 : decode cX6_put 15 = .ok (.getfield 15, 3) := by decide +kernel
theorem dX6_put_18 : decode cX6_put 18 = .ok (.iload_n 1, 1) := by decide +kernel
theorem dX6_put_19 : decode cX6_put 19 = .ok (.i2b, 1) := by decide +kernel
theorem dX6_put_20 : decode cX6_put 20 = .ok (.bastore, 1) := by decide +kernel
theorem dX6_put_21 : decode cX6_put 21 = .ok (.aload_n 0, 1) := by decide +kernel
theorem dX6_put_22 : decode cX6_put 22 = .ok (.dup, 1) := by decide +kernel
theorem dX6_put_23 : decode cX6_put 23 = .ok (.getfield 15, 3) := by decide +kernel
theorem dX6_put_26 : decode cX6_put 26 = .ok (.iconst 1, 1) := by decide +kernel
theorem dX6_put_27 : decode cX6_put 27 = .ok (.iadd, 1) := by decide +kernel
theorem dX6_put_28 : decode cX6_put 28 = .ok (.putfield 15, 3) := by decide +kernel
theorem dX6_put_31 : decode cX6_put 31 = .ok (.return_, 1) := by decide +kernel
theorem dX6_putNumber_0 : decode cX6_putNumber 0 = .ok (.iload_n 1, 1) := by decide +kernel
theorem dX6_putNumber_1 : decode cX6_putNumber 1 = .ok (.bipush 10, 2) := by decide +kernel
theorem dX6_putNumber_3 : decode cX6_putNumber 3 = .ok (.if_icmp .lt 14, 3) := by decide +kernel
theorem dX6_putNumber_6 : decode cX6_putNumber 6 = .ok (.aload_n 0, 1) := by decide +kernel
theorem dX6_putNumber_7 : decode cX6_putNumber 7 = .ok (.bipush 48, 2) := by decide +kernel
theorem dX6_putNumber_9 : decode cX6_putNumber 9 = .ok (.iload_n 1, 1) := by decide +kernel
theorem dX6_putNumber_10 : decode cX6_putNumber 10 = .ok (.bipush 10, 2) := by decide +kernel
theorem dX6_putNumber_12 : decode cX6_putNumber 12 = .ok (.idiv, 1) := by decide +kernel
theorem dX6_putNumber_13 : decode cX6_putNumber 13 = .ok (.iadd, 1) := by decide +kernel
theorem dX6_putNumber_14 : decode cX6_putNumber 14 = .ok (.invokevirtual 19, 3) := by decide +kernel
theorem dX6_putNumber_17 : decode cX6_putNumber 17 = .ok (.aload_n 0, 1) := by decide +kernel
theorem dX6_putNumber_18 : decode cX6_putNumber 18 = .ok (.bipush 48, 2) := by decide +kernel
theorem dX6_putNumber_20 : decode cX6_putNumber 20 = .ok (.iload_n 1, 1) := by decide +kernel
theorem dX6_putNumber_21 : decode cX6_putNumber 21 = .ok (.bipush 10, 2) := by decide +kernel
theorem dX6_putNumber_23 : decode cX6_putNumber 23 = .ok (.irem, 1) := by decide +kernel
theorem dX6_putNumber_24 : decode cX6_putNumber 24 = .ok (.iadd, 1) := by decide +kernel
theorem dX6_putNumber_25 : decode cX6_putNumber 25 = .ok (.invokevirtual 19, 3) := by decide +kernel
theorem dX6_putNumber_28 : decode cX6_putNumber 28 = .ok (.return_, 1) := by decide +kernel
theorem dX7_init_0 : decode cX7_init 0 = .ok (.aload_n 0, 1) := by decide +kernel
theorem dX7_init_1 : decode cX7_init 1 = .ok (.invokespecial 3, 3) := by decide +kernel
theorem dX7_init_4 : decode cX7_init 4 = .ok (.aload_n 0, 1) := by decide +kernel
theorem dX7_init_5 : decode cX7_init 5 = .ok (.new 9, 3) := by decide +kernel
theorem dX7_init_8 : decode cX7_init 8 = .ok (.dup, 1) := by decide +kernel
theorem dX7_init_9 : decode cX7_init 9 = .ok (.invokespecial 11, 3) := by decide +kernel
theorem dX7_init_12 : decode cX7_init 12 = .ok (.putfield 12, 3) := by decide +kernel
theorem dX7_init_15 : decode cX7_init 15 = .ok (.aload_n 0, 1) := by decide +kernel
theorem dX7_init_16 : decode cX7_init 16 = .ok (.iconst (-1), 1) := by decide +kernel
theorem dX7_init_17 : decode cX7_init 17 = .ok (.putfield 18, 3) := by decide +kernel
theorem dX7_init_20 : decode cX7_init 20 = .ok (.return_, 1) := by decide +kernel
theorem dX7_start_0 : decode cX7_start 0 = .ok (.aload_n 0, 1) := by decide +kernel
theorem dX7_start_1 : decode cX7_start 1 = .ok (.iconst 0, 1) := by decide +kernel
theorem dX7_start_2 : decode cX7_start 2 = .ok (.putfield 22, 3) := by decide +kernel
theorem dX7_start_5 : decode cX7_start 5 = .ok (.aload_n 0, 1) := by decide +kernel
theorem dX7_start_6 : decode cX7_start 6 = .ok (.iconst (-1), 1) := by decide +kernel
theorem dX7_start_7 : decode cX7_start 7 = .ok (.putfield 18, 3) := by decide +kernel
theorem dX7_start_10 : decode cX7_start 10 = .ok (.aload_n 0, 1) := by decide +kernel
theorem dX7_start_11 : decode cX7_start 11 = .ok (.getfield 12, 3) := by decide +kernel
theorem dX7_start_14 : decode cX7_start 14 = .ok (.invokevirtual 25, 3) := by decide +kernel
theorem dX7_start_17 : decode cX7_start 17 = .ok (.return_, 1) := by decide +kernel
theorem dX7_fail_0 : decode cX7_fail 0 = .ok (.aload_n 0, 1) := by decide +kernel
theorem dX7_fail_1 : decode cX7_fail 1 = .ok (.iload_n 1, 1) := by decide +kernel
theorem dX7_fail_2 : decode cX7_fail 2 = .ok (.putfield 22, 3) := by decide +kernel
theorem dX7_fail_5 : decode cX7_fail 5 = .ok (.aload_n 0, 1) := by decide +kernel
theorem dX7_fail_6 : decode cX7_fail 6 = .ok (.aload_n 0, 1) := by decide +kernel
theorem dX7_fail_7 : decode cX7_fail 7 = .ok (.getfield 12, 3) := by decide +kernel
theorem dX7_fail_10 : decode cX7_fail 10 = .ok (.getfield 28, 3) := by decide +kernel
theorem dX7_fail_13 : decode cX7_fail 13 = .ok (.putfield 18, 3) := by decide +kernel
theorem dX7_fail_16 : decode cX7_fail 16 = .ok (.iconst 0, 1) := by decide +kernel
theorem dX7_fail_17 : decode cX7_fail 17 = .ok (.ireturn, 1) := by decide +kernel
theorem dX7_readSetup_0 : decode cX7_readSetup 0 = .ok (.aload_n 0, 1) := by decide +kernel
theorem dX7_readSetup_1 : decode cX7_readSetup 1 = .ok (.invokevirtual 31, 3) := by decide +kernel
theorem dX7_readSetup_4 : decode cX7_readSetup 4 = .ok (.aload_n 1, 1) := by decide +kernel
theorem dX7_readSetup_5 : decode cX7_readSetup 5 = .ok (.invokevirtual 33, 3) := by decide +kernel
theorem dX7_readSetup_8 : decode cX7_readSetup 8 = .ok (.aload_n 0, 1) := by decide +kernel
theorem dX7_readSetup_9 : decode cX7_readSetup 9 = .ok (.ldc 38, 2) := by decide +kernel
theorem dX7_readSetup_11 : decode cX7_readSetup 11 = .ok (.invokevirtual 40, 3) := by decide +kernel
theorem dX7_readSetup_14 : decode cX7_readSetup 14 = .ok (.ifCond .eq 30, 3) := by decide +kernel
theorem dX7_readSetup_17 : decode cX7_readSetup 17 = .ok (.aload_n 0, 1) := by decide +kernel
theorem dX7_readSetup_18 : decode cX7_readSetup 18 = .ok (.invokevirtual 44, 3) := by decide +kernel
theorem dX7_readSetup_21 : decode cX7_readSetup 21 = .ok (.ifCond .eq 23, 3) := by decide +kernel
theorem dX7_readSetup_24 : decode cX7_readSetup 24 = .ok (.aload_n 0, 1) := by decide +kernel
theorem dX7_readSetup_25 : decode cX7_readSetup 25 = .ok (.aload_n 1, 1) := by decide +kernel
theorem dX7_readSetup_26 : decode cX7_readSetup 26 = .ok (.invokevirtual 48, 3) := by decide +kernel
theorem dX7_readSetup_29 : decode cX7_readSetup 29 = .ok (.ifCond .eq 15, 3) := by decide +kernel
theorem dX7_readSetup_32 : decode cX7_readSetup 32 = .ok (.aload_n 0, 1) := by decide +kernel
theorem dX7_readSetup_33 : decode cX7_readSetup 33 = .ok (.aload_n 1, 1) := by decide +kernel
theorem dX7_readSetup_34 : decode cX7_readSetup 34 = .ok (.invokevirtual 52, 3) := by decide +kernel
theorem dX7_readSetup_37 : decode cX7_readSetup 37 = .ok (.ifCond .eq 7, 3) := by decide +kernel
theorem dX7_readSetup_40 : decode cX7_readSetup 40 = .ok (.iconst 1, 1) := by decide +kernel
theorem dX7_readSetup_41 : decode cX7_readSetup 41 = .ok (.goto 4, 3) := by decide +kernel
theorem dX7_readSetup_44 : decode cX7_readSetup 44 = .ok (.iconst 0, 1) := by decide +kernel
theorem dX7_readSetup_45 : decode cX7_readSetup 45 = .ok (.ireturn, 1) := by decide +kernel
theorem dX7_pastures_0 : decode cX7_pastures 0 = .ok (.aload_n 0, 1) := by decide +kernel
theorem dX7_pastures_1 : decode cX7_pastures 1 = .ok (.aload_n 1, 1) := by decide +kernel
theorem dX7_pastures_2 : decode cX7_pastures 2 = .ok (.invokevirtual 55, 3) := by decide +kernel
theorem dX7_pastures_5 : decode cX7_pastures 5 = .ok (.ifCond .ne 5, 3) := by decide +kernel
theorem dX7_pastures_8 : decode cX7_pastures 8 = .ok (.iconst 0, 1) := by decide +kernel
theorem dX7_pastures_9 : decode cX7_pastures 9 = .ok (.ireturn, 1) := by decide +kernel
theorem dX7_pastures_10 : decode cX7_pastures 10 = .ok (.iconst 1, 1) := by decide +kernel
theorem dX7_pastures_11 : decode cX7_pastures 11 = .ok (.istore_n 2, 1) := by decide +kernel
theorem dX7_pastures_12 : decode cX7_pastures 12 = .ok (.iload_n 2, 1) := by decide +kernel
theorem dX7_pastures_13 : decode cX7_pastures 13 = .ok (.iconst 5, 1) := by decide +kernel
theorem dX7_pastures_14 : decode cX7_pastures 14 = .ok (.if_icmp .ge 31, 3) := by decide +kernel
theorem dX7_pastures_17 : decode cX7_pastures 17 = .ok (.aload_n 0, 1) := by decide +kernel
theorem dX7_pastures_18 : decode cX7_pastures 18 = .ok (.getfield 12, 3) := by decide +kernel
theorem dX7_pastures_21 : decode cX7_pastures 21 = .ok (.ldc 58, 2) := by decide +kernel
theorem dX7_pastures_23 : decode cX7_pastures 23 = .ok (.invokevirtual 59, 3) := by decide +kernel
theorem dX7_pastures_26 : decode cX7_pastures 26 = .ok (.ifCond .eq 19, 3) := by decide +kernel
theorem dX7_pastures_29 : decode cX7_pastures 29 = .ok (.aload_n 0, 1) := by decide +kernel
theorem dX7_pastures_30 : decode cX7_pastures 30 = .ok (.aload_n 1, 1) := by decide +kernel
theorem dX7_pastures_31 : decode cX7_pastures 31 = .ok (.invokevirtual 55, 3) := by decide +kernel
theorem dX7_pastures_34 : decode cX7_pastures 34 = .ok (.ifCond .ne 5, 3) := by decide +kernel
theorem dX7_pastures_37 : decode cX7_pastures 37 = .ok (.iconst 0, 1) := by decide +kernel
theorem dX7_pastures_38 : decode cX7_pastures 38 = .ok (.ireturn, 1) := by decide +kernel
theorem dX7_pastures_39 : decode cX7_pastures 39 = .ok (.iinc 2 1, 3) := by decide +kernel
theorem dX7_pastures_42 : decode cX7_pastures 42 = .ok (.goto (-30), 3) := by decide +kernel
theorem dX7_pastures_45 : decode cX7_pastures 45 = .ok (.aload_n 0, 1) := by decide +kernel
theorem dX7_pastures_46 : decode cX7_pastures 46 = .ok (.getfield 12, 3) := by decide +kernel
theorem dX7_pastures_49 : decode cX7_pastures 49 = .ok (.ldc 58, 2) := by decide +kernel
theorem dX7_pastures_51 : decode cX7_pastures 51 = .ok (.invokevirtual 59, 3) := by decide +kernel
theorem dX7_pastures_54 : decode cX7_pastures 54 = .ok (.ifCond .eq 11, 3) := by decide +kernel
theorem dX7_pastures_57 : decode cX7_pastures 57 = .ok (.aload_n 0, 1) := by decide +kernel
theorem dX7_pastures_58 : decode cX7_pastures 58 = .ok (.iconst 4, 1) := by decide +kernel
theorem dX7_pastures_59 : decode cX7_pastures 59 = .ok (.invokevirtual 62, 3) := by decide +kernel
theorem dX7_pastures_62 : decode cX7_pastures 62 = .ok (.ifCond .eq 7, 3) := by decide +kernel
theorem dX7_pastures_65 : decode cX7_pastures 65 = .ok (.iconst 1, 1) := by decide +kernel
theorem dX7_pastures_66 : decode cX7_pastures 66 = .ok (.goto 4, 3) := by decide +kernel
theorem dX7_pastures_69 : decode cX7_pastures 69 = .ok (.iconst 0, 1) := by decide +kernel
theorem dX7_pastures_70 : decode cX7_pastures 70 = .ok (.ireturn, 1) := by decide +kernel
theorem dX7_pasture_0 : decode cX7_pasture 0 = .ok (.aload_n 1, 1) := by decide +kernel
theorem dX7_pasture_1 : decode cX7_pasture 1 = .ok (.getfield 66, 3) := by decide +kernel
theorem dX7_pasture_4 : decode cX7_pasture 4 = .ok (.getfield 69, 3) := by decide +kernel
theorem dX7_pasture_7 : decode cX7_pasture 7 = .ok (.istore_n 2, 1) := by decide +kernel
theorem dX7_pasture_8 : decode cX7_pasture 8 = .ok (.iload_n 2, 1) := by decide +kernel
theorem dX7_pasture_9 : decode cX7_pasture 9 = .ok (.iconst 5, 1) := by decide +kernel
theorem dX7_pasture_10 : decode cX7_pasture 10 = .ok (.if_icmp .ge 32, 3) := by decide +kernel
theorem dX7_pasture_13 : decode cX7_pasture 13 = .ok (.aload_n 0, 1) := by decide +kernel
theorem dX7_pasture_14 : decode cX7_pasture 14 = .ok (.ldc 58, 2) := by decide +kernel
theorem dX7_pasture_16 : decode cX7_pasture 16 = .ok (.invokevirtual 40, 3) := by decide +kernel
theorem dX7_pasture_19 : decode cX7_pasture 19 = .ok (.ifCond .eq 23, 3) := by decide +kernel
theorem dX7_pasture_22 : decode cX7_pasture 22 = .ok (.aload_n 0, 1) := by decide +kernel
theorem dX7_pasture_23 : decode cX7_pasture 23 = .ok (.aload_n 1, 1) := by decide +kernel
theorem dX7_pasture_24 : decode cX7_pasture 24 = .ok (.getfield 66, 3) := by decide +kernel
theorem dX7_pasture_27 : decode cX7_pasture 27 = .ok (.invokevirtual 74, 3) := by decide +kernel
theorem dX7_pasture_30 : decode cX7_pasture 30 = .ok (.ifCond .eq 12, 3) := by decide +kernel
theorem dX7_pasture_33 : decode cX7_pasture 33 = .ok (.aload_n 0, 1) := by decide +kernel
theorem dX7_pasture_34 : decode cX7_pasture 34 = .ok (.bipush 50, 2) := by decide +kernel
theorem dX7_pasture_36 : decode cX7_pasture 36 = .ok (.invokevirtual 78, 3) := by decide +kernel
theorem dX7_pasture_39 : decode cX7_pasture 39 = .ok (.ifCond .ne 5, 3) := by decide +kernel
theorem dX7_pasture_42 : decode cX7_pasture 42 = .ok (.iconst 0, 1) := by decide +kernel
theorem dX7_pasture_43 : decode cX7_pasture 43 = .ok (.ireturn, 1) := by decide +kernel
theorem dX7_pasture_44 : decode cX7_pasture 44 = .ok (.aload_n 1, 1) := by decide +kernel
theorem dX7_pasture_45 : decode cX7_pasture 45 = .ok (.getfield 81, 3) := by decide +kernel
theorem dX7_pasture_48 : decode cX7_pasture 48 = .ok (.iload_n 2, 1) := by decide +kernel
theorem dX7_pasture_49 : decode cX7_pasture 49 = .ok (.aload_n 0, 1) := by decide +kernel
theorem dX7_pasture_50 : decode cX7_pasture 50 = .ok (.getfield 12, 3) := by decide +kernel
theorem dX7_pasture_53 : decode cX7_pasture 53 = .ok (.getfield 85, 3) := by decide +kernel
theorem dX7_pasture_56 : decode cX7_pasture 56 = .ok (.iastore, 1) := by decide +kernel
theorem dX7_pasture_57 : decode cX7_pasture 57 = .ok (.aload_n 0, 1) := by decide +kernel
theorem dX7_pasture_58 : decode cX7_pasture 58 = .ok (.getfield 12, 3) := by decide +kernel
theorem dX7_pasture_61 : decode cX7_pasture 61 = .ok (.invokevirtual 88, 3) := by decide +kernel
theorem dX7_pasture_64 : decode cX7_pasture 64 = .ok (.aload_n 0, 1) := by decide +kernel
theorem dX7_pasture_65 : decode cX7_pasture 65 = .ok (.invokevirtual 44, 3) := by decide +kernel
theorem dX7_pasture_68 : decode cX7_pasture 68 = .ok (.ireturn, 1) := by decide +kernel
theorem dX7_herds_0 : decode cX7_herds 0 = .ok (.aload_n 0, 1) := by decide +kernel
theorem dX7_herds_1 : decode cX7_herds 1 = .ok (.aload_n 1, 1) := by decide +kernel
theorem dX7_herds_2 : decode cX7_herds 2 = .ok (.invokevirtual 91, 3) := by decide +kernel
theorem dX7_herds_5 : decode cX7_herds 5 = .ok (.ifCond .ne 5, 3) := by decide +kernel
theorem dX7_herds_8 : decode cX7_herds 8 = .ok (.iconst 0, 1) := by decide +kernel
theorem dX7_herds_9 : decode cX7_herds 9 = .ok (.ireturn, 1) := by decide +kernel
theorem dX7_herds_10 : decode cX7_herds 10 = .ok (.iconst 1, 1) := by decide +kernel
theorem dX7_herds_11 : decode cX7_herds 11 = .ok (.istore_n 2, 1) := by decide +kernel
theorem dX7_herds_12 : decode cX7_herds 12 = .ok (.iload_n 2, 1) := by decide +kernel
theorem dX7_herds_13 : decode cX7_herds 13 = .ok (.bipush 8, 2) := by decide +kernel
theorem dX7_herds_15 : decode cX7_herds 15 = .ok (.if_icmp .ge 29, 3) := by decide +kernel
theorem dX7_herds_18 : decode cX7_herds 18 = .ok (.aload_n 0, 1) := by decide +kernel
theorem dX7_herds_19 : decode cX7_herds 19 = .ok (.getfield 12, 3) := by decide +kernel
theorem dX7_herds_22 : decode cX7_herds 22 = .ok (.getfield 94, 3) := by decide +kernel
theorem dX7_herds_25 : decode cX7_herds 25 = .ok (.ifCond .eq 19, 3) := by decide +kernel
theorem dX7_herds_28 : decode cX7_herds 28 = .ok (.aload_n 0, 1) := by decide +kernel
theorem dX7_herds_29 : decode cX7_herds 29 = .ok (.aload_n 1, 1) := by decide +kernel
theorem dX7_herds_30 : decode cX7_herds 30 = .ok (.invokevirtual 91, 3) := by decide +kernel
theorem dX7_herds_33 : decode cX7_herds 33 = .ok (.ifCond .ne 5, 3) := by decide +kernel
theorem dX7_herds_36 : decode cX7_herds 36 = .ok (.iconst 0, 1) := by decide +kernel
theorem dX7_herds_37 : decode cX7_herds 37 = .ok (.ireturn, 1) := by decide +kernel
theorem dX7_herds_38 : decode cX7_herds 38 = .ok (.iinc 2 1, 3) := by decide +kernel
theorem dX7_herds_41 : decode cX7_herds 41 = .ok (.goto (-29), 3) := by decide +kernel
theorem dX7_herds_44 : decode cX7_herds 44 = .ok (.aload_n 0, 1) := by decide +kernel
theorem dX7_herds_45 : decode cX7_herds 45 = .ok (.getfield 12, 3) := by decide +kernel
theorem dX7_herds_48 : decode cX7_herds 48 = .ok (.getfield 94, 3) := by decide +kernel
theorem dX7_herds_51 : decode cX7_herds 51 = .ok (.ifCond .ne 5, 3) := by decide +kernel
theorem dX7_herds_54 : decode cX7_herds 54 = .ok (.iconst 1, 1) := by decide +kernel
theorem dX7_herds_55 : decode cX7_herds 55 = .ok (.ireturn, 1) := by decide +kernel
theorem dX7_herds_56 : decode cX7_herds 56 = .ok (.aload_n 0, 1) := by decide +kernel
theorem dX7_herds_57 : decode cX7_herds 57 = .ok (.aload_n 0, 1) := by decide +kernel
theorem dX7_herds_58 : decode cX7_herds 58 = .ok (.getfield 12, 3) := by decide +kernel
theorem dX7_herds_61 : decode cX7_herds 61 = .ok (.ldc 97, 2) := by decide +kernel
theorem dX7_herds_63 : decode cX7_herds 63 = .ok (.invokevirtual 59, 3) := by decide +kernel
theorem dX7_herds_66 : decode cX7_herds 66 = .ok (.ifCond .eq 7, 3) := by decide +kernel
theorem dX7_herds_69 : decode cX7_herds 69 = .ok (.iconst 4, 1) := by decide +kernel
theorem dX7_herds_70 : decode cX7_herds 70 = .ok (.goto 4, 3) := by decide +kernel
theorem dX7_herds_73 : decode cX7_herds 73 = .ok (.iconst 1, 1) := by decide +kernel
theorem dX7_herds_74 : decode cX7_herds 74 = .ok (.invokevirtual 62, 3) := by decide +kernel
theorem dX7_herds_77 : decode cX7_herds 77 = .ok (.ireturn, 1) := by decide +kernel
theorem dX7_herd_0 : decode cX7_herd 0 = .ok (.aload_n 1, 1) := by decide +kernel
theorem dX7_herd_1 : decode cX7_herd 1 = .ok (.getfield 98, 3) := by decide +kernel
theorem dX7_herd_4 : decode cX7_herd 4 = .ok (.getfield 69, 3) := by decide +kernel
theorem dX7_herd_7 : decode cX7_herd 7 = .ok (.istore_n 2, 1) := by decide +kernel
theorem dX7_herd_8 : decode cX7_herd 8 = .ok (.iload_n 2, 1) := by decide +kernel
theorem dX7_herd_9 : decode cX7_herd 9 = .ok (.bipush 8, 2) := by decide +kernel
theorem dX7_herd_11 : decode cX7_herd 11 = .ok (.if_icmp .ge 23, 3) := by decide +kernel
theorem dX7_herd_14 : decode cX7_herd 14 = .ok (.aload_n 0, 1) := by decide +kernel
theorem dX7_herd_15 : decode cX7_herd 15 = .ok (.ldc 97, 2) := by decide +kernel
theorem dX7_herd_17 : decode cX7_herd 17 = .ok (.invokevirtual 40, 3) := by decide +kernel
theorem dX7_herd_20 : decode cX7_herd 20 = .ok (.ifCond .eq 14, 3) := by decide +kernel
theorem dX7_herd_23 : decode cX7_herd 23 = .ok (.aload_n 0, 1) := by decide +kernel
theorem dX7_herd_24 : decode cX7_herd 24 = .ok (.aload_n 1, 1) := by decide +kernel
theorem dX7_herd_25 : decode cX7_herd 25 = .ok (.getfield 98, 3) := by decide +kernel
theorem dX7_herd_28 : decode cX7_herd 28 = .ok (.invokevirtual 74, 3) := by decide +kernel
theorem dX7_herd_31 : decode cX7_herd 31 = .ok (.ifCond .ne 5, 3) := by decide +kernel
theorem dX7_herd_34 : decode cX7_herd 34 = .ok (.iconst 0, 1) := by decide +kernel
theorem dX7_herd_35 : decode cX7_herd 35 = .ok (.ireturn, 1) := by decide +kernel
theorem dX7_herd_36 : decode cX7_herd 36 = .ok (.iconst 0, 1) := by decide +kernel
theorem dX7_herd_37 : decode cX7_herd 37 = .ok (.istore_n 3, 1) := by decide +kernel
theorem dX7_herd_38 : decode cX7_herd 38 = .ok (.iload_n 3, 1) := by decide +kernel
theorem dX7_herd_39 : decode cX7_herd 39 = .ok (.aload_n 1, 1) := by decide +kernel
theorem dX7_herd_40 : decode cX7_herd 40 = .ok (.getfield 66, 3) := by decide +kernel
theorem dX7_herd_43 : decode cX7_herd 43 = .ok (.getfield 69, 3) := by decide +kernel
theorem dX7_herd_46 : decode cX7_herd 46 = .ok (.if_icmp .ge 48, 3) := by decide +kernel
theorem dX7_herd_49 : decode cX7_herd 49 = .ok (.aload_n 0, 1) := by decide +kernel
theorem dX7_herd_50 : decode cX7_herd 50 = .ok (.aload_n 1, 1) := by decide +kernel
theorem dX7_herd_51 : decode cX7_herd 51 = .ok (.getfield 81, 3) := by decide +kernel
theorem dX7_herd_54 : decode cX7_herd 54 = .ok (.iload_n 3, 1) := by decide +kernel
theorem dX7_herd_55 : decode cX7_herd 55 = .ok (.iaload, 1) := by decide +kernel
theorem dX7_herd_56 : decode cX7_herd 56 = .ok (.invokevirtual 78, 3) := by decide +kernel
theorem dX7_herd_59 : decode cX7_herd 59 = .ok (.ifCond .ne 5, 3) := by decide +kernel
theorem dX7_herd_62 : decode cX7_herd 62 = .ok (.iconst 0, 1) := by decide +kernel
theorem dX7_herd_63 : decode cX7_herd 63 = .ok (.ireturn, 1) := by decide +kernel
theorem dX7_herd_64 : decode cX7_herd 64 = .ok (.aload_n 1, 1) := by decide +kernel
theorem dX7_herd_65 : decode cX7_herd 65 = .ok (.getfield 100, 3) := by decide +kernel
theorem dX7_herd_68 : decode cX7_herd 68 = .ok (.iload_n 2, 1) := by decide +kernel
theorem dX7_herd_69 : decode cX7_herd 69 = .ok (.iload_n 3, 1) := by decide +kernel
theorem dX7_herd_70 : decode cX7_herd 70 = .ok (.invokestatic 103, 3) := by decide +kernel
theorem dX7_herd_73 : decode cX7_herd 73 = .ok (.aload_n 0, 1) := by decide +kernel
theorem dX7_herd_74 : decode cX7_herd 74 = .ok (.getfield 12, 3) := by decide +kernel
theorem dX7_herd_77 : decode cX7_herd 77 = .ok (.getfield 85, 3) := by decide +kernel
theorem dX7_herd_80 : decode cX7_herd 80 = .ok (.iastore, 1) := by decide +kernel
theorem dX7_herd_81 : decode cX7_herd 81 = .ok (.aload_n 0, 1) := by decide +kernel
theorem dX7_herd_82 : decode cX7_herd 82 = .ok (.getfield 12, 3) := by decide +kernel
theorem dX7_herd_85 : decode cX7_herd 85 = .ok (.invokevirtual 88, 3) := by decide +kernel
theorem dX7_herd_88 : decode cX7_herd 88 = .ok (.iinc 3 1, 3) := by decide +kernel
theorem dX7_herd_91 : decode cX7_herd 91 = .ok (.goto (-53), 3) := by decide +kernel
theorem dX7_herd_94 : decode cX7_herd 94 = .ok (.aload_n 0, 1) := by decide +kernel
theorem dX7_herd_95 : decode cX7_herd 95 = .ok (.invokevirtual 44, 3) := by decide +kernel
theorem dX7_herd_98 : decode cX7_herd 98 = .ok (.ireturn, 1) := by decide +kernel
theorem dX7_readScript_0 : decode cX7_readScript 0 = .ok (.aload_n 0, 1) := by decide +kernel
theorem dX7_readScript_1 : decode cX7_readScript 1 = .ok (.invokevirtual 31, 3) := by decide +kernel
theorem dX7_readScript_4 : decode cX7_readScript 4 = .ok (.aload_n 2, 1) := by decide +kernel
theorem dX7_readScript_5 : decode cX7_readScript 5 = .ok (.iconst 0, 1) := by decide +kernel
theorem dX7_readScript_6 : decode cX7_readScript 6 = .ok (.putfield 107, 3) := by decide +kernel
theorem dX7_readScript_9 : decode cX7_readScript 9 = .ok (.iconst 0, 1) := by decide +kernel
theorem dX7_readScript_10 : decode cX7_readScript 10 = .ok (.istore_n 3, 1) := by decide +kernel
theorem dX7_readScript_11 : decode cX7_readScript 11 = .ok (.iload_n 3, 1) := by decide +kernel
theorem dX7_readScript_12 : decode cX7_readScript 12 = .ok (.bipush 30, 2) := by decide +kernel
theorem dX7_readScript_14 : decode cX7_readScript 14 = .ok (.if_icmp .ge 30, 3) := by decide +kernel
theorem dX7_readScript_17 : decode cX7_readScript 17 = .ok (.aload_n 0, 1) := by decide +kernel
theorem dX7_readScript_18 : decode cX7_readScript 18 = .ok (.getfield 12, 3) := by decide +kernel
theorem dX7_readScript_21 : decode cX7_readScript 21 = .ok (.getfield 94, 3) := by decide +kernel
theorem dX7_readScript_24 : decode cX7_readScript 24 = .ok (.ifCond .eq 20, 3) := by decide +kernel
theorem dX7_readScript_27 : decode cX7_readScript 27 = .ok (.aload_n 0, 1) := by decide +kernel
theorem dX7_readScript_28 : decode cX7_readScript 28 = .ok (.aload_n 1, 1) := by decide +kernel
theorem dX7_readScript_29 : decode cX7_readScript 29 = .ok (.aload_n 2, 1) := by decide +kernel
theorem dX7_readScript_30 : decode cX7_readScript 30 = .ok (.invokevirtual 112, 3) := by decide +kernel
theorem dX7_readScript_33 : decode cX7_readScript 33 = .ok (.ifCond .ne 5, 3) := by decide +kernel
theorem dX7_readScript_36 : decode cX7_readScript 36 = .ok (.iconst 0, 1) := by decide +kernel
theorem dX7_readScript_37 : decode cX7_readScript 37 = .ok (.ireturn, 1) := by decide +kernel
theorem dX7_readScript_38 : decode cX7_readScript 38 = .ok (.iinc 3 1, 3) := by decide +kernel
theorem dX7_readScript_41 : decode cX7_readScript 41 = .ok (.goto (-30), 3) := by decide +kernel
theorem dX7_readScript_44 : decode cX7_readScript 44 = .ok (.aload_n 0, 1) := by decide +kernel
theorem dX7_readScript_45 : decode cX7_readScript 45 = .ok (.getfield 12, 3) := by decide +kernel
theorem dX7_readScript_48 : decode cX7_readScript 48 = .ok (.getfield 94, 3) := by decide +kernel
theorem dX7_readScript_51 : decode cX7_readScript 51 = .ok (.ifCond .ne 5, 3) := by decide +kernel
theorem dX7_readScript_54 : decode cX7_readScript 54 = .ok (.iconst 1, 1) := by decide +kernel
theorem dX7_readScript_55 : decode cX7_readScript 55 = .ok (.ireturn, 1) := by decide +kernel
theorem dX7_readScript_56 : decode cX7_readScript 56 = .ok (.aload_n 0, 1) := by decide +kernel
theorem dX7_readScript_57 : decode cX7_readScript 57 = .ok (.aload_n 0, 1) := by decide +kernel
theorem dX7_readScript_58 : decode cX7_readScript 58 = .ok (.invokevirtual 116, 3) := by decide +kernel
theorem dX7_readScript_61 : decode cX7_readScript 61 = .ok (.iconst (-1), 1) := by decide +kernel
theorem dX7_readScript_62 : decode cX7_readScript 62 = .ok (.if_icmp .eq 7, 3) := by decide +kernel
theorem dX7_readScript_65 : decode cX7_readScript 65 = .ok (.iconst 4, 1) := by decide +kernel
theorem dX7_readScript_66 : decode cX7_readScript 66 = .ok (.goto 4, 3) := by decide +kernel
theorem dX7_readScript_69 : decode cX7_readScript 69 = .ok (.iconst 1, 1) := by decide +kernel
theorem dX7_readScript_70 : decode cX7_readScript 70 = .ok (.invokevirtual 62, 3) := by decide +kernel
theorem dX7_readScript_73 : decode cX7_readScript 73 = .ok (.ireturn, 1) := by decide +kernel
theorem dX7_commandKind_0 : decode cX7_commandKind 0 = .ok (.iconst 0, 1) := by decide +kernel
theorem dX7_commandKind_1 : decode cX7_commandKind 1 = .ok (.istore_n 1, 1) := by decide +kernel
theorem dX7_commandKind_2 : decode cX7_commandKind 2 = .ok (.iload_n 1, 1) := by decide +kernel
theorem dX7_commandKind_3 : decode cX7_commandKind 3 = .ok (.bipush 7, 2) := by decide +kernel
theorem dX7_commandKind_5 : decode cX7_commandKind 5 = .ok (.if_icmp .ge 25, 3) := by decide +kernel
theorem dX7_commandKind_8 : decode cX7_commandKind 8 = .ok (.aload_n 0, 1) := by decide +kernel
theorem dX7_commandKind_9 : decode cX7_commandKind 9 = .ok (.getfield 12, 3) := by decide +kernel
theorem dX7_commandKind_12 : decode cX7_commandKind 12 = .ok (.iload_n 1, 1) := by decide +kernel
theorem dX7_commandKind_13 : decode cX7_commandKind 13 = .ok (.invokestatic 120, 3) := by decide +kernel
theorem dX7_commandKind_16 : decode cX7_commandKind 16 = .ok (.invokevirtual 59, 3) := by decide +kernel
theorem dX7_commandKind_19 : decode cX7_commandKind 19 = .ok (.ifCond .eq 5, 3) := by decide +kernel
theorem dX7_commandKind_22 : decode cX7_commandKind 22 = .ok (.iload_n 1, 1) := by decide +kernel
theorem dX7_commandKind_23 : decode cX7_commandKind 23 = .ok (.ireturn, 1) := by decide +kernel
theorem dX7_commandKind_24 : decode cX7_commandKind 24 = .ok (.iinc 1 1, 3) := by decide +kernel
theorem dX7_commandKind_27 : decode cX7_commandKind 27 = .ok (.goto (-25), 3) := by decide +kernel
theorem dX7_commandKind_30 : decode cX7_commandKind 30 = .ok (.iconst (-1), 1) := by decide +kernel
theorem dX7_commandKind_31 : decode cX7_commandKind 31 = .ok (.ireturn, 1) := by decide +kernel
theorem dX7_command_0 : decode cX7_command 0 = .ok (.aload_n 0, 1) := by decide +kernel
theorem dX7_command_1 : decode cX7_command 1 = .ok (.invokevirtual 116, 3) := by decide +kernel
theorem dX7_command_4 : decode cX7_command 4 = .ok (.istore_n 3, 1) := by decide +kernel
theorem dX7_command_5 : decode cX7_command 5 = .ok (.iload_n 3, 1) := by decide +kernel
theorem dX7_command_6 : decode cX7_command 6 = .ok (.iconst (-1), 1) := by decide +kernel
theorem dX7_command_7 : decode cX7_command 7 = .ok (.if_icmp .ne 9, 3) := by decide +kernel
theorem dX7_command_10 : decode cX7_command 10 = .ok (.aload_n 0, 1) := by decide +kernel
theorem dX7_command_11 : decode cX7_command 11 = .ok (.iconst 1, 1) := by decide +kernel
theorem dX7_command_12 : decode cX7_command 12 = .ok (.invokevirtual 62, 3) := by decide +kernel
theorem dX7_command_15 : decode cX7_command 15 = .ok (.ireturn, 1) := by decide +kernel
theorem dX7_command_16 : decode cX7_command 16 = .ok (.aload_n 0, 1) := by decide +kernel
theorem dX7_command_17 : decode cX7_command 17 = .ok (.getfield 12, 3) := by decide +kernel
theorem dX7_command_20 : decode cX7_command 20 = .ok (.invokevirtual 88, 3) := by decide +kernel
theorem dX7_command_23 : decode cX7_command 23 = .ok (.aload_n 2, 1) := by decide +kernel
theorem dX7_command_24 : decode cX7_command 24 = .ok (.iload_n 3, 1) := by decide +kernel
theorem dX7_command_25 : decode cX7_command 25 = .ok (.invokevirtual 124, 3) := by decide +kernel
theorem dX7_command_28 : decode cX7_command 28 = .ok (.iload_n 3, 1) := by decide +kernel
theorem dX7_command_29 : decode cX7_command 29 = .ok (.tableswitch 174 0 6 #[43, 43, 174, 174, 91, 91, 139], 43) := by decide +kernel
theorem dX7_command_72 : decode cX7_command 72 = .ok (.aload_n 0, 1) := by decide +kernel
theorem dX7_command_73 : decode cX7_command 73 = .ok (.aload_n 1, 1) := by decide +kernel
theorem dX7_command_74 : decode cX7_command 74 = .ok (.getfield 98, 3) := by decide +kernel
theorem dX7_command_77 : decode cX7_command 77 = .ok (.aload_n 2, 1) := by decide +kernel
theorem dX7_command_78 : decode cX7_command 78 = .ok (.iconst 0, 1) := by decide +kernel
theorem dX7_command_79 : decode cX7_command 79 = .ok (.invokevirtual 128, 3) := by decide +kernel
theorem dX7_command_82 : decode cX7_command 82 = .ok (.ifCond .eq 36, 3) := by decide +kernel
theorem dX7_command_85 : decode cX7_command 85 = .ok (.aload_n 0, 1) := by decide +kernel
theorem dX7_command_86 : decode cX7_command 86 = .ok (.aload_n 1, 1) := by decide +kernel
theorem dX7_command_87 : decode cX7_command 87 = .ok (.getfield 66, 3) := by decide +kernel
theorem dX7_command_90 : decode cX7_command 90 = .ok (.aload_n 2, 1) := by decide +kernel
theorem dX7_command_91 : decode cX7_command 91 = .ok (.iconst 1, 1) := by decide +kernel
theorem dX7_command_92 : decode cX7_command 92 = .ok (.invokevirtual 128, 3) := by decide +kernel
theorem dX7_command_95 : decode cX7_command 95 = .ok (.ifCond .eq 23, 3) := by decide +kernel
theorem dX7_command_98 : decode cX7_command 98 = .ok (.aload_n 0, 1) := by decide +kernel
theorem dX7_command_99 : decode cX7_command 99 = .ok (.aload_n 2, 1) := by decide +kernel
theorem dX7_command_100 : decode cX7_command 100 = .ok (.iconst 2, 1) := by decide +kernel
theorem dX7_command_101 : decode cX7_command 101 = .ok (.invokevirtual 132, 3) := by decide +kernel
theorem dX7_command_104 : decode cX7_command 104 = .ok (.ifCond .eq 14, 3) := by decide +kernel
theorem dX7_command_107 : decode cX7_command 107 = .ok (.aload_n 0, 1) := by decide +kernel
theorem dX7_command_108 : decode cX7_command 108 = .ok (.invokevirtual 44, 3) := by decide +kernel
theorem dX7_command_111 : decode cX7_command 111 = .ok (.ifCond .eq 7, 3) := by decide +kernel
theorem dX7_command_114 : decode cX7_command 114 = .ok (.iconst 1, 1) := by decide +kernel
theorem dX7_command_115 : decode cX7_command 115 = .ok (.goto 4, 3) := by decide +kernel
theorem dX7_command_118 : decode cX7_command 118 = .ok (.iconst 0, 1) := by decide +kernel
theorem dX7_command_119 : decode cX7_command 119 = .ok (.ireturn, 1) := by decide +kernel
theorem dX7_command_120 : decode cX7_command 120 = .ok (.aload_n 0, 1) := by decide +kernel
theorem dX7_command_121 : decode cX7_command 121 = .ok (.aload_n 1, 1) := by decide +kernel
theorem dX7_command_122 : decode cX7_command 122 = .ok (.getfield 98, 3) := by decide +kernel
theorem dX7_command_125 : decode cX7_command 125 = .ok (.aload_n 2, 1) := by decide +kernel
theorem dX7_command_126 : decode cX7_command 126 = .ok (.iconst 0, 1) := by decide +kernel
theorem dX7_command_127 : decode cX7_command 127 = .ok (.invokevirtual 128, 3) := by decide +kernel
theorem dX7_command_130 : decode cX7_command 130 = .ok (.ifCond .eq 36, 3) := by decide +kernel
theorem dX7_command_133 : decode cX7_command 133 = .ok (.aload_n 0, 1) := by decide +kernel
theorem dX7_command_134 : decode cX7_command 134 = .ok (.aload_n 1, 1) := by decide +kernel
theorem dX7_command_135 : decode cX7_command 135 = .ok (.getfield 98, 3) := by decide +kernel
theorem dX7_command_138 : decode cX7_command 138 = .ok (.aload_n 2, 1) := by decide +kernel
theorem dX7_command_139 : decode cX7_command 139 = .ok (.iconst 1, 1) := by decide +kernel
theorem dX7_command_140 : decode cX7_command 140 = .ok (.invokevirtual 128, 3) := by decide +kernel
theorem dX7_command_143 : decode cX7_command 143 = .ok (.ifCond .eq 23, 3) := by decide +kernel
theorem dX7_command_146 : decode cX7_command 146 = .ok (.aload_n 0, 1) := by decide +kernel
theorem dX7_command_147 : decode cX7_command 147 = .ok (.aload_n 2, 1) := by decide +kernel
theorem dX7_command_148 : decode cX7_command 148 = .ok (.iconst 2, 1) := by decide +kernel
theorem dX7_command_149 : decode cX7_command 149 = .ok (.invokevirtual 132, 3) := by decide +kernel
theorem dX7_command_152 : decode cX7_command 152 = .ok (.ifCond .eq 14, 3) := by decide +kernel
theorem dX7_command_155 : decode cX7_command 155 = .ok (.aload_n 0, 1) := by decide +kernel
theorem dX7_command_156 : decode cX7_command 156 = .ok (.invokevirtual 44, 3) := by decide +kernel
theorem dX7_command_159 : decode cX7_command 159 = .ok (.ifCond .eq 7, 3) := by decide +kernel
theorem dX7_command_162 : decode cX7_command 162 = .ok (.iconst 1, 1) := by decide +kernel
theorem dX7_command_163 : decode cX7_command 163 = .ok (.goto 4, 3) := by decide +kernel
theorem dX7_command_166 : decode cX7_command 166 = .ok (.iconst 0, 1) := by decide +kernel
theorem dX7_command_167 : decode cX7_command 167 = .ok (.ireturn, 1) := by decide +kernel
theorem dX7_command_168 : decode cX7_command 168 = .ok (.aload_n 0, 1) := by decide +kernel
theorem dX7_command_169 : decode cX7_command 169 = .ok (.aload_n 1, 1) := by decide +kernel
theorem dX7_command_170 : decode cX7_command 170 = .ok (.getfield 66, 3) := by decide +kernel
theorem dX7_command_173 : decode cX7_command 173 = .ok (.aload_n 2, 1) := by decide +kernel
theorem dX7_command_174 : decode cX7_command 174 = .ok (.iconst 0, 1) := by decide +kernel
theorem dX7_command_175 : decode cX7_command 175 = .ok (.invokevirtual 128, 3) := by decide +kernel
theorem dX7_command_178 : decode cX7_command 178 = .ok (.ifCond .eq 23, 3) := by decide +kernel
theorem dX7_command_181 : decode cX7_command 181 = .ok (.aload_n 0, 1) := by decide +kernel
theorem dX7_command_182 : decode cX7_command 182 = .ok (.aload_n 2, 1) := by decide +kernel
theorem dX7_command_183 : decode cX7_command 183 = .ok (.iconst 1, 1) := by decide +kernel
theorem dX7_command_184 : decode cX7_command 184 = .ok (.invokevirtual 132, 3) := by decide +kernel
theorem dX7_command_187 : decode cX7_command 187 = .ok (.ifCond .eq 14, 3) := by decide +kernel
theorem dX7_command_190 : decode cX7_command 190 = .ok (.aload_n 0, 1) := by decide +kernel
theorem dX7_command_191 : decode cX7_command 191 = .ok (.invokevirtual 44, 3) := by decide +kernel
theorem dX7_command_194 : decode cX7_command 194 = .ok (.ifCond .eq 7, 3) := by decide +kernel
theorem dX7_command_197 : decode cX7_command 197 = .ok (.iconst 1, 1) := by decide +kernel
theorem dX7_command_198 : decode cX7_command 198 = .ok (.goto 4, 3) := by decide +kernel
theorem dX7_command_201 : decode cX7_command 201 = .ok (.iconst 0, 1) := by decide +kernel
theorem dX7_command_202 : decode cX7_command 202 = .ok (.ireturn, 1) := by decide +kernel
theorem dX7_command_203 : decode cX7_command 203 = .ok (.aload_n 0, 1) := by decide +kernel
theorem dX7_command_204 : decode cX7_command 204 = .ok (.aload_n 1, 1) := by decide +kernel
theorem dX7_command_205 : decode cX7_command 205 = .ok (.getfield 98, 3) := by decide +kernel
theorem dX7_command_208 : decode cX7_command 208 = .ok (.aload_n 2, 1) := by decide +kernel
theorem dX7_command_209 : decode cX7_command 209 = .ok (.iconst 0, 1) := by decide +kernel
theorem dX7_command_210 : decode cX7_command 210 = .ok (.invokevirtual 128, 3) := by decide +kernel
theorem dX7_command_213 : decode cX7_command 213 = .ok (.ifCond .eq 14, 3) := by decide +kernel
theorem dX7_command_216 : decode cX7_command 216 = .ok (.aload_n 0, 1) := by decide +kernel
theorem dX7_command_217 : decode cX7_command 217 = .ok (.invokevirtual 44, 3) := by decide +kernel
theorem dX7_command_220 : decode cX7_command 220 = .ok (.ifCond .eq 7, 3) := by decide +kernel
theorem dX7_command_223 : decode cX7_command 223 = .ok (.iconst 1, 1) := by decide +kernel
theorem dX7_command_224 : decode cX7_command 224 = .ok (.goto 4, 3) := by decide +kernel
theorem dX7_command_227 : decode cX7_command 227 = .ok (.iconst 0, 1) := by decide +kernel
theorem dX7_command_228 : decode cX7_command 228 = .ok (.ireturn, 1) := by decide +kernel
theorem dX7_keyword_0 : decode cX7_keyword 0 = .ok (.aload_n 0, 1) := by decide +kernel
theorem dX7_keyword_1 : decode cX7_keyword 1 = .ok (.getfield 12, 3) := by decide +kernel
theorem dX7_keyword_4 : decode cX7_keyword 4 = .ok (.aload_n 1, 1) := by decide +kernel
theorem dX7_keyword_5 : decode cX7_keyword 5 = .ok (.invokevirtual 59, 3) := by decide +kernel
theorem dX7_keyword_8 : decode cX7_keyword 8 = .ok (.ifCond .ne 9, 3) := by decide +kernel
theorem dX7_keyword_11 : decode cX7_keyword 11 = .ok (.aload_n 0, 1) := by decide +kernel
theorem dX7_keyword_12 : decode cX7_keyword 12 = .ok (.iconst 1, 1) := by decide +kernel
theorem dX7_keyword_13 : decode cX7_keyword 13 = .ok (.invokevirtual 62, 3) := by decide +kernel
theorem dX7_keyword_16 : decode cX7_keyword 16 = .ok (.ireturn, 1) := by decide +kernel
theorem dX7_keyword_17 : decode cX7_keyword 17 = .ok (.aload_n 0, 1) := by decide +kernel
theorem dX7_keyword_18 : decode cX7_keyword 18 = .ok (.getfield 12, 3) := by decide +kernel
theorem dX7_keyword_21 : decode cX7_keyword 21 = .ok (.invokevirtual 88, 3) := by decide +kernel
theorem dX7_keyword_24 : decode cX7_keyword 24 = .ok (.iconst 1, 1) := by decide +kernel
theorem dX7_keyword_25 : decode cX7_keyword 25 = .ok (.ireturn, 1) := by decide +kernel
theorem dX7_semicolon_0 : decode cX7_semicolon 0 = .ok (.aload_n 0, 1) := by decide +kernel
theorem dX7_semicolon_1 : decode cX7_semicolon 1 = .ok (.getfield 12, 3) := by decide +kernel
theorem dX7_semicolon_4 : decode cX7_semicolon 4 = .ok (.getfield 94, 3) := by decide +kernel
theorem dX7_semicolon_7 : decode cX7_semicolon 7 = .ok (.iconst 3, 1) := by decide +kernel
theorem dX7_semicolon_8 : decode cX7_semicolon 8 = .ok (.if_icmp .eq 9, 3) := by decide +kernel
theorem dX7_semicolon_11 : decode cX7_semicolon 11 = .ok (.aload_n 0, 1) := by decide +kernel
theorem dX7_semicolon_12 : decode cX7_semicolon 12 = .ok (.iconst 1, 1) := by decide +kernel
theorem dX7_semicolon_13 : decode cX7_semicolon 13 = .ok (.invokevirtual 62, 3) := by decide +kernel
theorem dX7_semicolon_16 : decode cX7_semicolon 16 = .ok (.ireturn, 1) := by decide +kernel
theorem dX7_semicolon_17 : decode cX7_semicolon 17 = .ok (.aload_n 0, 1) := by decide +kernel
theorem dX7_semicolon_18 : decode cX7_semicolon 18 = .ok (.getfield 12, 3) := by decide +kernel
theorem dX7_semicolon_21 : decode cX7_semicolon 21 = .ok (.invokevirtual 88, 3) := by decide +kernel
theorem dX7_semicolon_24 : decode cX7_semicolon 24 = .ok (.iconst 1, 1) := by decide +kernel
theorem dX7_semicolon_25 : decode cX7_semicolon 25 = .ok (.ireturn, 1) := by decide +kernel
theorem dX7_numberUpTo_0 : decode cX7_numberUpTo 0 = .ok (.aload_n 0, 1) := by decide +kernel
theorem dX7_numberUpTo_1 : decode cX7_numberUpTo 1 = .ok (.getfield 12, 3) := by decide +kernel
theorem dX7_numberUpTo_4 : decode cX7_numberUpTo 4 = .ok (.getfield 94, 3) := by decide +kernel
theorem dX7_numberUpTo_7 : decode cX7_numberUpTo 7 = .ok (.iconst 2, 1) := by decide +kernel
theorem dX7_numberUpTo_8 : decode cX7_numberUpTo 8 = .ok (.if_icmp .eq 9, 3) := by decide +kernel
theorem dX7_numberUpTo_11 : decode cX7_numberUpTo 11 = .ok (.aload_n 0, 1) := by decide +kernel
theorem dX7_numberUpTo_12 : decode cX7_numberUpTo 12 = .ok (.iconst 1, 1) := by decide +kernel
theorem dX7_numberUpTo_13 : decode cX7_numberUpTo 13 = .ok (.invokevirtual 62, 3) := by decide +kernel
theorem dX7_numberUpTo_16 : decode cX7_numberUpTo 16 = .ok (.ireturn, 1) := by decide +kernel
theorem dX7_numberUpTo_17 : decode cX7_numberUpTo 17 = .ok (.aload_n 0, 1) := by decide +kernel
theorem dX7_numberUpTo_18 : decode cX7_numberUpTo 18 = .ok (.getfield 12, 3) := by decide +kernel
theorem dX7_numberUpTo_21 : decode cX7_numberUpTo 21 = .ok (.getfield 85, 3) := by decide +kernel
theorem dX7_numberUpTo_24 : decode cX7_numberUpTo 24 = .ok (.iload_n 1, 1) := by decide +kernel
theorem dX7_numberUpTo_25 : decode cX7_numberUpTo 25 = .ok (.if_icmp .le 11, 3) := by decide +kernel
theorem dX7_numberUpTo_28 : decode cX7_numberUpTo 28 = .ok (.aload_n 0, 1) := by decide +kernel
theorem dX7_numberUpTo_29 : decode cX7_numberUpTo 29 = .ok (.iconst 2, 1) := by decide +kernel
theorem dX7_numberUpTo_30 : decode cX7_numberUpTo 30 = .ok (.invokevirtual 62, 3) := by decide +kernel
theorem dX7_numberUpTo_33 : decode cX7_numberUpTo 33 = .ok (.ifCond .eq 7, 3) := by decide +kernel
theorem dX7_numberUpTo_36 : decode cX7_numberUpTo 36 = .ok (.iconst 1, 1) := by decide +kernel
theorem dX7_numberUpTo_37 : decode cX7_numberUpTo 37 = .ok (.goto 4, 3) := by decide +kernel
theorem dX7_numberUpTo_40 : decode cX7_numberUpTo 40 = .ok (.iconst 0, 1) := by decide +kernel
theorem dX7_numberUpTo_41 : decode cX7_numberUpTo 41 = .ok (.ireturn, 1) := by decide +kernel
theorem dX7_newName_0 : decode cX7_newName 0 = .ok (.aload_n 0, 1) := by decide +kernel
theorem dX7_newName_1 : decode cX7_newName 1 = .ok (.getfield 12, 3) := by decide +kernel
theorem dX7_newName_4 : decode cX7_newName 4 = .ok (.getfield 94, 3) := by decide +kernel
theorem dX7_newName_7 : decode cX7_newName 7 = .ok (.iconst 1, 1) := by decide +kernel
theorem dX7_newName_8 : decode cX7_newName 8 = .ok (.if_icmp .eq 9, 3) := by decide +kernel
theorem dX7_newName_11 : decode cX7_newName 11 = .ok (.aload_n 0, 1) := by decide +kernel
theorem dX7_newName_12 : decode cX7_newName 12 = .ok (.iconst 1, 1) := by decide +kernel
theorem dX7_newName_13 : decode cX7_newName 13 = .ok (.invokevirtual 62, 3) := by decide +kernel
theorem dX7_newName_16 : decode cX7_newName 16 = .ok (.ireturn, 1) := by decide +kernel
theorem dX7_newName_17 : decode cX7_newName 17 = .ok (.aload_n 0, 1) := by decide +kernel
theorem dX7_newName_18 : decode cX7_newName 18 = .ok (.getfield 12, 3) := by decide +kernel
theorem dX7_newName_21 : decode cX7_newName 21 = .ok (.getfield 136, 3) := by decide +kernel
theorem dX7_newName_24 : decode cX7_newName 24 = .ok (.aload_n 0, 1) := by decide +kernel
theorem dX7_newName_25 : decode cX7_newName 25 = .ok (.getfield 12, 3) := by decide +kernel
theorem dX7_newName_28 : decode cX7_newName 28 = .ok (.getfield 28, 3) := by decide +kernel
theorem dX7_newName_31 : decode cX7_newName 31 = .ok (.isub, 1) := by decide +kernel
theorem dX7_newName_32 : decode cX7_newName 32 = .ok (.istore_n 2, 1) := by decide +kernel
theorem dX7_newName_33 : decode cX7_newName 33 = .ok (.iload_n 2, 1) := by decide +kernel
theorem dX7_newName_34 : decode cX7_newName 34 = .ok (.bipush 6, 2) := by decide +kernel
theorem dX7_newName_36 : decode cX7_newName 36 = .ok (.if_icmp .gt 26, 3) := by decide +kernel
theorem dX7_newName_39 : decode cX7_newName 39 = .ok (.aload_n 1, 1) := by decide +kernel
theorem dX7_newName_40 : decode cX7_newName 40 = .ok (.aload_n 0, 1) := by decide +kernel
theorem dX7_newName_41 : decode cX7_newName 41 = .ok (.getfield 12, 3) := by decide +kernel
theorem dX7_newName_44 : decode cX7_newName 44 = .ok (.getfield 139, 3) := by decide +kernel
theorem dX7_newName_47 : decode cX7_newName 47 = .ok (.aload_n 0, 1) := by decide +kernel
theorem dX7_newName_48 : decode cX7_newName 48 = .ok (.getfield 12, 3) := by decide +kernel
theorem dX7_newName_51 : decode cX7_newName 51 = .ok (.getfield 28, 3) := by decide +kernel
theorem dX7_newName_54 : decode cX7_newName 54 = .ok (.iload_n 2, 1) := by decide +kernel
theorem dX7_newName_55 : decode cX7_newName 55 = .ok (.invokevirtual 143, 3) := by decide +kernel
theorem dX7_newName_58 : decode cX7_newName 58 = .ok (.iconst (-1), 1) := by decide +kernel
theorem dX7_newName_59 : decode cX7_newName 59 = .ok (.if_icmp .eq 9, 3) := by decide +kernel
theorem dX7_newName_62 : decode cX7_newName 62 = .ok (.aload_n 0, 1) := by decide +kernel
theorem dX7_newName_63 : decode cX7_newName 63 = .ok (.iconst 3, 1) := by decide +kernel
theorem dX7_newName_64 : decode cX7_newName 64 = .ok (.invokevirtual 62, 3) := by decide +kernel
theorem dX7_newName_67 : decode cX7_newName 67 = .ok (.ireturn, 1) := by decide +kernel
theorem dX7_newName_68 : decode cX7_newName 68 = .ok (.aload_n 1, 1) := by decide +kernel
theorem dX7_newName_69 : decode cX7_newName 69 = .ok (.aload_n 0, 1) := by decide +kernel
theorem dX7_newName_70 : decode cX7_newName 70 = .ok (.getfield 12, 3) := by decide +kernel
theorem dX7_newName_73 : decode cX7_newName 73 = .ok (.getfield 139, 3) := by decide +kernel
theorem dX7_newName_76 : decode cX7_newName 76 = .ok (.aload_n 0, 1) := by decide +kernel
theorem dX7_newName_77 : decode cX7_newName 77 = .ok (.getfield 12, 3) := by decide +kernel
theorem dX7_newName_80 : decode cX7_newName 80 = .ok (.getfield 28, 3) := by decide +kernel
theorem dX7_newName_83 : decode cX7_newName 83 = .ok (.iload_n 2, 1) := by decide +kernel
theorem dX7_newName_84 : decode cX7_newName 84 = .ok (.invokevirtual 147, 3) := by decide +kernel
theorem dX7_newName_87 : decode cX7_newName 87 = .ok (.aload_n 0, 1) := by decide +kernel
theorem dX7_newName_88 : decode cX7_newName 88 = .ok (.getfield 12, 3) := by decide +kernel
theorem dX7_newName_91 : decode cX7_newName 91 = .ok (.invokevirtual 88, 3) := by decide +kernel
theorem dX7_newName_94 : decode cX7_newName 94 = .ok (.iconst 1, 1) := by decide +kernel
theorem dX7_newName_95 : decode cX7_newName 95 = .ok (.ireturn, 1) := by decide +kernel
theorem dX7_name_0 : decode cX7_name 0 = .ok (.aload_n 0, 1) := by decide +kernel
theorem dX7_name_1 : decode cX7_name 1 = .ok (.getfield 12, 3) := by decide +kernel
theorem dX7_name_4 : decode cX7_name 4 = .ok (.getfield 94, 3) := by decide +kernel
theorem dX7_name_7 : decode cX7_name 7 = .ok (.iconst 1, 1) := by decide +kernel
theorem dX7_name_8 : decode cX7_name 8 = .ok (.if_icmp .eq 9, 3) := by decide +kernel
theorem dX7_name_11 : decode cX7_name 11 = .ok (.aload_n 0, 1) := by decide +kernel
theorem dX7_name_12 : decode cX7_name 12 = .ok (.iconst 1, 1) := by decide +kernel
theorem dX7_name_13 : decode cX7_name 13 = .ok (.invokevirtual 62, 3) := by decide +kernel
theorem dX7_name_16 : decode cX7_name 16 = .ok (.ireturn, 1) := by decide +kernel
theorem dX7_name_17 : decode cX7_name 17 = .ok (.aload_n 1, 1) := by decide +kernel
theorem dX7_name_18 : decode cX7_name 18 = .ok (.aload_n 0, 1) := by decide +kernel
theorem dX7_name_19 : decode cX7_name 19 = .ok (.getfield 12, 3) := by decide +kernel
theorem dX7_name_22 : decode cX7_name 22 = .ok (.getfield 139, 3) := by decide +kernel
theorem dX7_name_25 : decode cX7_name 25 = .ok (.aload_n 0, 1) := by decide +kernel
theorem dX7_name_26 : decode cX7_name 26 = .ok (.getfield 12, 3) := by decide +kernel
theorem dX7_name_29 : decode cX7_name 29 = .ok (.getfield 28, 3) := by decide +kernel
theorem dX7_name_32 : decode cX7_name 32 = .ok (.aload_n 0, 1) := by decide +kernel
theorem dX7_name_33 : decode cX7_name 33 = .ok (.getfield 12, 3) := by decide +kernel
theorem dX7_name_36 : decode cX7_name 36 = .ok (.getfield 136, 3) := by decide +kernel
theorem dX7_name_39 : decode cX7_name 39 = .ok (.aload_n 0, 1) := by decide +kernel
theorem dX7_name_40 : decode cX7_name 40 = .ok (.getfield 12, 3) := by decide +kernel
theorem dX7_name_43 : decode cX7_name 43 = .ok (.getfield 28, 3) := by decide +kernel
theorem dX7_name_46 : decode cX7_name 46 = .ok (.isub, 1) := by decide +kernel
theorem dX7_name_47 : decode cX7_name 47 = .ok (.invokevirtual 143, 3) := by decide +kernel
theorem dX7_name_50 : decode cX7_name 50 = .ok (.istore 4, 2) := by decide +kernel
theorem dX7_name_52 : decode cX7_name 52 = .ok (.iload 4, 2) := by decide +kernel
theorem dX7_name_54 : decode cX7_name 54 = .ok (.iconst (-1), 1) := by decide +kernel
theorem dX7_name_55 : decode cX7_name 55 = .ok (.if_icmp .ne 9, 3) := by decide +kernel
theorem dX7_name_58 : decode cX7_name 58 = .ok (.aload_n 0, 1) := by decide +kernel
theorem dX7_name_59 : decode cX7_name 59 = .ok (.iconst 3, 1) := by decide +kernel
theorem dX7_name_60 : decode cX7_name 60 = .ok (.invokevirtual 62, 3) := by decide +kernel
theorem dX7_name_63 : decode cX7_name 63 = .ok (.ireturn, 1) := by decide +kernel
theorem dX7_name_64 : decode cX7_name 64 = .ok (.aload_n 2, 1) := by decide +kernel
theorem dX7_name_65 : decode cX7_name 65 = .ok (.iload_n 3, 1) := by decide +kernel
theorem dX7_name_66 : decode cX7_name 66 = .ok (.iload 4, 2) := by decide +kernel
theorem dX7_name_68 : decode cX7_name 68 = .ok (.invokevirtual 150, 3) := by decide +kernel
theorem dX7_name_71 : decode cX7_name 71 = .ok (.aload_n 0, 1) := by decide +kernel
theorem dX7_name_72 : decode cX7_name 72 = .ok (.getfield 12, 3) := by decide +kernel
theorem dX7_name_75 : decode cX7_name 75 = .ok (.invokevirtual 88, 3) := by decide +kernel
theorem dX7_name_78 : decode cX7_name 78 = .ok (.iconst 1, 1) := by decide +kernel
theorem dX7_name_79 : decode cX7_name 79 = .ok (.ireturn, 1) := by decide +kernel
theorem dX7_number_0 : decode cX7_number 0 = .ok (.aload_n 0, 1) := by decide +kernel
theorem dX7_number_1 : decode cX7_number 1 = .ok (.getfield 12, 3) := by decide +kernel
theorem dX7_number_4 : decode cX7_number 4 = .ok (.getfield 94, 3) := by decide +kernel
theorem dX7_number_7 : decode cX7_number 7 = .ok (.iconst 2, 1) := by decide +kernel
theorem dX7_number_8 : decode cX7_number 8 = .ok (.if_icmp .eq 9, 3) := by decide +kernel
theorem dX7_number_11 : decode cX7_number 11 = .ok (.aload_n 0, 1) := by decide +kernel
theorem dX7_number_12 : decode cX7_number 12 = .ok (.iconst 1, 1) := by decide +kernel
theorem dX7_number_13 : decode cX7_number 13 = .ok (.invokevirtual 62, 3) := by decide +kernel
theorem dX7_number_16 : decode cX7_number 16 = .ok (.ireturn, 1) := by decide +kernel
theorem dX7_number_17 : decode cX7_number 17 = .ok (.aload_n 1, 1) := by decide +kernel
theorem dX7_number_18 : decode cX7_number 18 = .ok (.iload_n 2, 1) := by decide +kernel
theorem dX7_number_19 : decode cX7_number 19 = .ok (.aload_n 0, 1) := by decide +kernel
theorem dX7_number_20 : decode cX7_number 20 = .ok (.getfield 12, 3) := by decide +kernel
theorem dX7_number_23 : decode cX7_number 23 = .ok (.getfield 85, 3) := by decide +kernel
theorem dX7_number_26 : decode cX7_number 26 = .ok (.invokevirtual 150, 3) := by decide +kernel
theorem dX7_number_29 : decode cX7_number 29 = .ok (.aload_n 0, 1) := by decide +kernel
theorem dX7_number_30 : decode cX7_number 30 = .ok (.getfield 12, 3) := by decide +kernel
theorem dX7_number_33 : decode cX7_number 33 = .ok (.invokevirtual 88, 3) := by decide +kernel
theorem dX7_number_36 : decode cX7_number 36 = .ok (.iconst 1, 1) := by decide +kernel
theorem dX7_number_37 : decode cX7_number 37 = .ok (.ireturn, 1) := by decide +kernel
theorem dX8_init_0 : decode cX8_init 0 = .ok (.aload_n 0, 1) := by decide +kernel
theorem dX8_init_1 : decode cX8_init 1 = .ok (.invokespecial 3, 3) := by decide +kernel
theorem dX8_init_4 : decode cX8_init 4 = .ok (.aload_n 0, 1) := by decide +kernel
theorem dX8_init_5 : decode cX8_init 5 = .ok (.bipush 30, 2) := by decide +kernel
theorem dX8_init_7 : decode cX8_init 7 = .ok (.newarray .int, 2) := by decide +kernel
theorem dX8_init_9 : decode cX8_init 9 = .ok (.putfield 9, 3) := by decide +kernel
theorem dX8_init_12 : decode cX8_init 12 = .ok (.aload_n 0, 1) := by decide +kernel
theorem dX8_init_13 : decode cX8_init 13 = .ok (.bipush 90, 2) := by decide +kernel
theorem dX8_init_15 : decode cX8_init 15 = .ok (.newarray .int, 2) := by decide +kernel
theorem dX8_init_17 : decode cX8_init 17 = .ok (.putfield 15, 3) := by decide +kernel
theorem dX8_init_20 : decode cX8_init 20 = .ok (.return_, 1) := by decide +kernel
theorem dX8_word_0 : decode cX8_word 0 = .ok (.iload_n 0, 1) := by decide +kernel
theorem dX8_word_1 : decode cX8_word 1 = .ok (.tableswitch 57 0 5 #[39, 42, 45, 48, 51, 54], 39) := by decide +kernel
theorem dX8_word_40 : decode cX8_word 40 = .ok (.ldc 18, 2) := by decide +kernel
theorem dX8_word_42 : decode cX8_word 42 = .ok (.areturn, 1) := by decide +kernel
theorem dX8_word_43 : decode cX8_word 43 = .ok (.ldc 20, 2) := by decide +kernel
theorem dX8_word_45 : decode cX8_word 45 = .ok (.areturn, 1) := by decide +kernel
theorem dX8_word_46 : decode cX8_word 46 = .ok (.ldc 22, 2) := by decide +kernel
theorem dX8_word_48 : decode cX8_word 48 = .ok (.areturn, 1) := by decide +kernel
theorem dX8_word_49 : decode cX8_word 49 = .ok (.ldc 24, 2) := by decide +kernel
theorem dX8_word_51 : decode cX8_word 51 = .ok (.areturn, 1) := by decide +kernel
theorem dX8_word_52 : decode cX8_word 52 = .ok (.ldc 26, 2) := by decide +kernel
theorem dX8_word_54 : decode cX8_word 54 = .ok (.areturn, 1) := by decide +kernel
theorem dX8_word_55 : decode cX8_word 55 = .ok (.ldc 28, 2) := by decide +kernel
theorem dX8_word_57 : decode cX8_word 57 = .ok (.areturn, 1) := by decide +kernel
theorem dX8_word_58 : decode cX8_word 58 = .ok (.ldc 30, 2) := by decide +kernel
theorem dX8_word_60 : decode cX8_word 60 = .ok (.areturn, 1) := by decide +kernel
theorem dX8_add_0 : decode cX8_add 0 = .ok (.aload_n 0, 1) := by decide +kernel
theorem dX8_add_1 : decode cX8_add 1 = .ok (.getfield 32, 3) := by decide +kernel
theorem dX8_add_4 : decode cX8_add 4 = .ok (.bipush 30, 2) := by decide +kernel
theorem dX8_add_6 : decode cX8_add 6 = .ok (.if_icmp .ge 23, 3) := by decide +kernel
theorem dX8_add_9 : decode cX8_add 9 = .ok (.aload_n 0, 1) := by decide +kernel
theorem dX8_add_10 : decode cX8_add 10 = .ok (.getfield 9, 3) := by decide +kernel
theorem dX8_add_13 : decode cX8_add 13 = .ok (.aload_n 0, 1) := by decide +kernel
theorem dX8_add_14 : decode cX8_add 14 = .ok (.getfield 32, 3) := by decide +kernel
theorem dX8_add_17 : decode cX8_add 17 = .ok (.iload_n 1, 1) := by decide +kernel
theorem dX8_add_18 : decode cX8_add 18 = .ok (.iastore, 1) := by decide +kernel
theorem dX8_add_19 : decode cX8_add 19 = .ok (.aload_n 0, 1) := by decide +kernel
theorem dX8_add_20 : decode cX8_add 20 = .ok (.dup, 1) := by decide +kernel
theorem dX8_add_21 : decode cX8_add 21 = .ok (.getfield 32, 3) := by decide +kernel
theorem dX8_add_24 : decode cX8_add 24 = .ok (.iconst 1, 1) := by decide +kernel
theorem dX8_add_25 : decode cX8_add 25 = .ok (.iadd, 1) := by decide +kernel
theorem dX8_add_26 : decode cX8_add 26 = .ok (.putfield 32, 3) := by decide +kernel
theorem dX8_add_29 : decode cX8_add 29 = .ok (.return_, 1) := by decide +kernel
theorem dX8_setArgument_0 : decode cX8_setArgument 0 = .ok (.aload_n 0, 1) := by decide +kernel
theorem dX8_setArgument_1 : decode cX8_setArgument 1 = .ok (.getfield 32, 3) := by decide +kernel
theorem dX8_setArgument_4 : decode cX8_setArgument 4 = .ok (.ifCond .le 19, 3) := by decide +kernel
theorem dX8_setArgument_7 : decode cX8_setArgument 7 = .ok (.aload_n 0, 1) := by decide +kernel
theorem dX8_setArgument_8 : decode cX8_setArgument 8 = .ok (.getfield 15, 3) := by decide +kernel
theorem dX8_setArgument_11 : decode cX8_setArgument 11 = .ok (.aload_n 0, 1) := by decide +kernel
theorem dX8_setArgument_12 : decode cX8_setArgument 12 = .ok (.getfield 32, 3) := by decide +kernel
theorem dX8_setArgument_15 : decode cX8_setArgument 15 = .ok (.iconst 1, 1) := by decide +kernel
theorem dX8_setArgument_16 : decode cX8_setArgument 16 = .ok (.isub, 1) := by decide +kernel
theorem dX8_setArgument_17 : decode cX8_setArgument 17 = .ok (.iconst 3, 1) := by decide +kernel
theorem dX8_setArgument_18 : decode cX8_setArgument 18 = .ok (.imul, 1) := by decide +kernel
theorem dX8_setArgument_19 : decode cX8_setArgument 19 = .ok (.iload_n 1, 1) := by decide +kernel
theorem dX8_setArgument_20 : decode cX8_setArgument 20 = .ok (.iadd, 1) := by decide +kernel
theorem dX8_setArgument_21 : decode cX8_setArgument 21 = .ok (.iload_n 2, 1) := by decide +kernel
theorem dX8_setArgument_22 : decode cX8_setArgument 22 = .ok (.iastore, 1) := by decide +kernel
theorem dX8_setArgument_23 : decode cX8_setArgument 23 = .ok (.return_, 1) := by decide +kernel
theorem dX8_kind_0 : decode cX8_kind 0 = .ok (.aload_n 0, 1) := by decide +kernel
theorem dX8_kind_1 : decode cX8_kind 1 = .ok (.getfield 9, 3) := by decide +kernel
theorem dX8_kind_4 : decode cX8_kind 4 = .ok (.iload_n 1, 1) := by decide +kernel
theorem dX8_kind_5 : decode cX8_kind 5 = .ok (.iaload, 1) := by decide +kernel
theorem dX8_kind_6 : decode cX8_kind 6 = .ok (.ireturn, 1) := by decide +kernel
theorem dX8_argument_0 : decode cX8_argument 0 = .ok (.aload_n 0, 1) := by decide +kernel
theorem dX8_argument_1 : decode cX8_argument 1 = .ok (.getfield 15, 3) := by decide +kernel
theorem dX8_argument_4 : decode cX8_argument 4 = .ok (.iload_n 1, 1) := by decide +kernel
theorem dX8_argument_5 : decode cX8_argument 5 = .ok (.iconst 3, 1) := by decide +kernel
theorem dX8_argument_6 : decode cX8_argument 6 = .ok (.imul, 1) := by decide +kernel
theorem dX8_argument_7 : decode cX8_argument 7 = .ok (.iload_n 2, 1) := by decide +kernel
theorem dX8_argument_8 : decode cX8_argument 8 = .ok (.iadd, 1) := by decide +kernel
theorem dX8_argument_9 : decode cX8_argument 9 = .ok (.iaload, 1) := by decide +kernel
theorem dX8_argument_10 : decode cX8_argument 10 = .ok (.ireturn, 1) := by decide +kernel
theorem dX9_init_0 : decode cX9_init 0 = .ok (.aload_n 0, 1) := by decide +kernel
theorem dX9_init_1 : decode cX9_init 1 = .ok (.invokespecial 3, 3) := by decide +kernel
theorem dX9_init_4 : decode cX9_init 4 = .ok (.aload_n 0, 1) := by decide +kernel
theorem dX9_init_5 : decode cX9_init 5 = .ok (.new 9, 3) := by decide +kernel
theorem dX9_init_8 : decode cX9_init 8 = .ok (.dup, 1) := by decide +kernel
theorem dX9_init_9 : decode cX9_init 9 = .ok (.invokespecial 11, 3) := by decide +kernel
theorem dX9_init_12 : decode cX9_init 12 = .ok (.putfield 12, 3) := by decide +kernel
theorem dX9_init_15 : decode cX9_init 15 = .ok (.aload_n 0, 1) := by decide +kernel
theorem dX9_init_16 : decode cX9_init 16 = .ok (.new 9, 3) := by decide +kernel
theorem dX9_init_19 : decode cX9_init 19 = .ok (.dup, 1) := by decide +kernel
theorem dX9_init_20 : decode cX9_init 20 = .ok (.invokespecial 11, 3) := by decide +kernel
theorem dX9_init_23 : decode cX9_init 23 = .ok (.putfield 18, 3) := by decide +kernel
theorem dX9_init_26 : decode cX9_init 26 = .ok (.aload_n 0, 1) := by decide +kernel
theorem dX9_init_27 : decode cX9_init 27 = .ok (.iconst 5, 1) := by decide +kernel
theorem dX9_init_28 : decode cX9_init 28 = .ok (.newarray .int, 2) := by decide +kernel
theorem dX9_init_30 : decode cX9_init 30 = .ok (.putfield 21, 3) := by decide +kernel
theorem dX9_init_33 : decode cX9_init 33 = .ok (.aload_n 0, 1) := by decide +kernel
theorem dX9_init_34 : decode cX9_init 34 = .ok (.bipush 40, 2) := by decide +kernel
theorem dX9_init_36 : decode cX9_init 36 = .ok (.newarray .int, 2) := by decide +kernel
theorem dX9_init_38 : decode cX9_init 38 = .ok (.putfield 25, 3) := by decide +kernel
theorem dX9_init_41 : decode cX9_init 41 = .ok (.aload_n 0, 1) := by decide +kernel
theorem dX9_init_42 : decode cX9_init 42 = .ok (.bipush 40, 2) := by decide +kernel
theorem dX9_init_44 : decode cX9_init 44 = .ok (.newarray .int, 2) := by decide +kernel
theorem dX9_init_46 : decode cX9_init 46 = .ok (.putfield 28, 3) := by decide +kernel
theorem dX9_init_49 : decode cX9_init 49 = .ok (.aload_n 0, 1) := by decide +kernel
theorem dX9_init_50 : decode cX9_init 50 = .ok (.bipush 8, 2) := by decide +kernel
theorem dX9_init_52 : decode cX9_init 52 = .ok (.newarray .int, 2) := by decide +kernel
theorem dX9_init_54 : decode cX9_init 54 = .ok (.putfield 31, 3) := by decide +kernel
theorem dX9_init_57 : decode cX9_init 57 = .ok (.aload_n 0, 1) := by decide +kernel
theorem dX9_init_58 : decode cX9_init 58 = .ok (.bipush 8, 2) := by decide +kernel
theorem dX9_init_60 : decode cX9_init 60 = .ok (.newarray .int, 2) := by decide +kernel
theorem dX9_init_62 : decode cX9_init 62 = .ok (.putfield 34, 3) := by decide +kernel
theorem dX9_init_65 : decode cX9_init 65 = .ok (.aload_n 0, 1) := by decide +kernel
theorem dX9_init_66 : decode cX9_init 66 = .ok (.bipush 8, 2) := by decide +kernel
theorem dX9_init_68 : decode cX9_init 68 = .ok (.newarray .int, 2) := by decide +kernel
theorem dX9_init_70 : decode cX9_init 70 = .ok (.putfield 37, 3) := by decide +kernel
theorem dX9_init_73 : decode cX9_init 73 = .ok (.aload_n 0, 1) := by decide +kernel
theorem dX9_init_74 : decode cX9_init 74 = .ok (.new 40, 3) := by decide +kernel
theorem dX9_init_77 : decode cX9_init 77 = .ok (.dup, 1) := by decide +kernel
theorem dX9_init_78 : decode cX9_init 78 = .ok (.invokespecial 42, 3) := by decide +kernel
theorem dX9_init_81 : decode cX9_init 81 = .ok (.putfield 43, 3) := by decide +kernel
theorem dX9_init_84 : decode cX9_init 84 = .ok (.return_, 1) := by decide +kernel
theorem dX9_cell_0 : decode cX9_cell 0 = .ok (.iload_n 0, 1) := by decide +kernel
theorem dX9_cell_1 : decode cX9_cell 1 = .ok (.iconst 5, 1) := by decide +kernel
theorem dX9_cell_2 : decode cX9_cell 2 = .ok (.imul, 1) := by decide +kernel
theorem dX9_cell_3 : decode cX9_cell 3 = .ok (.iload_n 1, 1) := by decide +kernel
theorem dX9_cell_4 : decode cX9_cell 4 = .ok (.iadd, 1) := by decide +kernel
theorem dX9_cell_5 : decode cX9_cell 5 = .ok (.ireturn, 1) := by decide +kernel
theorem dX9_copyFrom_0 : decode cX9_copyFrom 0 = .ok (.aload_n 0, 1) := by decide +kernel
theorem dX9_copyFrom_1 : decode cX9_copyFrom 1 = .ok (.getfield 12, 3) := by decide +kernel
theorem dX9_copyFrom_4 : decode cX9_copyFrom 4 = .ok (.aload_n 1, 1) := by decide +kernel
theorem dX9_copyFrom_5 : decode cX9_copyFrom 5 = .ok (.getfield 12, 3) := by decide +kernel
theorem dX9_copyFrom_8 : decode cX9_copyFrom 8 = .ok (.invokevirtual 47, 3) := by decide +kernel
theorem dX9_copyFrom_11 : decode cX9_copyFrom 11 = .ok (.aload_n 0, 1) := by decide +kernel
theorem dX9_copyFrom_12 : decode cX9_copyFrom 12 = .ok (.getfield 18, 3) := by decide +kernel
theorem dX9_copyFrom_15 : decode cX9_copyFrom 15 = .ok (.aload_n 1, 1) := by decide +kernel
theorem dX9_copyFrom_16 : decode cX9_copyFrom 16 = .ok (.getfield 18, 3) := by decide +kernel
theorem dX9_copyFrom_19 : decode cX9_copyFrom 19 = .ok (.invokevirtual 47, 3) := by decide +kernel
theorem dX9_copyFrom_22 : decode cX9_copyFrom 22 = .ok (.aload_n 1, 1) := by decide +kernel
theorem dX9_copyFrom_23 : decode cX9_copyFrom 23 = .ok (.getfield 21, 3) := by decide +kernel
theorem dX9_copyFrom_26 : decode cX9_copyFrom 26 = .ok (.iconst 0, 1) := by decide +kernel
theorem dX9_copyFrom_27 : decode cX9_copyFrom 27 = .ok (.aload_n 0, 1) := by decide +kernel
theorem dX9_copyFrom_28 : decode cX9_copyFrom 28 = .ok (.getfield 21, 3) := by decide +kernel
theorem dX9_copyFrom_31 : decode cX9_copyFrom 31 = .ok (.iconst 0, 1) := by decide +kernel
theorem dX9_copyFrom_32 : decode cX9_copyFrom 32 = .ok (.aload_n 0, 1) := by decide +kernel
theorem dX9_copyFrom_33 : decode cX9_copyFrom 33 = .ok (.getfield 21, 3) := by decide +kernel
theorem dX9_copyFrom_36 : decode cX9_copyFrom 36 = .ok (.arraylength, 1) := by decide +kernel
theorem dX9_copyFrom_37 : decode cX9_copyFrom 37 = .ok (.invokestatic 51, 3) := by decide +kernel
theorem dX9_copyFrom_40 : decode cX9_copyFrom 40 = .ok (.aload_n 1, 1) := by decide +kernel
theorem dX9_copyFrom_41 : decode cX9_copyFrom 41 = .ok (.getfield 25, 3) := by decide +kernel
theorem dX9_copyFrom_44 : decode cX9_copyFrom 44 = .ok (.iconst 0, 1) := by decide +kernel
theorem dX9_copyFrom_45 : decode cX9_copyFrom 45 = .ok (.aload_n 0, 1) := by decide +kernel
theorem dX9_copyFrom_46 : decode cX9_copyFrom 46 = .ok (.getfield 25, 3) := by decide +kernel
theorem dX9_copyFrom_49 : decode cX9_copyFrom 49 = .ok (.iconst 0, 1) := by decide +kernel
theorem dX9_copyFrom_50 : decode cX9_copyFrom 50 = .ok (.aload_n 0, 1) := by decide +kernel
theorem dX9_copyFrom_51 : decode cX9_copyFrom 51 = .ok (.getfield 25, 3) := by decide +kernel
theorem dX9_copyFrom_54 : decode cX9_copyFrom 54 = .ok (.arraylength, 1) := by decide +kernel
theorem dX9_copyFrom_55 : decode cX9_copyFrom 55 = .ok (.invokestatic 51, 3) := by decide +kernel
theorem dX9_copyFrom_58 : decode cX9_copyFrom 58 = .ok (.aload_n 1, 1) := by decide +kernel
theorem dX9_copyFrom_59 : decode cX9_copyFrom 59 = .ok (.getfield 28, 3) := by decide +kernel
theorem dX9_copyFrom_62 : decode cX9_copyFrom 62 = .ok (.iconst 0, 1) := by decide +kernel
theorem dX9_copyFrom_63 : decode cX9_copyFrom 63 = .ok (.aload_n 0, 1) := by decide +kernel
theorem dX9_copyFrom_64 : decode cX9_copyFrom 64 = .ok (.getfield 28, 3) := by decide +kernel
theorem dX9_copyFrom_67 : decode cX9_copyFrom 67 = .ok (.iconst 0, 1) := by decide +kernel
theorem dX9_copyFrom_68 : decode cX9_copyFrom 68 = .ok (.aload_n 0, 1) := by decide +kernel
theorem dX9_copyFrom_69 : decode cX9_copyFrom 69 = .ok (.getfield 28, 3) := by decide +kernel
theorem dX9_copyFrom_72 : decode cX9_copyFrom 72 = .ok (.arraylength, 1) := by decide +kernel
theorem dX9_copyFrom_73 : decode cX9_copyFrom 73 = .ok (.invokestatic 51, 3) := by decide +kernel
theorem dX9_copyFrom_76 : decode cX9_copyFrom 76 = .ok (.aload_n 1, 1) := by decide +kernel
theorem dX9_copyFrom_77 : decode cX9_copyFrom 77 = .ok (.getfield 31, 3) := by decide +kernel
theorem dX9_copyFrom_80 : decode cX9_copyFrom 80 = .ok (.iconst 0, 1) := by decide +kernel
theorem dX9_copyFrom_81 : decode cX9_copyFrom 81 = .ok (.aload_n 0, 1) := by decide +kernel
theorem dX9_copyFrom_82 : decode cX9_copyFrom 82 = .ok (.getfield 31, 3) := by decide +kernel
theorem dX9_copyFrom_85 : decode cX9_copyFrom 85 = .ok (.iconst 0, 1) := by decide +kernel
theorem dX9_copyFrom_86 : decode cX9_copyFrom 86 = .ok (.aload_n 0, 1) := by decide +kernel
theorem dX9_copyFrom_87 : decode cX9_copyFrom 87 = .ok (.getfield 31, 3) := by decide +kernel
theorem dX9_copyFrom_90 : decode cX9_copyFrom 90 = .ok (.arraylength, 1) := by decide +kernel
theorem dX9_copyFrom_91 : decode cX9_copyFrom 91 = .ok (.invokestatic 51, 3) := by decide +kernel
theorem dX9_copyFrom_94 : decode cX9_copyFrom 94 = .ok (.aload_n 1, 1) := by decide +kernel
theorem dX9_copyFrom_95 : decode cX9_copyFrom 95 = .ok (.getfield 34, 3) := by decide +kernel
theorem dX9_copyFrom_98 : decode cX9_copyFrom 98 = .ok (.iconst 0, 1) := by decide +kernel
theorem dX9_copyFrom_99 : decode cX9_copyFrom 99 = .ok (.aload_n 0, 1) := by decide +kernel
theorem dX9_copyFrom_100 : decode cX9_copyFrom 100 = .ok (.getfield 34, 3) := by decide +kernel
theorem dX9_copyFrom_103 : decode cX9_copyFrom 103 = .ok (.iconst 0, 1) := by decide +kernel
theorem dX9_copyFrom_104 : decode cX9_copyFrom 104 = .ok (.aload_n 0, 1) := by decide +kernel
theorem dX9_copyFrom_105 : decode cX9_copyFrom 105 = .ok (.getfield 34, 3) := by decide +kernel
theorem dX9_copyFrom_108 : decode cX9_copyFrom 108 = .ok (.arraylength, 1) := by decide +kernel
theorem dX9_copyFrom_109 : decode cX9_copyFrom 109 = .ok (.invokestatic 51, 3) := by decide +kernel
theorem dX9_copyFrom_112 : decode cX9_copyFrom 112 = .ok (.aload_n 1, 1) := by decide +kernel
theorem dX9_copyFrom_113 : decode cX9_copyFrom 113 = .ok (.getfield 37, 3) := by decide +kernel
theorem dX9_copyFrom_116 : decode cX9_copyFrom 116 = .ok (.iconst 0, 1) := by decide +kernel
theorem dX9_copyFrom_117 : decode cX9_copyFrom 117 = .ok (.aload_n 0, 1) := by decide +kernel
theorem dX9_copyFrom_118 : decode cX9_copyFrom 118 = .ok (.getfield 37, 3) := by decide +kernel
theorem dX9_copyFrom_121 : decode cX9_copyFrom 121 = .ok (.iconst 0, 1) := by decide +kernel
theorem dX9_copyFrom_122 : decode cX9_copyFrom 122 = .ok (.aload_n 0, 1) := by decide +kernel
theorem dX9_copyFrom_123 : decode cX9_copyFrom 123 = .ok (.getfield 37, 3) := by decide +kernel
theorem dX9_copyFrom_126 : decode cX9_copyFrom 126 = .ok (.arraylength, 1) := by decide +kernel
theorem dX9_copyFrom_127 : decode cX9_copyFrom 127 = .ok (.invokestatic 51, 3) := by decide +kernel
theorem dX9_copyFrom_130 : decode cX9_copyFrom 130 = .ok (.aload_n 0, 1) := by decide +kernel
theorem dX9_copyFrom_131 : decode cX9_copyFrom 131 = .ok (.aload_n 1, 1) := by decide +kernel
theorem dX9_copyFrom_132 : decode cX9_copyFrom 132 = .ok (.getfield 57, 3) := by decide +kernel
theorem dX9_copyFrom_135 : decode cX9_copyFrom 135 = .ok (.putfield 57, 3) := by decide +kernel
theorem dX9_copyFrom_138 : decode cX9_copyFrom 138 = .ok (.aload_n 0, 1) := by decide +kernel
theorem dX9_copyFrom_139 : decode cX9_copyFrom 139 = .ok (.getfield 43, 3) := by decide +kernel
theorem dX9_copyFrom_142 : decode cX9_copyFrom 142 = .ok (.aload_n 1, 1) := by decide +kernel
theorem dX9_copyFrom_143 : decode cX9_copyFrom 143 = .ok (.getfield 43, 3) := by decide +kernel
theorem dX9_copyFrom_146 : decode cX9_copyFrom 146 = .ok (.invokevirtual 61, 3) := by decide +kernel
theorem dX9_copyFrom_149 : decode cX9_copyFrom 149 = .ok (.aload_n 0, 1) := by decide +kernel
theorem dX9_copyFrom_150 : decode cX9_copyFrom 150 = .ok (.aload_n 1, 1) := by decide +kernel
theorem dX9_copyFrom_151 : decode cX9_copyFrom 151 = .ok (.getfield 64, 3) := by decide +kernel
theorem dX9_copyFrom_154 : decode cX9_copyFrom 154 = .ok (.putfield 64, 3) := by decide +kernel
theorem dX9_copyFrom_157 : decode cX9_copyFrom 157 = .ok (.aload_n 0, 1) := by decide +kernel
theorem dX9_copyFrom_158 : decode cX9_copyFrom 158 = .ok (.aload_n 1, 1) := by decide +kernel
theorem dX9_copyFrom_159 : decode cX9_copyFrom 159 = .ok (.getfield 67, 3) := by decide +kernel
theorem dX9_copyFrom_162 : decode cX9_copyFrom 162 = .ok (.putfield 67, 3) := by decide +kernel
theorem dX9_copyFrom_165 : decode cX9_copyFrom 165 = .ok (.aload_n 0, 1) := by decide +kernel
theorem dX9_copyFrom_166 : decode cX9_copyFrom 166 = .ok (.aload_n 1, 1) := by decide +kernel
theorem dX9_copyFrom_167 : decode cX9_copyFrom 167 = .ok (.getfield 70, 3) := by decide +kernel
theorem dX9_copyFrom_170 : decode cX9_copyFrom 170 = .ok (.putfield 70, 3) := by decide +kernel
theorem dX9_copyFrom_173 : decode cX9_copyFrom 173 = .ok (.aload_n 0, 1) := by decide +kernel
theorem dX9_copyFrom_174 : decode cX9_copyFrom 174 = .ok (.aload_n 1, 1) := by decide +kernel
theorem dX9_copyFrom_175 : decode cX9_copyFrom 175 = .ok (.getfield 73, 3) := by decide +kernel
theorem dX9_copyFrom_178 : decode cX9_copyFrom 178 = .ok (.putfield 73, 3) := by decide +kernel
theorem dX9_copyFrom_181 : decode cX9_copyFrom 181 = .ok (.return_, 1) := by decide +kernel
theorem dX9_clear_0 : decode cX9_clear 0 = .ok (.aload_n 0, 1) := by decide +kernel
theorem dX9_clear_1 : decode cX9_clear 1 = .ok (.getfield 12, 3) := by decide +kernel
theorem dX9_clear_4 : decode cX9_clear 4 = .ok (.iconst 0, 1) := by decide +kernel
theorem dX9_clear_5 : decode cX9_clear 5 = .ok (.putfield 76, 3) := by decide +kernel
theorem dX9_clear_8 : decode cX9_clear 8 = .ok (.aload_n 0, 1) := by decide +kernel
theorem dX9_clear_9 : decode cX9_clear 9 = .ok (.getfield 18, 3) := by decide +kernel
theorem dX9_clear_12 : decode cX9_clear 12 = .ok (.iconst 0, 1) := by decide +kernel
theorem dX9_clear_13 : decode cX9_clear 13 = .ok (.putfield 76, 3) := by decide +kernel
theorem dX9_clear_16 : decode cX9_clear 16 = .ok (.iconst 0, 1) := by decide +kernel
theorem dX9_clear_17 : decode cX9_clear 17 = .ok (.istore_n 1, 1) := by decide +kernel
theorem dX9_clear_18 : decode cX9_clear 18 = .ok (.iload_n 1, 1) := by decide +kernel
theorem dX9_clear_19 : decode cX9_clear 19 = .ok (.bipush 8, 2) := by decide +kernel
theorem dX9_clear_21 : decode cX9_clear 21 = .ok (.if_icmp .ge 40, 3) := by decide +kernel
theorem dX9_clear_24 : decode cX9_clear 24 = .ok (.aload_n 0, 1) := by decide +kernel
theorem dX9_clear_25 : decode cX9_clear 25 = .ok (.getfield 34, 3) := by decide +kernel
theorem dX9_clear_28 : decode cX9_clear 28 = .ok (.iload_n 1, 1) := by decide +kernel
theorem dX9_clear_29 : decode cX9_clear 29 = .ok (.iconst 0, 1) := by decide +kernel
theorem dX9_clear_30 : decode cX9_clear 30 = .ok (.iastore, 1) := by decide +kernel
theorem dX9_clear_31 : decode cX9_clear 31 = .ok (.iconst 0, 1) := by decide +kernel
theorem dX9_clear_32 : decode cX9_clear 32 = .ok (.istore_n 2, 1) := by decide +kernel
theorem dX9_clear_33 : decode cX9_clear 33 = .ok (.iload_n 2, 1) := by decide +kernel
theorem dX9_clear_34 : decode cX9_clear 34 = .ok (.iconst 5, 1) := by decide +kernel
theorem dX9_clear_35 : decode cX9_clear 35 = .ok (.if_icmp .ge 20, 3) := by decide +kernel
theorem dX9_clear_38 : decode cX9_clear 38 = .ok (.aload_n 0, 1) := by decide +kernel
theorem dX9_clear_39 : decode cX9_clear 39 = .ok (.getfield 28, 3) := by decide +kernel
theorem dX9_clear_42 : decode cX9_clear 42 = .ok (.iload_n 1, 1) := by decide +kernel
theorem dX9_clear_43 : decode cX9_clear 43 = .ok (.iload_n 2, 1) := by decide +kernel
theorem dX9_clear_44 : decode cX9_clear 44 = .ok (.invokestatic 79, 3) := by decide +kernel
theorem dX9_clear_47 : decode cX9_clear 47 = .ok (.iconst 0, 1) := by decide +kernel
theorem dX9_clear_48 : decode cX9_clear 48 = .ok (.iastore, 1) := by decide +kernel
theorem dX9_clear_49 : decode cX9_clear 49 = .ok (.iinc 2 1, 3) := by decide +kernel
theorem dX9_clear_52 : decode cX9_clear 52 = .ok (.goto (-19), 3) := by decide +kernel
theorem dX9_clear_55 : decode cX9_clear 55 = .ok (.iinc 1 1, 3) := by decide +kernel
theorem dX9_clear_58 : decode cX9_clear 58 = .ok (.goto (-40), 3) := by decide +kernel
theorem dX9_clear_61 : decode cX9_clear 61 = .ok (.aload_n 0, 1) := by decide +kernel
theorem dX9_clear_62 : decode cX9_clear 62 = .ok (.iconst 0, 1) := by decide +kernel
theorem dX9_clear_63 : decode cX9_clear 63 = .ok (.putfield 57, 3) := by decide +kernel
theorem dX9_clear_66 : decode cX9_clear 66 = .ok (.aload_n 0, 1) := by decide +kernel
theorem dX9_clear_67 : decode cX9_clear 67 = .ok (.getfield 43, 3) := by decide +kernel
theorem dX9_clear_70 : decode cX9_clear 70 = .ok (.invokevirtual 83, 3) := by decide +kernel
theorem dX9_clear_73 : decode cX9_clear 73 = .ok (.aload_n 0, 1) := by decide +kernel
theorem dX9_clear_74 : decode cX9_clear 74 = .ok (.iconst 0, 1) := by decide +kernel
theorem dX9_clear_75 : decode cX9_clear 75 = .ok (.putfield 64, 3) := by decide +kernel
theorem dX9_clear_78 : decode cX9_clear 78 = .ok (.aload_n 0, 1) := by decide +kernel
theorem dX9_clear_79 : decode cX9_clear 79 = .ok (.iconst 0, 1) := by decide +kernel
theorem dX9_clear_80 : decode cX9_clear 80 = .ok (.putfield 67, 3) := by decide +kernel
theorem dX9_clear_83 : decode cX9_clear 83 = .ok (.aload_n 0, 1) := by decide +kernel
theorem dX9_clear_84 : decode cX9_clear 84 = .ok (.iconst 0, 1) := by decide +kernel
theorem dX9_clear_85 : decode cX9_clear 85 = .ok (.putfield 70, 3) := by decide +kernel
theorem dX9_clear_88 : decode cX9_clear 88 = .ok (.aload_n 0, 1) := by decide +kernel
theorem dX9_clear_89 : decode cX9_clear 89 = .ok (.iconst 0, 1) := by decide +kernel
theorem dX9_clear_90 : decode cX9_clear 90 = .ok (.putfield 73, 3) := by decide +kernel
theorem dX9_clear_93 : decode cX9_clear 93 = .ok (.return_, 1) := by decide +kernel
theorem dX9_heldUnits_0 : decode cX9_heldUnits 0 = .ok (.iconst 0, 1) := by decide +kernel
theorem dX9_heldUnits_1 : decode cX9_heldUnits 1 = .ok (.istore_n 2, 1) := by decide +kernel
theorem dX9_heldUnits_2 : decode cX9_heldUnits 2 = .ok (.iconst 0, 1) := by decide +kernel
theorem dX9_heldUnits_3 : decode cX9_heldUnits 3 = .ok (.istore_n 3, 1) := by decide +kernel
theorem dX9_heldUnits_4 : decode cX9_heldUnits 4 = .ok (.iload_n 3, 1) := by decide +kernel
theorem dX9_heldUnits_5 : decode cX9_heldUnits 5 = .ok (.aload_n 0, 1) := by decide +kernel
theorem dX9_heldUnits_6 : decode cX9_heldUnits 6 = .ok (.getfield 18, 3) := by decide +kernel
theorem dX9_heldUnits_9 : decode cX9_heldUnits 9 = .ok (.getfield 76, 3) := by decide +kernel
theorem dX9_heldUnits_12 : decode cX9_heldUnits 12 = .ok (.if_icmp .ge 22, 3) := by decide +kernel
theorem dX9_heldUnits_15 : decode cX9_heldUnits 15 = .ok (.iload_n 2, 1) := by decide +kernel
theorem dX9_heldUnits_16 : decode cX9_heldUnits 16 = .ok (.aload_n 0, 1) := by decide +kernel
theorem dX9_heldUnits_17 : decode cX9_heldUnits 17 = .ok (.getfield 28, 3) := by decide +kernel
theorem dX9_heldUnits_20 : decode cX9_heldUnits 20 = .ok (.iload_n 3, 1) := by decide +kernel
theorem dX9_heldUnits_21 : decode cX9_heldUnits 21 = .ok (.iconst 5, 1) := by decide +kernel
theorem dX9_heldUnits_22 : decode cX9_heldUnits 22 = .ok (.imul, 1) := by decide +kernel
theorem dX9_heldUnits_23 : decode cX9_heldUnits 23 = .ok (.iload_n 1, 1) := by decide +kernel
theorem dX9_heldUnits_24 : decode cX9_heldUnits 24 = .ok (.iadd, 1) := by decide +kernel
theorem dX9_heldUnits_25 : decode cX9_heldUnits 25 = .ok (.iaload, 1) := by decide +kernel
theorem dX9_heldUnits_26 : decode cX9_heldUnits 26 = .ok (.iadd, 1) := by decide +kernel
theorem dX9_heldUnits_27 : decode cX9_heldUnits 27 = .ok (.istore_n 2, 1) := by decide +kernel
theorem dX9_heldUnits_28 : decode cX9_heldUnits 28 = .ok (.iinc 3 1, 3) := by decide +kernel
theorem dX9_heldUnits_31 : decode cX9_heldUnits 31 = .ok (.goto (-27), 3) := by decide +kernel
theorem dX9_heldUnits_34 : decode cX9_heldUnits 34 = .ok (.iload_n 2, 1) := by decide +kernel
theorem dX9_heldUnits_35 : decode cX9_heldUnits 35 = .ok (.ireturn, 1) := by decide +kernel
theorem dX9_freeUnits_0 : decode cX9_freeUnits 0 = .ok (.aload_n 0, 1) := by decide +kernel
theorem dX9_freeUnits_1 : decode cX9_freeUnits 1 = .ok (.getfield 21, 3) := by decide +kernel
theorem dX9_freeUnits_4 : decode cX9_freeUnits 4 = .ok (.iload_n 1, 1) := by decide +kernel
theorem dX9_freeUnits_5 : decode cX9_freeUnits 5 = .ok (.iaload, 1) := by decide +kernel
theorem dX9_freeUnits_6 : decode cX9_freeUnits 6 = .ok (.aload_n 0, 1) := by decide +kernel
theorem dX9_freeUnits_7 : decode cX9_freeUnits 7 = .ok (.iload_n 1, 1) := by decide +kernel
theorem dX9_freeUnits_8 : decode cX9_freeUnits 8 = .ok (.invokevirtual 86, 3) := by decide +kernel
theorem dX9_freeUnits_11 : decode cX9_freeUnits 11 = .ok (.isub, 1) := by decide +kernel
theorem dX9_freeUnits_12 : decode cX9_freeUnits 12 = .ok (.ireturn, 1) := by decide +kernel
theorem dX9_openClaim_0 : decode cX9_openClaim 0 = .ok (.aload_n 0, 1) := by decide +kernel
theorem dX9_openClaim_1 : decode cX9_openClaim 1 = .ok (.getfield 25, 3) := by decide +kernel
theorem dX9_openClaim_4 : decode cX9_openClaim 4 = .ok (.iload_n 1, 1) := by decide +kernel
theorem dX9_openClaim_5 : decode cX9_openClaim 5 = .ok (.iload_n 2, 1) := by decide +kernel
theorem dX9_openClaim_6 : decode cX9_openClaim 6 = .ok (.invokestatic 79, 3) := by decide +kernel
theorem dX9_openClaim_9 : decode cX9_openClaim 9 = .ok (.iaload, 1) := by decide +kernel
theorem dX9_openClaim_10 : decode cX9_openClaim 10 = .ok (.aload_n 0, 1) := by decide +kernel
theorem dX9_openClaim_11 : decode cX9_openClaim 11 = .ok (.getfield 28, 3) := by decide +kernel
theorem dX9_openClaim_14 : decode cX9_openClaim 14 = .ok (.iload_n 1, 1) := by decide +kernel
theorem dX9_openClaim_15 : decode cX9_openClaim 15 = .ok (.iload_n 2, 1) := by decide +kernel
theorem dX9_openClaim_16 : decode cX9_openClaim 16 = .ok (.invokestatic 79, 3) := by decide +kernel
theorem dX9_openClaim_19 : decode cX9_openClaim 19 = .ok (.iaload, 1) := by decide +kernel
theorem dX9_openClaim_20 : decode cX9_openClaim 20 = .ok (.isub, 1) := by decide +kernel
theorem dX9_openClaim_21 : decode cX9_openClaim 21 = .ok (.ireturn, 1) := by decide +kernel
theorem dX9_waits_0 : decode cX9_waits 0 = .ok (.aload_n 0, 1) := by decide +kernel
theorem dX9_waits_1 : decode cX9_waits 1 = .ok (.getfield 34, 3) := by decide +kernel
theorem dX9_waits_4 : decode cX9_waits 4 = .ok (.iload_n 1, 1) := by decide +kernel
theorem dX9_waits_5 : decode cX9_waits 5 = .ok (.iaload, 1) := by decide +kernel
theorem dX9_waits_6 : decode cX9_waits 6 = .ok (.ifCond .le 7, 3) := by decide +kernel
theorem dX9_waits_9 : decode cX9_waits 9 = .ok (.iconst 1, 1) := by decide +kernel
theorem dX9_waits_10 : decode cX9_waits 10 = .ok (.goto 4, 3) := by decide +kernel
theorem dX9_waits_13 : decode cX9_waits 13 = .ok (.iconst 0, 1) := by decide +kernel
theorem dX9_waits_14 : decode cX9_waits 14 = .ok (.ireturn, 1) := by decide +kernel
theorem dX9_wanted_0 : decode cX9_wanted 0 = .ok (.aload_n 0, 1) := by decide +kernel
theorem dX9_wanted_1 : decode cX9_wanted 1 = .ok (.iload_n 1, 1) := by decide +kernel
theorem dX9_wanted_2 : decode cX9_wanted 2 = .ok (.invokevirtual 90, 3) := by decide +kernel
theorem dX9_wanted_5 : decode cX9_wanted 5 = .ok (.ifCond .eq 22, 3) := by decide +kernel
theorem dX9_wanted_8 : decode cX9_wanted 8 = .ok (.aload_n 0, 1) := by decide +kernel
theorem dX9_wanted_9 : decode cX9_wanted 9 = .ok (.getfield 31, 3) := by decide +kernel
theorem dX9_wanted_12 : decode cX9_wanted 12 = .ok (.iload_n 1, 1) := by decide +kernel
theorem dX9_wanted_13 : decode cX9_wanted 13 = .ok (.iaload, 1) := by decide +kernel
theorem dX9_wanted_14 : decode cX9_wanted 14 = .ok (.iload_n 2, 1) := by decide +kernel
theorem dX9_wanted_15 : decode cX9_wanted 15 = .ok (.if_icmp .ne 12, 3) := by decide +kernel
theorem dX9_wanted_18 : decode cX9_wanted 18 = .ok (.aload_n 0, 1) := by decide +kernel
theorem dX9_wanted_19 : decode cX9_wanted 19 = .ok (.getfield 34, 3) := by decide +kernel
theorem dX9_wanted_22 : decode cX9_wanted 22 = .ok (.iload_n 1, 1) := by decide +kernel
theorem dX9_wanted_23 : decode cX9_wanted 23 = .ok (.iaload, 1) := by decide +kernel
theorem dX9_wanted_24 : decode cX9_wanted 24 = .ok (.goto 4, 3) := by decide +kernel
theorem dX9_wanted_27 : decode cX9_wanted 27 = .ok (.iconst 0, 1) := by decide +kernel
theorem dX9_wanted_28 : decode cX9_wanted 28 = .ok (.ireturn, 1) := by decide +kernel
theorem dX9_isHeldUpBy_0 : decode cX9_isHeldUpBy 0 = .ok (.aload_n 0, 1) := by decide +kernel
theorem dX9_isHeldUpBy_1 : decode cX9_isHeldUpBy 1 = .ok (.iload_n 1, 1) := by decide +kernel
theorem dX9_isHeldUpBy_2 : decode cX9_isHeldUpBy 2 = .ok (.invokevirtual 90, 3) := by decide +kernel
theorem dX9_isHeldUpBy_5 : decode cX9_isHeldUpBy 5 = .ok (.ifCond .ne 5, 3) := by decide +kernel
theorem dX9_isHeldUpBy_8 : decode cX9_isHeldUpBy 8 = .ok (.iconst 0, 1) := by decide +kernel
theorem dX9_isHeldUpBy_9 : decode cX9_isHeldUpBy 9 = .ok (.ireturn, 1) := by decide +kernel
theorem dX9_isHeldUpBy_10 : decode cX9_isHeldUpBy 10 = .ok (.aload_n 0, 1) := by decide +kernel
theorem dX9_isHeldUpBy_11 : decode cX9_isHeldUpBy 11 = .ok (.getfield 31, 3) := by decide +kernel
theorem dX9_isHeldUpBy_14 : decode cX9_isHeldUpBy 14 = .ok (.iload_n 1, 1) := by decide +kernel
theorem dX9_isHeldUpBy_15 : decode cX9_isHeldUpBy 15 = .ok (.iaload, 1) := by decide +kernel
theorem dX9_isHeldUpBy_16 : decode cX9_isHeldUpBy 16 = .ok (.istore_n 3, 1) := by decide +kernel
theorem dX9_isHeldUpBy_17 : decode cX9_isHeldUpBy 17 = .ok (.aload_n 0, 1) := by decide +kernel
theorem dX9_isHeldUpBy_18 : decode cX9_isHeldUpBy 18 = .ok (.getfield 28, 3) := by decide +kernel
theorem dX9_isHeldUpBy_21 : decode cX9_isHeldUpBy 21 = .ok (.iload_n 2, 1) := by decide +kernel
theorem dX9_isHeldUpBy_22 : decode cX9_isHeldUpBy 22 = .ok (.iload_n 3, 1) := by decide +kernel
theorem dX9_isHeldUpBy_23 : decode cX9_isHeldUpBy 23 = .ok (.invokestatic 79, 3) := by decide +kernel
theorem dX9_isHeldUpBy_26 : decode cX9_isHeldUpBy 26 = .ok (.iaload, 1) := by decide +kernel
theorem dX9_isHeldUpBy_27 : decode cX9_isHeldUpBy 27 = .ok (.ifCond .le 7, 3) := by decide +kernel
theorem dX9_isHeldUpBy_30 : decode cX9_isHeldUpBy 30 = .ok (.iconst 1, 1) := by decide +kernel
theorem dX9_isHeldUpBy_31 : decode cX9_isHeldUpBy 31 = .ok (.goto 4, 3) := by decide +kernel
theorem dX9_isHeldUpBy_34 : decode cX9_isHeldUpBy 34 = .ok (.iconst 0, 1) := by decide +kernel
theorem dX9_isHeldUpBy_35 : decode cX9_isHeldUpBy 35 = .ok (.istore 4, 2) := by decide +kernel
theorem dX9_isHeldUpBy_37 : decode cX9_isHeldUpBy 37 = .ok (.iload 4, 2) := by decide +kernel
theorem dX9_isHeldUpBy_39 : decode cX9_isHeldUpBy 39 = .ok (.ifCond .eq 21, 3) := by decide +kernel
theorem dX9_isHeldUpBy_42 : decode cX9_isHeldUpBy 42 = .ok (.aload_n 0, 1) := by decide +kernel
theorem dX9_isHeldUpBy_43 : decode cX9_isHeldUpBy 43 = .ok (.getfield 34, 3) := by decide +kernel
theorem dX9_isHeldUpBy_46 : decode cX9_isHeldUpBy 46 = .ok (.iload_n 1, 1) := by decide +kernel
theorem dX9_isHeldUpBy_47 : decode cX9_isHeldUpBy 47 = .ok (.iaload, 1) := by decide +kernel
theorem dX9_isHeldUpBy_48 : decode cX9_isHeldUpBy 48 = .ok (.aload_n 0, 1) := by decide +kernel
theorem dX9_isHeldUpBy_49 : decode cX9_isHeldUpBy 49 = .ok (.iload_n 3, 1) := by decide +kernel
theorem dX9_isHeldUpBy_50 : decode cX9_isHeldUpBy 50 = .ok (.invokevirtual 94, 3) := by decide +kernel
theorem dX9_isHeldUpBy_53 : decode cX9_isHeldUpBy 53 = .ok (.if_icmp .le 7, 3) := by decide +kernel
theorem dX9_isHeldUpBy_56 : decode cX9_isHeldUpBy 56 = .ok (.iconst 1, 1) := by decide +kernel
theorem dX9_isHeldUpBy_57 : decode cX9_isHeldUpBy 57 = .ok (.goto 4, 3) := by decide +kernel
theorem dX9_isHeldUpBy_60 : decode cX9_isHeldUpBy 60 = .ok (.iconst 0, 1) := by decide +kernel
theorem dX9_isHeldUpBy_61 : decode cX9_isHeldUpBy 61 = .ok (.ireturn, 1) := by decide +kernel
theorem dX9_joinQueue_0 : decode cX9_joinQueue 0 = .ok (.aload_n 0, 1) := by decide +kernel
theorem dX9_joinQueue_1 : decode cX9_joinQueue 1 = .ok (.getfield 57, 3) := by decide +kernel
theorem dX9_joinQueue_4 : decode cX9_joinQueue 4 = .ok (.bipush 8, 2) := by decide +kernel
theorem dX9_joinQueue_6 : decode cX9_joinQueue 6 = .ok (.if_icmp .lt 4, 3) := by decide +kernel
theorem dX9_joinQueue_9 : decode cX9_joinQueue 9 = .ok (.return_, 1) := by decide +kernel
theorem dX9_joinQueue_10 : decode cX9_joinQueue 10 = .ok (.aload_n 0, 1) := by decide +kernel
theorem dX9_joinQueue_11 : decode cX9_joinQueue 11 = .ok (.getfield 37, 3) := by decide +kernel
theorem dX9_joinQueue_14 : decode cX9_joinQueue 14 = .ok (.aload_n 0, 1) := by decide +kernel
theorem dX9_joinQueue_15 : decode cX9_joinQueue 15 = .ok (.getfield 57, 3) := by decide +kernel
theorem dX9_joinQueue_18 : decode cX9_joinQueue 18 = .ok (.iload_n 1, 1) := by decide +kernel
theorem dX9_joinQueue_19 : decode cX9_joinQueue 19 = .ok (.iastore, 1) := by decide +kernel
theorem dX9_joinQueue_20 : decode cX9_joinQueue 20 = .ok (.aload_n 0, 1) := by decide +kernel
theorem dX9_joinQueue_21 : decode cX9_joinQueue 21 = .ok (.dup, 1) := by decide +kernel
theorem dX9_joinQueue_22 : decode cX9_joinQueue 22 = .ok (.getfield 57, 3) := by decide +kernel
theorem dX9_joinQueue_25 : decode cX9_joinQueue 25 = .ok (.iconst 1, 1) := by decide +kernel
theorem dX9_joinQueue_26 : decode cX9_joinQueue 26 = .ok (.iadd, 1) := by decide +kernel
theorem dX9_joinQueue_27 : decode cX9_joinQueue 27 = .ok (.putfield 57, 3) := by decide +kernel
theorem dX9_joinQueue_30 : decode cX9_joinQueue 30 = .ok (.aload_n 0, 1) := by decide +kernel
theorem dX9_joinQueue_31 : decode cX9_joinQueue 31 = .ok (.getfield 31, 3) := by decide +kernel
theorem dX9_joinQueue_34 : decode cX9_joinQueue 34 = .ok (.iload_n 1, 1) := by decide +kernel
theorem dX9_joinQueue_35 : decode cX9_joinQueue 35 = .ok (.iload_n 2, 1) := by decide +kernel
theorem dX9_joinQueue_36 : decode cX9_joinQueue 36 = .ok (.iastore, 1) := by decide +kernel
theorem dX9_joinQueue_37 : decode cX9_joinQueue 37 = .ok (.aload_n 0, 1) := by decide +kernel
theorem dX9_joinQueue_38 : decode cX9_joinQueue 38 = .ok (.getfield 34, 3) := by decide +kernel
theorem dX9_joinQueue_41 : decode cX9_joinQueue 41 = .ok (.iload_n 1, 1) := by decide +kernel
theorem dX9_joinQueue_42 : decode cX9_joinQueue 42 = .ok (.iload_n 3, 1) := by decide +kernel
theorem dX9_joinQueue_43 : decode cX9_joinQueue 43 = .ok (.iastore, 1) := by decide +kernel
theorem dX9_joinQueue_44 : decode cX9_joinQueue 44 = .ok (.return_, 1) := by decide +kernel
theorem dX9_leaveQueue_0 : decode cX9_leaveQueue 0 = .ok (.iconst 0, 1) := by decide +kernel
theorem dX9_leaveQueue_1 : decode cX9_leaveQueue 1 = .ok (.istore_n 2, 1) := by decide +kernel
theorem dX9_leaveQueue_2 : decode cX9_leaveQueue 2 = .ok (.iconst 0, 1) := by decide +kernel
theorem dX9_leaveQueue_3 : decode cX9_leaveQueue 3 = .ok (.istore_n 3, 1) := by decide +kernel
theorem dX9_leaveQueue_4 : decode cX9_leaveQueue 4 = .ok (.iload_n 3, 1) := by decide +kernel
theorem dX9_leaveQueue_5 : decode cX9_leaveQueue 5 = .ok (.aload_n 0, 1) := by decide +kernel
theorem dX9_leaveQueue_6 : decode cX9_leaveQueue 6 = .ok (.getfield 57, 3) := by decide +kernel
theorem dX9_leaveQueue_9 : decode cX9_leaveQueue 9 = .ok (.if_icmp .ge 34, 3) := by decide +kernel
theorem dX9_leaveQueue_12 : decode cX9_leaveQueue 12 = .ok (.aload_n 0, 1) := by decide +kernel
theorem dX9_leaveQueue_13 : decode cX9_leaveQueue 13 = .ok (.getfield 37, 3) := by decide +kernel
theorem dX9_leaveQueue_16 : decode cX9_leaveQueue 16 = .ok (.iload_n 3, 1) := by decide +kernel
theorem dX9_leaveQueue_17 : decode cX9_leaveQueue 17 = .ok (.iaload, 1) := by decide +kernel
theorem dX9_leaveQueue_18 : decode cX9_leaveQueue 18 = .ok (.iload_n 1, 1) := by decide +kernel
theorem dX9_leaveQueue_19 : decode cX9_leaveQueue 19 = .ok (.if_icmp .eq 18, 3) := by decide +kernel
theorem dX9_leaveQueue_22 : decode cX9_leaveQueue 22 = .ok (.aload_n 0, 1) := by decide +kernel
theorem dX9_leaveQueue_23 : decode cX9_leaveQueue 23 = .ok (.getfield 37, 3) := by decide +kernel
theorem dX9_leaveQueue_26 : decode cX9_leaveQueue 26 = .ok (.iload_n 2, 1) := by decide +kernel
theorem dX9_leaveQueue_27 : decode cX9_leaveQueue 27 = .ok (.aload_n 0, 1) := by decide +kernel
theorem dX9_leaveQueue_28 : decode cX9_leaveQueue 28 = .ok (.getfield 37, 3) := by decide +kernel
theorem dX9_leaveQueue_31 : decode cX9_leaveQueue 31 = .ok (.iload_n 3, 1) := by decide +kernel
theorem dX9_leaveQueue_32 : decode cX9_leaveQueue 32 = .ok (.iaload, 1) := by decide +kernel
theorem dX9_leaveQueue_33 : decode cX9_leaveQueue 33 = .ok (.iastore, 1) := by decide +kernel
theorem dX9_leaveQueue_34 : decode cX9_leaveQueue 34 = .ok (.iinc 2 1, 3) := by decide +kernel
theorem dX9_leaveQueue_37 : decode cX9_leaveQueue 37 = .ok (.iinc 3 1, 3) := by decide +kernel
theorem dX9_leaveQueue_40 : decode cX9_leaveQueue 40 = .ok (.goto (-36), 3) := by decide +kernel
theorem dX9_leaveQueue_43 : decode cX9_leaveQueue 43 = .ok (.aload_n 0, 1) := by decide +kernel
theorem dX9_leaveQueue_44 : decode cX9_leaveQueue 44 = .ok (.iload_n 2, 1) := by decide +kernel
theorem dX9_leaveQueue_45 : decode cX9_leaveQueue 45 = .ok (.putfield 57, 3) := by decide +kernel
theorem dX9_leaveQueue_48 : decode cX9_leaveQueue 48 = .ok (.aload_n 0, 1) := by decide +kernel
theorem dX9_leaveQueue_49 : decode cX9_leaveQueue 49 = .ok (.getfield 34, 3) := by decide +kernel
theorem dX9_leaveQueue_52 : decode cX9_leaveQueue 52 = .ok (.iload_n 1, 1) := by decide +kernel
theorem dX9_leaveQueue_53 : decode cX9_leaveQueue 53 = .ok (.iconst 0, 1) := by decide +kernel
theorem dX9_leaveQueue_54 : decode cX9_leaveQueue 54 = .ok (.iastore, 1) := by decide +kernel
theorem dX9_leaveQueue_55 : decode cX9_leaveQueue 55 = .ok (.return_, 1) := by decide +kernel
theorem dX9_excessiveAllocations_0 : decode cX9_excessiveAllocations 0 = .ok (.iconst 0, 1) := by decide +kernel
theorem dX9_excessiveAllocations_1 : decode cX9_excessiveAllocations 1 = .ok (.istore_n 1, 1) := by decide +kernel
theorem dX9_excessiveAllocations_2 : decode cX9_excessiveAllocations 2 = .ok (.iconst 0, 1) := by decide +kernel
theorem dX9_excessiveAllocations_3 : decode cX9_excessiveAllocations 3 = .ok (.istore_n 2, 1) := by decide +kernel
theorem dX9_excessiveAllocations_4 : decode cX9_excessiveAllocations 4 = .ok (.iload_n 2, 1) := by decide +kernel
theorem dX9_excessiveAllocations_5 : decode cX9_excessiveAllocations 5 = .ok (.aload_n 0, 1) := by decide +kernel
theorem dX9_excessiveAllocations_6 : decode cX9_excessiveAllocations 6 = .ok (.getfield 18, 3) := by decide +kernel
theorem dX9_excessiveAllocations_9 : decode cX9_excessiveAllocations 9 = .ok (.getfield 76, 3) := by decide +kernel
theorem dX9_excessiveAllocations_12 : decode cX9_excessiveAllocations 12 = .ok (.if_icmp .ge 40, 3) := by decide +kernel
theorem dX9_excessiveAllocations_15 : decode cX9_excessiveAllocations 15 = .ok (.iconst 0, 1) := by decide +kernel
theorem dX9_excessiveAllocations_16 : decode cX9_excessiveAllocations 16 = .ok (.istore_n 3, 1) := by decide +kernel
theorem dX9_excessiveAllocations_17 : decode cX9_excessiveAllocations 17 = .ok (.iload_n 3, 1) := by decide +kernel
theorem dX9_excessiveAllocations_18 : decode cX9_excessiveAllocations 18 = .ok (.aload_n 0, 1) := by decide +kernel
theorem dX9_excessiveAllocations_19 : decode cX9_excessiveAllocations 19 = .ok (.getfield 12, 3) := by decide +kernel
theorem dX9_excessiveAllocations_22 : decode cX9_excessiveAllocations 22 = .ok (.getfield 76, 3) := by decide +kernel
theorem dX9_excessiveAllocations_25 : decode cX9_excessiveAllocations 25 = .ok (.if_icmp .ge 21, 3) := by decide +kernel
theorem dX9_excessiveAllocations_28 : decode cX9_excessiveAllocations 28 = .ok (.aload_n 0, 1) := by decide +kernel
theorem dX9_excessiveAllocations_29 : decode cX9_excessiveAllocations 29 = .ok (.iload_n 2, 1) := by decide +kernel
theorem dX9_excessiveAllocations_30 : decode cX9_excessiveAllocations 30 = .ok (.iload_n 3, 1) := by decide +kernel
theorem dX9_excessiveAllocations_31 : decode cX9_excessiveAllocations 31 = .ok (.invokevirtual 97, 3) := by decide +kernel
theorem dX9_excessiveAllocations_34 : decode cX9_excessiveAllocations 34 = .ok (.ifCond .ge 6, 3) := by decide +kernel
theorem dX9_excessiveAllocations_37 : decode cX9_excessiveAllocations 37 = .ok (.iinc 1 1, 3) := by decide +kernel
theorem dX9_excessiveAllocations_40 : decode cX9_excessiveAllocations 40 = .ok (.iinc 3 1, 3) := by decide +kernel
theorem dX9_excessiveAllocations_43 : decode cX9_excessiveAllocations 43 = .ok (.goto (-26), 3) := by decide +kernel
theorem dX9_excessiveAllocations_46 : decode cX9_excessiveAllocations 46 = .ok (.iinc 2 1, 3) := by decide +kernel
theorem dX9_excessiveAllocations_49 : decode cX9_excessiveAllocations 49 = .ok (.goto (-45), 3) := by decide +kernel
theorem dX9_excessiveAllocations_52 : decode cX9_excessiveAllocations 52 = .ok (.iload_n 1, 1) := by decide +kernel
theorem dX9_excessiveAllocations_53 : decode cX9_excessiveAllocations 53 = .ok (.ireturn, 1) := by decide +kernel
theorem dX10_init_0 : decode cX10_init 0 = .ok (.aload_n 0, 1) := by decide +kernel
theorem dX10_init_1 : decode cX10_init 1 = .ok (.invokespecial 1, 3) := by decide +kernel
theorem dX10_init_4 : decode cX10_init 4 = .ok (.aload_n 0, 1) := by decide +kernel
theorem dX10_init_5 : decode cX10_init 5 = .ok (.new 7, 3) := by decide +kernel
theorem dX10_init_8 : decode cX10_init 8 = .ok (.dup, 1) := by decide +kernel
theorem dX10_init_9 : decode cX10_init 9 = .ok (.invokespecial 9, 3) := by decide +kernel
theorem dX10_init_12 : decode cX10_init 12 = .ok (.putfield 10, 3) := by decide +kernel
theorem dX10_init_15 : decode cX10_init 15 = .ok (.aload_n 0, 1) := by decide +kernel
theorem dX10_init_16 : decode cX10_init 16 = .ok (.aload_n 0, 1) := by decide +kernel
theorem dX10_init_17 : decode cX10_init 17 = .ok (.getfield 10, 3) := by decide +kernel
theorem dX10_init_20 : decode cX10_init 20 = .ok (.getfield 16, 3) := by decide +kernel
theorem dX10_init_23 : decode cX10_init 23 = .ok (.putfield 20, 3) := by decide +kernel
theorem dX10_init_26 : decode cX10_init 26 = .ok (.aload_n 0, 1) := by decide +kernel
theorem dX10_init_27 : decode cX10_init 27 = .ok (.new 21, 3) := by decide +kernel
theorem dX10_init_30 : decode cX10_init 30 = .ok (.dup, 1) := by decide +kernel
theorem dX10_init_31 : decode cX10_init 31 = .ok (.invokespecial 23, 3) := by decide +kernel
theorem dX10_init_34 : decode cX10_init 34 = .ok (.putfield 24, 3) := by decide +kernel
theorem dX10_init_37 : decode cX10_init 37 = .ok (.aload_n 0, 1) := by decide +kernel
theorem dX10_init_38 : decode cX10_init 38 = .ok (.new 28, 3) := by decide +kernel
theorem dX10_init_41 : decode cX10_init 41 = .ok (.dup, 1) := by decide +kernel
theorem dX10_init_42 : decode cX10_init 42 = .ok (.invokespecial 30, 3) := by decide +kernel
theorem dX10_init_45 : decode cX10_init 45 = .ok (.putfield 31, 3) := by decide +kernel
theorem dX10_init_48 : decode cX10_init 48 = .ok (.aload_n 0, 1) := by decide +kernel
theorem dX10_init_49 : decode cX10_init 49 = .ok (.new 35, 3) := by decide +kernel
theorem dX10_init_52 : decode cX10_init 52 = .ok (.dup, 1) := by decide +kernel
theorem dX10_init_53 : decode cX10_init 53 = .ok (.invokespecial 37, 3) := by decide +kernel
theorem dX10_init_56 : decode cX10_init 56 = .ok (.putfield 38, 3) := by decide +kernel
theorem dX10_init_59 : decode cX10_init 59 = .ok (.aload_n 0, 1) := by decide +kernel
theorem dX10_init_60 : decode cX10_init 60 = .ok (.new 42, 3) := by decide +kernel
theorem dX10_init_63 : decode cX10_init 63 = .ok (.dup, 1) := by decide +kernel
theorem dX10_init_64 : decode cX10_init 64 = .ok (.invokespecial 44, 3) := by decide +kernel
theorem dX10_init_67 : decode cX10_init 67 = .ok (.putfield 45, 3) := by decide +kernel
theorem dX10_init_70 : decode cX10_init 70 = .ok (.aload_n 0, 1) := by decide +kernel
theorem dX10_init_71 : decode cX10_init 71 = .ok (.new 42, 3) := by decide +kernel
theorem dX10_init_74 : decode cX10_init 74 = .ok (.dup, 1) := by decide +kernel
theorem dX10_init_75 : decode cX10_init 75 = .ok (.invokespecial 44, 3) := by decide +kernel
theorem dX10_init_78 : decode cX10_init 78 = .ok (.putfield 49, 3) := by decide +kernel
theorem dX10_init_81 : decode cX10_init 81 = .ok (.aload_n 0, 1) := by decide +kernel
theorem dX10_init_82 : decode cX10_init 82 = .ok (.new 52, 3) := by decide +kernel
theorem dX10_init_85 : decode cX10_init 85 = .ok (.dup, 1) := by decide +kernel
theorem dX10_init_86 : decode cX10_init 86 = .ok (.invokespecial 54, 3) := by decide +kernel
theorem dX10_init_89 : decode cX10_init 89 = .ok (.putfield 55, 3) := by decide +kernel
theorem dX10_init_92 : decode cX10_init 92 = .ok (.aload_n 0, 1) := by decide +kernel
theorem dX10_init_93 : decode cX10_init 93 = .ok (.iconst 2, 1) := by decide +kernel
theorem dX10_init_94 : decode cX10_init 94 = .ok (.anewarray 42, 3) := by decide +kernel
theorem dX10_init_97 : decode cX10_init 97 = .ok (.putfield 59, 3) := by decide +kernel
theorem dX10_init_100 : decode cX10_init 100 = .ok (.aload_n 0, 1) := by decide +kernel
theorem dX10_init_101 : decode cX10_init 101 = .ok (.iconst 2, 1) := by decide +kernel
theorem dX10_init_102 : decode cX10_init 102 = .ok (.newarray .boolean, 2) := by decide +kernel
theorem dX10_init_104 : decode cX10_init 104 = .ok (.putfield 63, 3) := by decide +kernel
theorem dX10_init_107 : decode cX10_init 107 = .ok (.iconst 0, 1) := by decide +kernel
theorem dX10_init_108 : decode cX10_init 108 = .ok (.istore_n 1, 1) := by decide +kernel
theorem dX10_init_109 : decode cX10_init 109 = .ok (.iload_n 1, 1) := by decide +kernel
theorem dX10_init_110 : decode cX10_init 110 = .ok (.iconst 2, 1) := by decide +kernel
theorem dX10_init_111 : decode cX10_init 111 = .ok (.if_icmp .ge 22, 3) := by decide +kernel
theorem dX10_init_114 : decode cX10_init 114 = .ok (.aload_n 0, 1) := by decide +kernel
theorem dX10_init_115 : decode cX10_init 115 = .ok (.getfield 59, 3) := by decide +kernel
theorem dX10_init_118 : decode cX10_init 118 = .ok (.iload_n 1, 1) := by decide +kernel
theorem dX10_init_119 : decode cX10_init 119 = .ok (.new 42, 3) := by decide +kernel
theorem dX10_init_122 : decode cX10_init 122 = .ok (.dup, 1) := by decide +kernel
theorem dX10_init_123 : decode cX10_init 123 = .ok (.invokespecial 44, 3) := by decide +kernel
theorem dX10_init_126 : decode cX10_init 126 = .ok (.aastore, 1) := by decide +kernel
theorem dX10_init_127 : decode cX10_init 127 = .ok (.iinc 1 1, 3) := by decide +kernel
theorem dX10_init_130 : decode cX10_init 130 = .ok (.goto (-21), 3) := by decide +kernel
theorem dX10_init_133 : decode cX10_init 133 = .ok (.aload_n 0, 1) := by decide +kernel
theorem dX10_init_134 : decode cX10_init 134 = .ok (.getfield 20, 3) := by decide +kernel
theorem dX10_init_137 : decode cX10_init 137 = .ok (.ldc 67, 2) := by decide +kernel
theorem dX10_init_139 : decode cX10_init 139 = .ok (.invokevirtual 69, 3) := by decide +kernel
theorem dX10_init_142 : decode cX10_init 142 = .ok (.aload_n 0, 1) := by decide +kernel
theorem dX10_init_143 : decode cX10_init 143 = .ok (.getfield 10, 3) := by decide +kernel
theorem dX10_init_146 : decode cX10_init 146 = .ok (.aload_n 0, 1) := by decide +kernel
theorem dX10_init_147 : decode cX10_init 147 = .ok (.getfield 45, 3) := by decide +kernel
theorem dX10_init_150 : decode cX10_init 150 = .ok (.invokevirtual 75, 3) := by decide +kernel
theorem dX10_init_153 : decode cX10_init 153 = .ok (.pop, 1) := by decide +kernel
theorem dX10_init_154 : decode cX10_init 154 = .ok (.aload_n 0, 1) := by decide +kernel
theorem dX10_init_155 : decode cX10_init 155 = .ok (.getfield 20, 3) := by decide +kernel
theorem dX10_init_158 : decode cX10_init 158 = .ok (.iconst 0, 1) := by decide +kernel
theorem dX10_init_159 : decode cX10_init 159 = .ok (.putfield 79, 3) := by decide +kernel
theorem dX10_init_162 : decode cX10_init 162 = .ok (.return_, 1) := by decide +kernel
theorem dX10_append_0 : decode cX10_append 0 = .ok (.aload_n 0, 1) := by decide +kernel
theorem dX10_append_1 : decode cX10_append 1 = .ok (.getfield 20, 3) := by decide +kernel
theorem dX10_append_4 : decode cX10_append 4 = .ok (.getfield 79, 3) := by decide +kernel
theorem dX10_append_7 : decode cX10_append 7 = .ok (.sipush 580, 3) := by decide +kernel
theorem dX10_append_10 : decode cX10_append 10 = .ok (.if_icmp .le 13, 3) := by decide +kernel
theorem dX10_append_13 : decode cX10_append 13 = .ok (.new 83, 3) := by decide +kernel
theorem dX10_append_16 : decode cX10_append 16 = .ok (.dup, 1) := by decide +kernel
theorem dX10_append_17 : decode cX10_append 17 = .ok (.ldc 85, 2) := by decide +kernel
theorem dX10_append_19 : decode cX10_append 19 = .ok (.invokespecial 87, 3) := by decide +kernel
theorem dX10_append_22 : decode cX10_append 22 = .ok (.athrow, 1) := by decide +kernel
theorem dX10_append_23 : decode cX10_append 23 = .ok (.aload_n 0, 1) := by decide +kernel
theorem dX10_append_24 : decode cX10_append 24 = .ok (.getfield 20, 3) := by decide +kernel
theorem dX10_append_27 : decode cX10_append 27 = .ok (.iload_n 1, 1) := by decide +kernel
theorem dX10_append_28 : decode cX10_append 28 = .ok (.invokevirtual 89, 3) := by decide +kernel
theorem dX10_append_31 : decode cX10_append 31 = .ok (.aload_n 0, 1) := by decide +kernel
theorem dX10_append_32 : decode cX10_append 32 = .ok (.getfield 20, 3) := by decide +kernel
theorem dX10_append_35 : decode cX10_append 35 = .ok (.iload_n 2, 1) := by decide +kernel
theorem dX10_append_36 : decode cX10_append 36 = .ok (.invokevirtual 89, 3) := by decide +kernel
theorem dX10_append_39 : decode cX10_append 39 = .ok (.aload_n 0, 1) := by decide +kernel
theorem dX10_append_40 : decode cX10_append 40 = .ok (.getfield 20, 3) := by decide +kernel
theorem dX10_append_43 : decode cX10_append 43 = .ok (.iload_n 3, 1) := by decide +kernel
theorem dX10_append_44 : decode cX10_append 44 = .ok (.invokevirtual 89, 3) := by decide +kernel
theorem dX10_append_47 : decode cX10_append 47 = .ok (.aload_n 0, 1) := by decide +kernel
theorem dX10_append_48 : decode cX10_append 48 = .ok (.getfield 20, 3) := by decide +kernel
theorem dX10_append_51 : decode cX10_append 51 = .ok (.iload 4, 2) := by decide +kernel
theorem dX10_append_53 : decode cX10_append 53 = .ok (.invokevirtual 89, 3) := by decide +kernel
theorem dX10_append_56 : decode cX10_append 56 = .ok (.aload_n 0, 1) := by decide +kernel
theorem dX10_append_57 : decode cX10_append 57 = .ok (.getfield 20, 3) := by decide +kernel
theorem dX10_append_60 : decode cX10_append 60 = .ok (.iload 5, 2) := by decide +kernel
theorem dX10_append_62 : decode cX10_append 62 = .ok (.invokevirtual 89, 3) := by decide +kernel
theorem dX10_append_65 : decode cX10_append 65 = .ok (.aload_n 0, 1) := by decide +kernel
theorem dX10_append_66 : decode cX10_append 66 = .ok (.getfield 20, 3) := by decide +kernel
theorem dX10_append_69 : decode cX10_append 69 = .ok (.getfield 79, 3) := by decide +kernel
theorem dX10_append_72 : decode cX10_append 72 = .ok (.ireturn, 1) := by decide +kernel
theorem dX10_truncate_0 : decode cX10_truncate 0 = .ok (.iload_n 1, 1) := by decide +kernel
theorem dX10_truncate_1 : decode cX10_truncate 1 = .ok (.ifCond .lt 14, 3) := by decide +kernel
theorem dX10_truncate_4 : decode cX10_truncate 4 = .ok (.iload_n 1, 1) := by decide +kernel
theorem dX10_truncate_5 : decode cX10_truncate 5 = .ok (.aload_n 0, 1) := by decide +kernel
theorem dX10_truncate_6 : decode cX10_truncate 6 = .ok (.getfield 20, 3) := by decide +kernel
theorem dX10_truncate_9 : decode cX10_truncate 9 = .ok (.getfield 79, 3) := by decide +kernel
theorem dX10_truncate_12 : decode cX10_truncate 12 = .ok (.if_icmp .le 13, 3) := by decide +kernel
theorem dX10_truncate_15 : decode cX10_truncate 15 = .ok (.new 93, 3) := by decide +kernel
theorem dX10_truncate_18 : decode cX10_truncate 18 = .ok (.dup, 1) := by decide +kernel
theorem dX10_truncate_19 : decode cX10_truncate 19 = .ok (.ldc 95, 2) := by decide +kernel
theorem dX10_truncate_21 : decode cX10_truncate 21 = .ok (.invokespecial 97, 3) := by decide +kernel
theorem dX10_truncate_24 : decode cX10_truncate 24 = .ok (.athrow, 1) := by decide +kernel
theorem dX10_truncate_25 : decode cX10_truncate 25 = .ok (.aload_n 0, 1) := by decide +kernel
theorem dX10_truncate_26 : decode cX10_truncate 26 = .ok (.getfield 20, 3) := by decide +kernel
theorem dX10_truncate_29 : decode cX10_truncate 29 = .ok (.iload_n 1, 1) := by decide +kernel
theorem dX10_truncate_30 : decode cX10_truncate 30 = .ok (.putfield 79, 3) := by decide +kernel
theorem dX10_truncate_33 : decode cX10_truncate 33 = .ok (.iload_n 1, 1) := by decide +kernel
theorem dX10_truncate_34 : decode cX10_truncate 34 = .ok (.ireturn, 1) := by decide +kernel
theorem dX10_load_0 : decode cX10_load 0 = .ok (.aload_n 0, 1) := by decide +kernel
theorem dX10_load_1 : decode cX10_load 1 = .ok (.getfield 10, 3) := by decide +kernel
theorem dX10_load_4 : decode cX10_load 4 = .ok (.aload_n 0, 1) := by decide +kernel
theorem dX10_load_5 : decode cX10_load 5 = .ok (.getfield 49, 3) := by decide +kernel
theorem dX10_load_8 : decode cX10_load 8 = .ok (.invokevirtual 75, 3) := by decide +kernel
theorem dX10_load_11 : decode cX10_load 11 = .ok (.istore_n 1, 1) := by decide +kernel
theorem dX10_load_12 : decode cX10_load 12 = .ok (.aload_n 0, 1) := by decide +kernel
theorem dX10_load_13 : decode cX10_load 13 = .ok (.getfield 20, 3) := by decide +kernel
theorem dX10_load_16 : decode cX10_load 16 = .ok (.iconst 0, 1) := by decide +kernel
theorem dX10_load_17 : decode cX10_load 17 = .ok (.putfield 79, 3) := by decide +kernel
theorem dX10_load_20 : decode cX10_load 20 = .ok (.iload_n 1, 1) := by decide +kernel
theorem dX10_load_21 : decode cX10_load 21 = .ok (.ifCond .ne 13, 3) := by decide +kernel
theorem dX10_load_24 : decode cX10_load 24 = .ok (.new 93, 3) := by decide +kernel
theorem dX10_load_27 : decode cX10_load 27 = .ok (.dup, 1) := by decide +kernel
theorem dX10_load_28 : decode cX10_load 28 = .ok (.ldc 98, 2) := by decide +kernel
theorem dX10_load_30 : decode cX10_load 30 = .ok (.invokespecial 97, 3) := by decide +kernel
theorem dX10_load_33 : decode cX10_load 33 = .ok (.athrow, 1) := by decide +kernel
theorem dX10_load_34 : decode cX10_load 34 = .ok (.aload_n 0, 1) := by decide +kernel
theorem dX10_load_35 : decode cX10_load 35 = .ok (.getfield 45, 3) := by decide +kernel
theorem dX10_load_38 : decode cX10_load 38 = .ok (.aload_n 0, 1) := by decide +kernel
theorem dX10_load_39 : decode cX10_load 39 = .ok (.getfield 49, 3) := by decide +kernel
theorem dX10_load_42 : decode cX10_load 42 = .ok (.invokevirtual 100, 3) := by decide +kernel
theorem dX10_load_45 : decode cX10_load 45 = .ok (.aload_n 0, 1) := by decide +kernel
theorem dX10_load_46 : decode cX10_load 46 = .ok (.getfield 55, 3) := by decide +kernel
theorem dX10_load_49 : decode cX10_load 49 = .ok (.iconst 0, 1) := by decide +kernel
theorem dX10_load_50 : decode cX10_load 50 = .ok (.putfield 104, 3) := by decide +kernel
theorem dX10_load_53 : decode cX10_load 53 = .ok (.iconst 0, 1) := by decide +kernel
theorem dX10_load_54 : decode cX10_load 54 = .ok (.istore_n 2, 1) := by decide +kernel
theorem dX10_load_55 : decode cX10_load 55 = .ok (.iload_n 2, 1) := by decide +kernel
theorem dX10_load_56 : decode cX10_load 56 = .ok (.iconst 2, 1) := by decide +kernel
theorem dX10_load_57 : decode cX10_load 57 = .ok (.if_icmp .ge 16, 3) := by decide +kernel
theorem dX10_load_60 : decode cX10_load 60 = .ok (.aload_n 0, 1) := by decide +kernel
theorem dX10_load_61 : decode cX10_load 61 = .ok (.getfield 63, 3) := by decide +kernel
theorem dX10_load_64 : decode cX10_load 64 = .ok (.iload_n 2, 1) := by decide +kernel
theorem dX10_load_65 : decode cX10_load 65 = .ok (.iconst 0, 1) := by decide +kernel
theorem dX10_load_66 : decode cX10_load 66 = .ok (.bastore, 1) := by decide +kernel
theorem dX10_load_67 : decode cX10_load 67 = .ok (.iinc 2 1, 3) := by decide +kernel
theorem dX10_load_70 : decode cX10_load 70 = .ok (.goto (-15), 3) := by decide +kernel
theorem dX10_load_73 : decode cX10_load 73 = .ok (.aload_n 0, 1) := by decide +kernel
theorem dX10_load_74 : decode cX10_load 74 = .ok (.getfield 45, 3) := by decide +kernel
theorem dX10_load_77 : decode cX10_load 77 = .ok (.getfield 107, 3) := by decide +kernel
theorem dX10_load_80 : decode cX10_load 80 = .ok (.getfield 111, 3) := by decide +kernel
theorem dX10_load_83 : decode cX10_load 83 = .ok (.ireturn, 1) := by decide +kernel
theorem dX10_errorCode_0 : decode cX10_errorCode 0 = .ok (.aload_n 0, 1) := by decide +kernel
theorem dX10_errorCode_1 : decode cX10_errorCode 1 = .ok (.getfield 10, 3) := by decide +kernel
theorem dX10_errorCode_4 : decode cX10_errorCode 4 = .ok (.getfield 114, 3) := by decide +kernel
theorem dX10_errorCode_7 : decode cX10_errorCode 7 = .ok (.ireturn, 1) := by decide +kernel
theorem dX10_errorPosition_0 : decode cX10_errorPosition 0 = .ok (.aload_n 0, 1) := by decide +kernel
theorem dX10_errorPosition_1 : decode cX10_errorPosition 1 = .ok (.getfield 10, 3) := by decide +kernel
theorem dX10_errorPosition_4 : decode cX10_errorPosition 4 = .ok (.getfield 117, 3) := by decide +kernel
theorem dX10_errorPosition_7 : decode cX10_errorPosition 7 = .ok (.ireturn, 1) := by decide +kernel
theorem dX10_pastureCount_0 : decode cX10_pastureCount 0 = .ok (.aload_n 0, 1) := by decide +kernel
theorem dX10_pastureCount_1 : decode cX10_pastureCount 1 = .ok (.getfield 45, 3) := by decide +kernel
theorem dX10_pastureCount_4 : decode cX10_pastureCount 4 = .ok (.getfield 120, 3) := by decide +kernel
theorem dX10_pastureCount_7 : decode cX10_pastureCount 7 = .ok (.getfield 111, 3) := by decide +kernel
theorem dX10_pastureCount_10 : decode cX10_pastureCount 10 = .ok (.ireturn, 1) := by decide +kernel
theorem dX10_herdCount_0 : decode cX10_herdCount 0 = .ok (.aload_n 0, 1) := by decide +kernel
theorem dX10_herdCount_1 : decode cX10_herdCount 1 = .ok (.getfield 45, 3) := by decide +kernel
theorem dX10_herdCount_4 : decode cX10_herdCount 4 = .ok (.getfield 107, 3) := by decide +kernel
theorem dX10_herdCount_7 : decode cX10_herdCount 7 = .ok (.getfield 111, 3) := by decide +kernel
theorem dX10_herdCount_10 : decode cX10_herdCount 10 = .ok (.ireturn, 1) := by decide +kernel
theorem dX10_capacity_0 : decode cX10_capacity 0 = .ok (.aload_n 0, 1) := by decide +kernel
theorem dX10_capacity_1 : decode cX10_capacity 1 = .ok (.getfield 45, 3) := by decide +kernel
theorem dX10_capacity_4 : decode cX10_capacity 4 = .ok (.iload_n 1, 1) := by decide +kernel
theorem dX10_capacity_5 : decode cX10_capacity 5 = .ok (.invokestatic 123, 3) := by decide +kernel
theorem dX10_capacity_8 : decode cX10_capacity 8 = .ok (.invokestatic 129, 3) := by decide +kernel
theorem dX10_capacity_11 : decode cX10_capacity 11 = .ok (.aload_n 0, 1) := by decide +kernel
theorem dX10_capacity_12 : decode cX10_capacity 12 = .ok (.getfield 45, 3) := by decide +kernel
theorem dX10_capacity_15 : decode cX10_capacity 15 = .ok (.getfield 132, 3) := by decide +kernel
theorem dX10_capacity_18 : decode cX10_capacity 18 = .ok (.iload_n 1, 1) := by decide +kernel
theorem dX10_capacity_19 : decode cX10_capacity 19 = .ok (.iaload, 1) := by decide +kernel
theorem dX10_capacity_20 : decode cX10_capacity 20 = .ok (.ireturn, 1) := by decide +kernel
theorem dX10_available_0 : decode cX10_available 0 = .ok (.aload_n 0, 1) := by decide +kernel
theorem dX10_available_1 : decode cX10_available 1 = .ok (.getfield 45, 3) := by decide +kernel
theorem dX10_available_4 : decode cX10_available 4 = .ok (.iload_n 1, 1) := by decide +kernel
theorem dX10_available_5 : decode cX10_available 5 = .ok (.invokestatic 123, 3) := by decide +kernel
theorem dX10_available_8 : decode cX10_available 8 = .ok (.invokestatic 129, 3) := by decide +kernel
theorem dX10_available_11 : decode cX10_available 11 = .ok (.aload_n 0, 1) := by decide +kernel
theorem dX10_available_12 : decode cX10_available 12 = .ok (.getfield 45, 3) := by decide +kernel
theorem dX10_available_15 : decode cX10_available 15 = .ok (.iload_n 1, 1) := by decide +kernel
theorem dX10_available_16 : decode cX10_available 16 = .ok (.invokevirtual 136, 3) := by decide +kernel
theorem dX10_available_19 : decode cX10_available 19 = .ok (.ireturn, 1) := by decide +kernel
theorem dX10_maximum_0 : decode cX10_maximum 0 = .ok (.aload_n 0, 1) := by decide +kernel
theorem dX10_maximum_1 : decode cX10_maximum 1 = .ok (.getfield 45, 3) := by decide +kernel
theorem dX10_maximum_4 : decode cX10_maximum 4 = .ok (.iload_n 1, 1) := by decide +kernel
theorem dX10_maximum_5 : decode cX10_maximum 5 = .ok (.iload_n 2, 1) := by decide +kernel
theorem dX10_maximum_6 : decode cX10_maximum 6 = .ok (.invokestatic 140, 3) := by decide +kernel
theorem dX10_maximum_9 : decode cX10_maximum 9 = .ok (.invokestatic 129, 3) := by decide +kernel
theorem dX10_maximum_12 : decode cX10_maximum 12 = .ok (.aload_n 0, 1) := by decide +kernel
theorem dX10_maximum_13 : decode cX10_maximum 13 = .ok (.getfield 45, 3) := by decide +kernel
theorem dX10_maximum_16 : decode cX10_maximum 16 = .ok (.getfield 144, 3) := by decide +kernel
theorem dX10_maximum_19 : decode cX10_maximum 19 = .ok (.iload_n 1, 1) := by decide +kernel
theorem dX10_maximum_20 : decode cX10_maximum 20 = .ok (.iload_n 2, 1) := by decide +kernel
theorem dX10_maximum_21 : decode cX10_maximum 21 = .ok (.invokestatic 147, 3) := by decide +kernel
theorem dX10_maximum_24 : decode cX10_maximum 24 = .ok (.iaload, 1) := by decide +kernel
theorem dX10_maximum_25 : decode cX10_maximum 25 = .ok (.ireturn, 1) := by decide +kernel
theorem dX10_allocation_0 : decode cX10_allocation 0 = .ok (.aload_n 0, 1) := by decide +kernel
theorem dX10_allocation_1 : decode cX10_allocation 1 = .ok (.getfield 45, 3) := by decide +kernel
theorem dX10_allocation_4 : decode cX10_allocation 4 = .ok (.iload_n 1, 1) := by decide +kernel
theorem dX10_allocation_5 : decode cX10_allocation 5 = .ok (.iload_n 2, 1) := by decide +kernel
theorem dX10_allocation_6 : decode cX10_allocation 6 = .ok (.invokestatic 140, 3) := by decide +kernel
theorem dX10_allocation_9 : decode cX10_allocation 9 = .ok (.invokestatic 129, 3) := by decide +kernel
theorem dX10_allocation_12 : decode cX10_allocation 12 = .ok (.aload_n 0, 1) := by decide +kernel
theorem dX10_allocation_13 : decode cX10_allocation 13 = .ok (.getfield 45, 3) := by decide +kernel
theorem dX10_allocation_16 : decode cX10_allocation 16 = .ok (.getfield 151, 3) := by decide +kernel
theorem dX10_allocation_19 : decode cX10_allocation 19 = .ok (.iload_n 1, 1) := by decide +kernel
theorem dX10_allocation_20 : decode cX10_allocation 20 = .ok (.iload_n 2, 1) := by decide +kernel
theorem dX10_allocation_21 : decode cX10_allocation 21 = .ok (.invokestatic 147, 3) := by decide +kernel
theorem dX10_allocation_24 : decode cX10_allocation 24 = .ok (.iaload, 1) := by decide +kernel
theorem dX10_allocation_25 : decode cX10_allocation 25 = .ok (.ireturn, 1) := by decide +kernel
theorem dX10_need_0 : decode cX10_need 0 = .ok (.aload_n 0, 1) := by decide +kernel
theorem dX10_need_1 : decode cX10_need 1 = .ok (.getfield 45, 3) := by decide +kernel
theorem dX10_need_4 : decode cX10_need 4 = .ok (.iload_n 1, 1) := by decide +kernel
theorem dX10_need_5 : decode cX10_need 5 = .ok (.iload_n 2, 1) := by decide +kernel
theorem dX10_need_6 : decode cX10_need 6 = .ok (.invokestatic 140, 3) := by decide +kernel
theorem dX10_need_9 : decode cX10_need 9 = .ok (.invokestatic 129, 3) := by decide +kernel
theorem dX10_need_12 : decode cX10_need 12 = .ok (.aload_n 0, 1) := by decide +kernel
theorem dX10_need_13 : decode cX10_need 13 = .ok (.getfield 45, 3) := by decide +kernel
theorem dX10_need_16 : decode cX10_need 16 = .ok (.iload_n 1, 1) := by decide +kernel
theorem dX10_need_17 : decode cX10_need 17 = .ok (.iload_n 2, 1) := by decide +kernel
theorem dX10_need_18 : decode cX10_need 18 = .ok (.invokevirtual 154, 3) := by decide +kernel
theorem dX10_need_21 : decode cX10_need 21 = .ok (.ireturn, 1) := by decide +kernel
theorem dX10_herdNameByte_0 : decode cX10_herdNameByte 0 = .ok (.aload_n 0, 1) := by decide +kernel
theorem dX10_herdNameByte_1 : decode cX10_herdNameByte 1 = .ok (.getfield 45, 3) := by decide +kernel
theorem dX10_herdNameByte_4 : decode cX10_herdNameByte 4 = .ok (.getfield 107, 3) := by decide +kernel
theorem dX10_herdNameByte_7 : decode cX10_herdNameByte 7 = .ok (.iload_n 1, 1) := by decide +kernel
theorem dX10_herdNameByte_8 : decode cX10_herdNameByte 8 = .ok (.iload_n 2, 1) := by decide +kernel
theorem dX10_herdNameByte_9 : decode cX10_herdNameByte 9 = .ok (.invokestatic 157, 3) := by decide +kernel
theorem dX10_herdNameByte_12 : decode cX10_herdNameByte 12 = .ok (.invokestatic 129, 3) := by decide +kernel
theorem dX10_herdNameByte_15 : decode cX10_herdNameByte 15 = .ok (.aload_n 0, 1) := by decide +kernel
theorem dX10_herdNameByte_16 : decode cX10_herdNameByte 16 = .ok (.getfield 45, 3) := by decide +kernel
theorem dX10_herdNameByte_19 : decode cX10_herdNameByte 19 = .ok (.getfield 107, 3) := by decide +kernel
theorem dX10_herdNameByte_22 : decode cX10_herdNameByte 22 = .ok (.iload_n 1, 1) := by decide +kernel
theorem dX10_herdNameByte_23 : decode cX10_herdNameByte 23 = .ok (.iload_n 2, 1) := by decide +kernel
theorem dX10_herdNameByte_24 : decode cX10_herdNameByte 24 = .ok (.invokevirtual 161, 3) := by decide +kernel
theorem dX10_herdNameByte_27 : decode cX10_herdNameByte 27 = .ok (.ireturn, 1) := by decide +kernel
theorem dX10_pastureNameByte_0 : decode cX10_pastureNameByte 0 = .ok (.aload_n 0, 1) := by decide +kernel
theorem dX10_pastureNameByte_1 : decode cX10_pastureNameByte 1 = .ok (.getfield 45, 3) := by decide +kernel
theorem dX10_pastureNameByte_4 : decode cX10_pastureNameByte 4 = .ok (.getfield 120, 3) := by decide +kernel
theorem dX10_pastureNameByte_7 : decode cX10_pastureNameByte 7 = .ok (.iload_n 1, 1) := by decide +kernel
theorem dX10_pastureNameByte_8 : decode cX10_pastureNameByte 8 = .ok (.iload_n 2, 1) := by decide +kernel
theorem dX10_pastureNameByte_9 : decode cX10_pastureNameByte 9 = .ok (.invokestatic 157, 3) := by decide +kernel
theorem dX10_pastureNameByte_12 : decode cX10_pastureNameByte 12 = .ok (.invokestatic 129, 3) := by decide +kernel
theorem dX10_pastureNameByte_15 : decode cX10_pastureNameByte 15 = .ok (.aload_n 0, 1) := by decide +kernel
theorem dX10_pastureNameByte_16 : decode cX10_pastureNameByte 16 = .ok (.getfield 45, 3) := by decide +kernel
theorem dX10_pastureNameByte_19 : decode cX10_pastureNameByte 19 = .ok (.getfield 120, 3) := by decide +kernel
theorem dX10_pastureNameByte_22 : decode cX10_pastureNameByte 22 = .ok (.iload_n 1, 1) := by decide +kernel
theorem dX10_pastureNameByte_23 : decode cX10_pastureNameByte 23 = .ok (.iload_n 2, 1) := by decide +kernel
theorem dX10_pastureNameByte_24 : decode cX10_pastureNameByte 24 = .ok (.invokevirtual 161, 3) := by decide +kernel
theorem dX10_pastureNameByte_27 : decode cX10_pastureNameByte 27 = .ok (.ireturn, 1) := by decide +kernel
theorem dX10_findHerd_0 : decode cX10_findHerd 0 = .ok (.aload_n 0, 1) := by decide +kernel
theorem dX10_findHerd_1 : decode cX10_findHerd 1 = .ok (.getfield 45, 3) := by decide +kernel
theorem dX10_findHerd_4 : decode cX10_findHerd 4 = .ok (.getfield 107, 3) := by decide +kernel
theorem dX10_findHerd_7 : decode cX10_findHerd 7 = .ok (.aload_n 0, 1) := by decide +kernel
theorem dX10_findHerd_8 : decode cX10_findHerd 8 = .ok (.getfield 20, 3) := by decide +kernel
theorem dX10_findHerd_11 : decode cX10_findHerd 11 = .ok (.getfield 164, 3) := by decide +kernel
theorem dX10_findHerd_14 : decode cX10_findHerd 14 = .ok (.iconst 0, 1) := by decide +kernel
theorem dX10_findHerd_15 : decode cX10_findHerd 15 = .ok (.aload_n 0, 1) := by decide +kernel
theorem dX10_findHerd_16 : decode cX10_findHerd 16 = .ok (.getfield 20, 3) := by decide +kernel
theorem dX10_findHerd_19 : decode cX10_findHerd 19 = .ok (.getfield 79, 3) := by decide +kernel
theorem dX10_findHerd_22 : decode cX10_findHerd 22 = .ok (.invokevirtual 168, 3) := by decide +kernel
theorem dX10_findHerd_25 : decode cX10_findHerd 25 = .ok (.istore_n 1, 1) := by decide +kernel
theorem dX10_findHerd_26 : decode cX10_findHerd 26 = .ok (.iload_n 1, 1) := by decide +kernel
theorem dX10_findHerd_27 : decode cX10_findHerd 27 = .ok (.iconst (-1), 1) := by decide +kernel
theorem dX10_findHerd_28 : decode cX10_findHerd 28 = .ok (.if_icmp .ne 13, 3) := by decide +kernel
theorem dX10_findHerd_31 : decode cX10_findHerd 31 = .ok (.new 172, 3) := by decide +kernel
theorem dX10_findHerd_34 : decode cX10_findHerd 34 = .ok (.dup, 1) := by decide +kernel
theorem dX10_findHerd_35 : decode cX10_findHerd 35 = .ok (.ldc 174, 2) := by decide +kernel
theorem dX10_findHerd_37 : decode cX10_findHerd 37 = .ok (.invokespecial 176, 3) := by decide +kernel
theorem dX10_findHerd_40 : decode cX10_findHerd 40 = .ok (.athrow, 1) := by decide +kernel
theorem dX10_findHerd_41 : decode cX10_findHerd 41 = .ok (.iload_n 1, 1) := by decide +kernel
theorem dX10_findHerd_42 : decode cX10_findHerd 42 = .ok (.ireturn, 1) := by decide +kernel
theorem dX10_isSafe_0 : decode cX10_isSafe 0 = .ok (.aload_n 0, 1) := by decide +kernel
theorem dX10_isSafe_1 : decode cX10_isSafe 1 = .ok (.getfield 38, 3) := by decide +kernel
theorem dX10_isSafe_4 : decode cX10_isSafe 4 = .ok (.aload_n 0, 1) := by decide +kernel
theorem dX10_isSafe_5 : decode cX10_isSafe 5 = .ok (.getfield 45, 3) := by decide +kernel
theorem dX10_isSafe_8 : decode cX10_isSafe 8 = .ok (.invokevirtual 177, 3) := by decide +kernel
theorem dX10_isSafe_11 : decode cX10_isSafe 11 = .ok (.ireturn, 1) := by decide +kernel
theorem dX10_safeOrder_0 : decode cX10_safeOrder 0 = .ok (.iload_n 1, 1) := by decide +kernel
theorem dX10_safeOrder_1 : decode cX10_safeOrder 1 = .ok (.ifCond .lt 31, 3) := by decide +kernel
theorem dX10_safeOrder_4 : decode cX10_safeOrder 4 = .ok (.iload_n 1, 1) := by decide +kernel
theorem dX10_safeOrder_5 : decode cX10_safeOrder 5 = .ok (.aload_n 0, 1) := by decide +kernel
theorem dX10_safeOrder_6 : decode cX10_safeOrder 6 = .ok (.getfield 45, 3) := by decide +kernel
theorem dX10_safeOrder_9 : decode cX10_safeOrder 9 = .ok (.getfield 107, 3) := by decide +kernel
theorem dX10_safeOrder_12 : decode cX10_safeOrder 12 = .ok (.getfield 111, 3) := by decide +kernel
theorem dX10_safeOrder_15 : decode cX10_safeOrder 15 = .ok (.if_icmp .ge 17, 3) := by decide +kernel
theorem dX10_safeOrder_18 : decode cX10_safeOrder 18 = .ok (.aload_n 0, 1) := by decide +kernel
theorem dX10_safeOrder_19 : decode cX10_safeOrder 19 = .ok (.getfield 38, 3) := by decide +kernel
theorem dX10_safeOrder_22 : decode cX10_safeOrder 22 = .ok (.aload_n 0, 1) := by decide +kernel
theorem dX10_safeOrder_23 : decode cX10_safeOrder 23 = .ok (.getfield 45, 3) := by decide +kernel
theorem dX10_safeOrder_26 : decode cX10_safeOrder 26 = .ok (.invokevirtual 177, 3) := by decide +kernel
theorem dX10_safeOrder_29 : decode cX10_safeOrder 29 = .ok (.ifCond .ne 5, 3) := by decide +kernel
theorem dX10_safeOrder_32 : decode cX10_safeOrder 32 = .ok (.iconst (-1), 1) := by decide +kernel
theorem dX10_safeOrder_33 : decode cX10_safeOrder 33 = .ok (.ireturn, 1) := by decide +kernel
theorem dX10_safeOrder_34 : decode cX10_safeOrder 34 = .ok (.aload_n 0, 1) := by decide +kernel
theorem dX10_safeOrder_35 : decode cX10_safeOrder 35 = .ok (.getfield 38, 3) := by decide +kernel
theorem dX10_safeOrder_38 : decode cX10_safeOrder 38 = .ok (.getfield 180, 3) := by decide +kernel
theorem dX10_safeOrder_41 : decode cX10_safeOrder 41 = .ok (.iload_n 1, 1) := by decide +kernel
theorem dX10_safeOrder_42 : decode cX10_safeOrder 42 = .ok (.iaload, 1) := by decide +kernel
theorem dX10_safeOrder_43 : decode cX10_safeOrder 43 = .ok (.ireturn, 1) := by decide +kernel
theorem dX10_canFinish_0 : decode cX10_canFinish 0 = .ok (.aload_n 0, 1) := by decide +kernel
theorem dX10_canFinish_1 : decode cX10_canFinish 1 = .ok (.getfield 45, 3) := by decide +kernel
theorem dX10_canFinish_4 : decode cX10_canFinish 4 = .ok (.iload_n 1, 1) := by decide +kernel
theorem dX10_canFinish_5 : decode cX10_canFinish 5 = .ok (.invokestatic 183, 3) := by decide +kernel
theorem dX10_canFinish_8 : decode cX10_canFinish 8 = .ok (.invokestatic 129, 3) := by decide +kernel
theorem dX10_canFinish_11 : decode cX10_canFinish 11 = .ok (.aload_n 0, 1) := by decide +kernel
theorem dX10_canFinish_12 : decode cX10_canFinish 12 = .ok (.getfield 38, 3) := by decide +kernel
theorem dX10_canFinish_15 : decode cX10_canFinish 15 = .ok (.aload_n 0, 1) := by decide +kernel
theorem dX10_canFinish_16 : decode cX10_canFinish 16 = .ok (.getfield 45, 3) := by decide +kernel
theorem dX10_canFinish_19 : decode cX10_canFinish 19 = .ok (.iload_n 1, 1) := by decide +kernel
theorem dX10_canFinish_20 : decode cX10_canFinish 20 = .ok (.invokevirtual 186, 3) := by decide +kernel
theorem dX10_canFinish_23 : decode cX10_canFinish 23 = .ok (.ireturn, 1) := by decide +kernel
theorem dX10_whyNotGranted_0 : decode cX10_whyNotGranted 0 = .ok (.aload_n 0, 1) := by decide +kernel
theorem dX10_whyNotGranted_1 : decode cX10_whyNotGranted 1 = .ok (.getfield 45, 3) := by decide +kernel
theorem dX10_whyNotGranted_4 : decode cX10_whyNotGranted 4 = .ok (.iload_n 1, 1) := by decide +kernel
theorem dX10_whyNotGranted_5 : decode cX10_whyNotGranted 5 = .ok (.iload_n 2, 1) := by decide +kernel
theorem dX10_whyNotGranted_6 : decode cX10_whyNotGranted 6 = .ok (.iload_n 3, 1) := by decide +kernel
theorem dX10_whyNotGranted_7 : decode cX10_whyNotGranted 7 = .ok (.invokestatic 190, 3) := by decide +kernel
theorem dX10_whyNotGranted_10 : decode cX10_whyNotGranted 10 = .ok (.invokestatic 129, 3) := by decide +kernel
theorem dX10_whyNotGranted_13 : decode cX10_whyNotGranted 13 = .ok (.aload_n 0, 1) := by decide +kernel
theorem dX10_whyNotGranted_14 : decode cX10_whyNotGranted 14 = .ok (.getfield 38, 3) := by decide +kernel
theorem dX10_whyNotGranted_17 : decode cX10_whyNotGranted 17 = .ok (.aload_n 0, 1) := by decide +kernel
theorem dX10_whyNotGranted_18 : decode cX10_whyNotGranted 18 = .ok (.getfield 45, 3) := by decide +kernel
theorem dX10_whyNotGranted_21 : decode cX10_whyNotGranted 21 = .ok (.iload_n 1, 1) := by decide +kernel
theorem dX10_whyNotGranted_22 : decode cX10_whyNotGranted 22 = .ok (.iload_n 2, 1) := by decide +kernel
theorem dX10_whyNotGranted_23 : decode cX10_whyNotGranted 23 = .ok (.iload_n 3, 1) := by decide +kernel
theorem dX10_whyNotGranted_24 : decode cX10_whyNotGranted 24 = .ok (.invokevirtual 194, 3) := by decide +kernel
theorem dX10_whyNotGranted_27 : decode cX10_whyNotGranted 27 = .ok (.ireturn, 1) := by decide +kernel
theorem dX10_largestGrant_0 : decode cX10_largestGrant 0 = .ok (.aload_n 0, 1) := by decide +kernel
theorem dX10_largestGrant_1 : decode cX10_largestGrant 1 = .ok (.getfield 45, 3) := by decide +kernel
theorem dX10_largestGrant_4 : decode cX10_largestGrant 4 = .ok (.iload_n 1, 1) := by decide +kernel
theorem dX10_largestGrant_5 : decode cX10_largestGrant 5 = .ok (.iload_n 2, 1) := by decide +kernel
theorem dX10_largestGrant_6 : decode cX10_largestGrant 6 = .ok (.invokestatic 140, 3) := by decide +kernel
theorem dX10_largestGrant_9 : decode cX10_largestGrant 9 = .ok (.invokestatic 129, 3) := by decide +kernel
theorem dX10_largestGrant_12 : decode cX10_largestGrant 12 = .ok (.aload_n 0, 1) := by decide +kernel
theorem dX10_largestGrant_13 : decode cX10_largestGrant 13 = .ok (.getfield 38, 3) := by decide +kernel
theorem dX10_largestGrant_16 : decode cX10_largestGrant 16 = .ok (.aload_n 0, 1) := by decide +kernel
theorem dX10_largestGrant_17 : decode cX10_largestGrant 17 = .ok (.getfield 45, 3) := by decide +kernel
theorem dX10_largestGrant_20 : decode cX10_largestGrant 20 = .ok (.iload_n 1, 1) := by decide +kernel
theorem dX10_largestGrant_21 : decode cX10_largestGrant 21 = .ok (.iload_n 2, 1) := by decide +kernel
theorem dX10_largestGrant_22 : decode cX10_largestGrant 22 = .ok (.invokevirtual 197, 3) := by decide +kernel
theorem dX10_largestGrant_25 : decode cX10_largestGrant 25 = .ok (.ireturn, 1) := by decide +kernel
theorem dX10_safeCapacity_0 : decode cX10_safeCapacity 0 = .ok (.aload_n 0, 1) := by decide +kernel
theorem dX10_safeCapacity_1 : decode cX10_safeCapacity 1 = .ok (.getfield 45, 3) := by decide +kernel
theorem dX10_safeCapacity_4 : decode cX10_safeCapacity 4 = .ok (.iload_n 1, 1) := by decide +kernel
theorem dX10_safeCapacity_5 : decode cX10_safeCapacity 5 = .ok (.invokestatic 123, 3) := by decide +kernel
theorem dX10_safeCapacity_8 : decode cX10_safeCapacity 8 = .ok (.invokestatic 129, 3) := by decide +kernel
theorem dX10_safeCapacity_11 : decode cX10_safeCapacity 11 = .ok (.aload_n 0, 1) := by decide +kernel
theorem dX10_safeCapacity_12 : decode cX10_safeCapacity 12 = .ok (.getfield 38, 3) := by decide +kernel
theorem dX10_safeCapacity_15 : decode cX10_safeCapacity 15 = .ok (.aload_n 0, 1) := by decide +kernel
theorem dX10_safeCapacity_16 : decode cX10_safeCapacity 16 = .ok (.getfield 45, 3) := by decide +kernel
theorem dX10_safeCapacity_19 : decode cX10_safeCapacity 19 = .ok (.iload_n 1, 1) := by decide +kernel
theorem dX10_safeCapacity_20 : decode cX10_safeCapacity 20 = .ok (.invokevirtual 200, 3) := by decide +kernel
theorem dX10_safeCapacity_23 : decode cX10_safeCapacity 23 = .ok (.ireturn, 1) := by decide +kernel
theorem dX10_bestToFinish_0 : decode cX10_bestToFinish 0 = .ok (.aload_n 0, 1) := by decide +kernel
theorem dX10_bestToFinish_1 : decode cX10_bestToFinish 1 = .ok (.getfield 38, 3) := by decide +kernel
theorem dX10_bestToFinish_4 : decode cX10_bestToFinish 4 = .ok (.aload_n 0, 1) := by decide +kernel
theorem dX10_bestToFinish_5 : decode cX10_bestToFinish 5 = .ok (.getfield 45, 3) := by decide +kernel
theorem dX10_bestToFinish_8 : decode cX10_bestToFinish 8 = .ok (.aload_n 0, 1) := by decide +kernel
theorem dX10_bestToFinish_9 : decode cX10_bestToFinish 9 = .ok (.getfield 49, 3) := by decide +kernel
theorem dX10_bestToFinish_12 : decode cX10_bestToFinish 12 = .ok (.invokevirtual 203, 3) := by decide +kernel
theorem dX10_bestToFinish_15 : decode cX10_bestToFinish 15 = .ok (.ireturn, 1) := by decide +kernel
theorem dX10_queueLength_0 : decode cX10_queueLength 0 = .ok (.aload_n 0, 1) := by decide +kernel
theorem dX10_queueLength_1 : decode cX10_queueLength 1 = .ok (.getfield 45, 3) := by decide +kernel
theorem dX10_queueLength_4 : decode cX10_queueLength 4 = .ok (.getfield 207, 3) := by decide +kernel
theorem dX10_queueLength_7 : decode cX10_queueLength 7 = .ok (.ireturn, 1) := by decide +kernel
theorem dX10_queuedHerd_0 : decode cX10_queuedHerd 0 = .ok (.iload_n 1, 1) := by decide +kernel
theorem dX10_queuedHerd_1 : decode cX10_queuedHerd 1 = .ok (.ifCond .lt 26, 3) := by decide +kernel
theorem dX10_queuedHerd_4 : decode cX10_queuedHerd 4 = .ok (.iload_n 1, 1) := by decide +kernel
theorem dX10_queuedHerd_5 : decode cX10_queuedHerd 5 = .ok (.aload_n 0, 1) := by decide +kernel
theorem dX10_queuedHerd_6 : decode cX10_queuedHerd 6 = .ok (.getfield 45, 3) := by decide +kernel
theorem dX10_queuedHerd_9 : decode cX10_queuedHerd 9 = .ok (.getfield 207, 3) := by decide +kernel
theorem dX10_queuedHerd_12 : decode cX10_queuedHerd 12 = .ok (.if_icmp .ge 15, 3) := by decide +kernel
theorem dX10_queuedHerd_15 : decode cX10_queuedHerd 15 = .ok (.aload_n 0, 1) := by decide +kernel
theorem dX10_queuedHerd_16 : decode cX10_queuedHerd 16 = .ok (.getfield 45, 3) := by decide +kernel
theorem dX10_queuedHerd_19 : decode cX10_queuedHerd 19 = .ok (.getfield 210, 3) := by decide +kernel
theorem dX10_queuedHerd_22 : decode cX10_queuedHerd 22 = .ok (.iload_n 1, 1) := by decide +kernel
theorem dX10_queuedHerd_23 : decode cX10_queuedHerd 23 = .ok (.iaload, 1) := by decide +kernel
theorem dX10_queuedHerd_24 : decode cX10_queuedHerd 24 = .ok (.goto 4, 3) := by decide +kernel
theorem dX10_queuedHerd_27 : decode cX10_queuedHerd 27 = .ok (.iconst (-1), 1) := by decide +kernel
theorem dX10_queuedHerd_28 : decode cX10_queuedHerd 28 = .ok (.ireturn, 1) := by decide +kernel
theorem dX10_isWaiting_0 : decode cX10_isWaiting 0 = .ok (.aload_n 0, 1) := by decide +kernel
theorem dX10_isWaiting_1 : decode cX10_isWaiting 1 = .ok (.getfield 45, 3) := by decide +kernel
theorem dX10_isWaiting_4 : decode cX10_isWaiting 4 = .ok (.iload_n 1, 1) := by decide +kernel
theorem dX10_isWaiting_5 : decode cX10_isWaiting 5 = .ok (.invokestatic 183, 3) := by decide +kernel
theorem dX10_isWaiting_8 : decode cX10_isWaiting 8 = .ok (.invokestatic 129, 3) := by decide +kernel
theorem dX10_isWaiting_11 : decode cX10_isWaiting 11 = .ok (.aload_n 0, 1) := by decide +kernel
theorem dX10_isWaiting_12 : decode cX10_isWaiting 12 = .ok (.getfield 45, 3) := by decide +kernel
theorem dX10_isWaiting_15 : decode cX10_isWaiting 15 = .ok (.iload_n 1, 1) := by decide +kernel
theorem dX10_isWaiting_16 : decode cX10_isWaiting 16 = .ok (.invokevirtual 213, 3) := by decide +kernel
theorem dX10_isWaiting_19 : decode cX10_isWaiting 19 = .ok (.ireturn, 1) := by decide +kernel
theorem dX10_requestedPasture_0 : decode cX10_requestedPasture 0 = .ok (.aload_n 0, 1) := by decide +kernel
theorem dX10_requestedPasture_1 : decode cX10_requestedPasture 1 = .ok (.getfield 45, 3) := by decide +kernel
theorem dX10_requestedPasture_4 : decode cX10_requestedPasture 4 = .ok (.iload_n 1, 1) := by decide +kernel
theorem dX10_requestedPasture_5 : decode cX10_requestedPasture 5 = .ok (.invokestatic 183, 3) := by decide +kernel
theorem dX10_requestedPasture_8 : decode cX10_requestedPasture 8 = .ok (.invokestatic 129, 3) := by decide +kernel
theorem dX10_requestedPasture_11 : decode cX10_requestedPasture 11 = .ok (.aload_n 0, 1) := by decide +kernel
theorem dX10_requestedPasture_12 : decode cX10_requestedPasture 12 = .ok (.getfield 45, 3) := by decide +kernel
theorem dX10_requestedPasture_15 : decode cX10_requestedPasture 15 = .ok (.iload_n 1, 1) := by decide +kernel
theorem dX10_requestedPasture_16 : decode cX10_requestedPasture 16 = .ok (.invokevirtual 213, 3) := by decide +kernel
theorem dX10_requestedPasture_19 : decode cX10_requestedPasture 19 = .ok (.ifCond .eq 15, 3) := by decide +kernel
theorem dX10_requestedPasture_22 : decode cX10_requestedPasture 22 = .ok (.aload_n 0, 1) := by decide +kernel
theorem dX10_requestedPasture_23 : decode cX10_requestedPasture 23 = .ok (.getfield 45, 3) := by decide +kernel
theorem dX10_requestedPasture_26 : decode cX10_requestedPasture 26 = .ok (.getfield 217, 3) := by decide +kernel
theorem dX10_requestedPasture_29 : decode cX10_requestedPasture 29 = .ok (.iload_n 1, 1) := by decide +kernel
theorem dX10_requestedPasture_30 : decode cX10_requestedPasture 30 = .ok (.iaload, 1) := by decide +kernel
theorem dX10_requestedPasture_31 : decode cX10_requestedPasture 31 = .ok (.goto 4, 3) := by decide +kernel
theorem dX10_requestedPasture_34 : decode cX10_requestedPasture 34 = .ok (.iconst (-1), 1) := by decide +kernel
theorem dX10_requestedPasture_35 : decode cX10_requestedPasture 35 = .ok (.ireturn, 1) := by decide +kernel
theorem dX10_requestedAmount_0 : decode cX10_requestedAmount 0 = .ok (.aload_n 0, 1) := by decide +kernel
theorem dX10_requestedAmount_1 : decode cX10_requestedAmount 1 = .ok (.getfield 45, 3) := by decide +kernel
theorem dX10_requestedAmount_4 : decode cX10_requestedAmount 4 = .ok (.iload_n 1, 1) := by decide +kernel
theorem dX10_requestedAmount_5 : decode cX10_requestedAmount 5 = .ok (.invokestatic 183, 3) := by decide +kernel
theorem dX10_requestedAmount_8 : decode cX10_requestedAmount 8 = .ok (.invokestatic 129, 3) := by decide +kernel
theorem dX10_requestedAmount_11 : decode cX10_requestedAmount 11 = .ok (.aload_n 0, 1) := by decide +kernel
theorem dX10_requestedAmount_12 : decode cX10_requestedAmount 12 = .ok (.getfield 45, 3) := by decide +kernel
theorem dX10_requestedAmount_15 : decode cX10_requestedAmount 15 = .ok (.getfield 220, 3) := by decide +kernel
theorem dX10_requestedAmount_18 : decode cX10_requestedAmount 18 = .ok (.iload_n 1, 1) := by decide +kernel
theorem dX10_requestedAmount_19 : decode cX10_requestedAmount 19 = .ok (.iaload, 1) := by decide +kernel
theorem dX10_requestedAmount_20 : decode cX10_requestedAmount 20 = .ok (.ireturn, 1) := by decide +kernel
theorem dX10_waitsFor_0 : decode cX10_waitsFor 0 = .ok (.aload_n 0, 1) := by decide +kernel
theorem dX10_waitsFor_1 : decode cX10_waitsFor 1 = .ok (.getfield 45, 3) := by decide +kernel
theorem dX10_waitsFor_4 : decode cX10_waitsFor 4 = .ok (.iload_n 1, 1) := by decide +kernel
theorem dX10_waitsFor_5 : decode cX10_waitsFor 5 = .ok (.iload_n 2, 1) := by decide +kernel
theorem dX10_waitsFor_6 : decode cX10_waitsFor 6 = .ok (.invokestatic 223, 3) := by decide +kernel
theorem dX10_waitsFor_9 : decode cX10_waitsFor 9 = .ok (.invokestatic 129, 3) := by decide +kernel
theorem dX10_waitsFor_12 : decode cX10_waitsFor 12 = .ok (.iload_n 1, 1) := by decide +kernel
theorem dX10_waitsFor_13 : decode cX10_waitsFor 13 = .ok (.iload_n 2, 1) := by decide +kernel
theorem dX10_waitsFor_14 : decode cX10_waitsFor 14 = .ok (.if_icmp .eq 19, 3) := by decide +kernel
theorem dX10_waitsFor_17 : decode cX10_waitsFor 17 = .ok (.aload_n 0, 1) := by decide +kernel
theorem dX10_waitsFor_18 : decode cX10_waitsFor 18 = .ok (.getfield 45, 3) := by decide +kernel
theorem dX10_waitsFor_21 : decode cX10_waitsFor 21 = .ok (.iload_n 1, 1) := by decide +kernel
theorem dX10_waitsFor_22 : decode cX10_waitsFor 22 = .ok (.iload_n 2, 1) := by decide +kernel
theorem dX10_waitsFor_23 : decode cX10_waitsFor 23 = .ok (.invokevirtual 226, 3) := by decide +kernel
theorem dX10_waitsFor_26 : decode cX10_waitsFor 26 = .ok (.ifCond .eq 7, 3) := by decide +kernel
theorem dX10_waitsFor_29 : decode cX10_waitsFor 29 = .ok (.iconst 1, 1) := by decide +kernel
theorem dX10_waitsFor_30 : decode cX10_waitsFor 30 = .ok (.goto 4, 3) := by decide +kernel
theorem dX10_waitsFor_33 : decode cX10_waitsFor 33 = .ok (.iconst 0, 1) := by decide +kernel
theorem dX10_waitsFor_34 : decode cX10_waitsFor 34 = .ok (.ireturn, 1) := by decide +kernel
theorem dX10_isDeadlocked_0 : decode cX10_isDeadlocked 0 = .ok (.aload_n 0, 1) := by decide +kernel
theorem dX10_isDeadlocked_1 : decode cX10_isDeadlocked 1 = .ok (.getfield 45, 3) := by decide +kernel
theorem dX10_isDeadlocked_4 : decode cX10_isDeadlocked 4 = .ok (.iload_n 1, 1) := by decide +kernel
theorem dX10_isDeadlocked_5 : decode cX10_isDeadlocked 5 = .ok (.invokestatic 183, 3) := by decide +kernel
theorem dX10_isDeadlocked_8 : decode cX10_isDeadlocked 8 = .ok (.invokestatic 129, 3) := by decide +kernel
theorem dX10_isDeadlocked_11 : decode cX10_isDeadlocked 11 = .ok (.aload_n 0, 1) := by decide +kernel
theorem dX10_isDeadlocked_12 : decode cX10_isDeadlocked 12 = .ok (.getfield 38, 3) := by decide +kernel
theorem dX10_isDeadlocked_15 : decode cX10_isDeadlocked 15 = .ok (.aload_n 0, 1) := by decide +kernel
theorem dX10_isDeadlocked_16 : decode cX10_isDeadlocked 16 = .ok (.getfield 45, 3) := by decide +kernel
theorem dX10_isDeadlocked_19 : decode cX10_isDeadlocked 19 = .ok (.invokevirtual 230, 3) := by decide +kernel
theorem dX10_isDeadlocked_22 : decode cX10_isDeadlocked 22 = .ok (.iload_n 1, 1) := by decide +kernel
theorem dX10_isDeadlocked_23 : decode cX10_isDeadlocked 23 = .ok (.invokestatic 234, 3) := by decide +kernel
theorem dX10_isDeadlocked_26 : decode cX10_isDeadlocked 26 = .ok (.ireturn, 1) := by decide +kernel
theorem dX10_deadlockedCount_0 : decode cX10_deadlockedCount 0 = .ok (.aload_n 0, 1) := by decide +kernel
theorem dX10_deadlockedCount_1 : decode cX10_deadlockedCount 1 = .ok (.getfield 38, 3) := by decide +kernel
theorem dX10_deadlockedCount_4 : decode cX10_deadlockedCount 4 = .ok (.aload_n 0, 1) := by decide +kernel
theorem dX10_deadlockedCount_5 : decode cX10_deadlockedCount 5 = .ok (.getfield 45, 3) := by decide +kernel
theorem dX10_deadlockedCount_8 : decode cX10_deadlockedCount 8 = .ok (.invokevirtual 230, 3) := by decide +kernel
theorem dX10_deadlockedCount_11 : decode cX10_deadlockedCount 11 = .ok (.invokestatic 237, 3) := by decide +kernel
theorem dX10_deadlockedCount_14 : decode cX10_deadlockedCount 14 = .ok (.ireturn, 1) := by decide +kernel
theorem dX10_debt_0 : decode cX10_debt 0 = .ok (.aload_n 0, 1) := by decide +kernel
theorem dX10_debt_1 : decode cX10_debt 1 = .ok (.getfield 45, 3) := by decide +kernel
theorem dX10_debt_4 : decode cX10_debt 4 = .ok (.iload_n 1, 1) := by decide +kernel
theorem dX10_debt_5 : decode cX10_debt 5 = .ok (.iload_n 2, 1) := by decide +kernel
theorem dX10_debt_6 : decode cX10_debt 6 = .ok (.invokestatic 223, 3) := by decide +kernel
theorem dX10_debt_9 : decode cX10_debt 9 = .ok (.invokestatic 129, 3) := by decide +kernel
theorem dX10_debt_12 : decode cX10_debt 12 = .ok (.aload_n 0, 1) := by decide +kernel
theorem dX10_debt_13 : decode cX10_debt 13 = .ok (.getfield 45, 3) := by decide +kernel
theorem dX10_debt_16 : decode cX10_debt 16 = .ok (.getfield 242, 3) := by decide +kernel
theorem dX10_debt_19 : decode cX10_debt 19 = .ok (.iload_n 1, 1) := by decide +kernel
theorem dX10_debt_20 : decode cX10_debt 20 = .ok (.iload_n 2, 1) := by decide +kernel
theorem dX10_debt_21 : decode cX10_debt 21 = .ok (.invokevirtual 246, 3) := by decide +kernel
theorem dX10_debt_24 : decode cX10_debt 24 = .ok (.ireturn, 1) := by decide +kernel
theorem dX10_totalDebt_0 : decode cX10_totalDebt 0 = .ok (.aload_n 0, 1) := by decide +kernel
theorem dX10_totalDebt_1 : decode cX10_totalDebt 1 = .ok (.getfield 45, 3) := by decide +kernel
theorem dX10_totalDebt_4 : decode cX10_totalDebt 4 = .ok (.iload_n 1, 1) := by decide +kernel
theorem dX10_totalDebt_5 : decode cX10_totalDebt 5 = .ok (.invokestatic 183, 3) := by decide +kernel
theorem dX10_totalDebt_8 : decode cX10_totalDebt 8 = .ok (.invokestatic 129, 3) := by decide +kernel
theorem dX10_totalDebt_11 : decode cX10_totalDebt 11 = .ok (.aload_n 0, 1) := by decide +kernel
theorem dX10_totalDebt_12 : decode cX10_totalDebt 12 = .ok (.getfield 45, 3) := by decide +kernel
theorem dX10_totalDebt_15 : decode cX10_totalDebt 15 = .ok (.getfield 242, 3) := by decide +kernel
theorem dX10_totalDebt_18 : decode cX10_totalDebt 18 = .ok (.iconst 1, 1) := by decide +kernel
theorem dX10_totalDebt_19 : decode cX10_totalDebt 19 = .ok (.iload_n 1, 1) := by decide +kernel
theorem dX10_totalDebt_20 : decode cX10_totalDebt 20 = .ok (.ishl, 1) := by decide +kernel
theorem dX10_totalDebt_21 : decode cX10_totalDebt 21 = .ok (.sipush 255, 3) := by decide +kernel
theorem dX10_totalDebt_24 : decode cX10_totalDebt 24 = .ok (.invokevirtual 251, 3) := by decide +kernel
theorem dX10_totalDebt_27 : decode cX10_totalDebt 27 = .ok (.ireturn, 1) := by decide +kernel
theorem dX10_totalClaims_0 : decode cX10_totalClaims 0 = .ok (.aload_n 0, 1) := by decide +kernel
theorem dX10_totalClaims_1 : decode cX10_totalClaims 1 = .ok (.getfield 45, 3) := by decide +kernel
theorem dX10_totalClaims_4 : decode cX10_totalClaims 4 = .ok (.iload_n 1, 1) := by decide +kernel
theorem dX10_totalClaims_5 : decode cX10_totalClaims 5 = .ok (.invokestatic 183, 3) := by decide +kernel
theorem dX10_totalClaims_8 : decode cX10_totalClaims 8 = .ok (.invokestatic 129, 3) := by decide +kernel
theorem dX10_totalClaims_11 : decode cX10_totalClaims 11 = .ok (.aload_n 0, 1) := by decide +kernel
theorem dX10_totalClaims_12 : decode cX10_totalClaims 12 = .ok (.getfield 45, 3) := by decide +kernel
theorem dX10_totalClaims_15 : decode cX10_totalClaims 15 = .ok (.getfield 242, 3) := by decide +kernel
theorem dX10_totalClaims_18 : decode cX10_totalClaims 18 = .ok (.sipush 255, 3) := by decide +kernel
theorem dX10_totalClaims_21 : decode cX10_totalClaims 21 = .ok (.iconst 1, 1) := by decide +kernel
theorem dX10_totalClaims_22 : decode cX10_totalClaims 22 = .ok (.iload_n 1, 1) := by decide +kernel
theorem dX10_totalClaims_23 : decode cX10_totalClaims 23 = .ok (.ishl, 1) := by decide +kernel
theorem dX10_totalClaims_24 : decode cX10_totalClaims 24 = .ok (.invokevirtual 251, 3) := by decide +kernel
theorem dX10_totalClaims_27 : decode cX10_totalClaims 27 = .ok (.ireturn, 1) := by decide +kernel
theorem dX10_closedCycleLength_0 : decode cX10_closedCycleLength 0 = .ok (.aload_n 0, 1) := by decide +kernel
theorem dX10_closedCycleLength_1 : decode cX10_closedCycleLength 1 = .ok (.getfield 45, 3) := by decide +kernel
theorem dX10_closedCycleLength_4 : decode cX10_closedCycleLength 4 = .ok (.iload_n 1, 1) := by decide +kernel
theorem dX10_closedCycleLength_5 : decode cX10_closedCycleLength 5 = .ok (.iload_n 2, 1) := by decide +kernel
theorem dX10_closedCycleLength_6 : decode cX10_closedCycleLength 6 = .ok (.invokestatic 223, 3) := by decide +kernel
theorem dX10_closedCycleLength_9 : decode cX10_closedCycleLength 9 = .ok (.invokestatic 129, 3) := by decide +kernel
theorem dX10_closedCycleLength_12 : decode cX10_closedCycleLength 12 = .ok (.aload_n 0, 1) := by decide +kernel
theorem dX10_closedCycleLength_13 : decode cX10_closedCycleLength 13 = .ok (.getfield 45, 3) := by decide +kernel
theorem dX10_closedCycleLength_16 : decode cX10_closedCycleLength 16 = .ok (.getfield 242, 3) := by decide +kernel
theorem dX10_closedCycleLength_19 : decode cX10_closedCycleLength 19 = .ok (.iload_n 1, 1) := by decide +kernel
theorem dX10_closedCycleLength_20 : decode cX10_closedCycleLength 20 = .ok (.iload_n 2, 1) := by decide +kernel
theorem dX10_closedCycleLength_21 : decode cX10_closedCycleLength 21 = .ok (.invokevirtual 254, 3) := by decide +kernel
theorem dX10_closedCycleLength_24 : decode cX10_closedCycleLength 24 = .ok (.ireturn, 1) := by decide +kernel
theorem dX10_debtDepth_0 : decode cX10_debtDepth 0 = .ok (.aload_n 0, 1) := by decide +kernel
theorem dX10_debtDepth_1 : decode cX10_debtDepth 1 = .ok (.getfield 45, 3) := by decide +kernel
theorem dX10_debtDepth_4 : decode cX10_debtDepth 4 = .ok (.iload_n 1, 1) := by decide +kernel
theorem dX10_debtDepth_5 : decode cX10_debtDepth 5 = .ok (.invokestatic 183, 3) := by decide +kernel
theorem dX10_debtDepth_8 : decode cX10_debtDepth 8 = .ok (.invokestatic 129, 3) := by decide +kernel
theorem dX10_debtDepth_11 : decode cX10_debtDepth 11 = .ok (.aload_n 0, 1) := by decide +kernel
theorem dX10_debtDepth_12 : decode cX10_debtDepth 12 = .ok (.getfield 45, 3) := by decide +kernel
theorem dX10_debtDepth_15 : decode cX10_debtDepth 15 = .ok (.getfield 242, 3) := by decide +kernel
theorem dX10_debtDepth_18 : decode cX10_debtDepth 18 = .ok (.iload_n 1, 1) := by decide +kernel
theorem dX10_debtDepth_19 : decode cX10_debtDepth 19 = .ok (.invokevirtual 257, 3) := by decide +kernel
theorem dX10_debtDepth_22 : decode cX10_debtDepth 22 = .ok (.ireturn, 1) := by decide +kernel
theorem dX10_settlementOrder_0 : decode cX10_settlementOrder 0 = .ok (.aload_n 0, 1) := by decide +kernel
theorem dX10_settlementOrder_1 : decode cX10_settlementOrder 1 = .ok (.getfield 45, 3) := by decide +kernel
theorem dX10_settlementOrder_4 : decode cX10_settlementOrder 4 = .ok (.iload_n 1, 1) := by decide +kernel
theorem dX10_settlementOrder_5 : decode cX10_settlementOrder 5 = .ok (.invokestatic 183, 3) := by decide +kernel
theorem dX10_settlementOrder_8 : decode cX10_settlementOrder 8 = .ok (.invokestatic 129, 3) := by decide +kernel
theorem dX10_settlementOrder_11 : decode cX10_settlementOrder 11 = .ok (.aload_n 0, 1) := by decide +kernel
theorem dX10_settlementOrder_12 : decode cX10_settlementOrder 12 = .ok (.getfield 45, 3) := by decide +kernel
theorem dX10_settlementOrder_15 : decode cX10_settlementOrder 15 = .ok (.getfield 242, 3) := by decide +kernel
theorem dX10_settlementOrder_18 : decode cX10_settlementOrder 18 = .ok (.iload_n 1, 1) := by decide +kernel
theorem dX10_settlementOrder_19 : decode cX10_settlementOrder 19 = .ok (.invokevirtual 260, 3) := by decide +kernel
theorem dX10_settlementOrder_22 : decode cX10_settlementOrder 22 = .ok (.ireturn, 1) := by decide +kernel
theorem dX10_transitiveClaims_0 : decode cX10_transitiveClaims 0 = .ok (.aload_n 0, 1) := by decide +kernel
theorem dX10_transitiveClaims_1 : decode cX10_transitiveClaims 1 = .ok (.getfield 45, 3) := by decide +kernel
theorem dX10_transitiveClaims_4 : decode cX10_transitiveClaims 4 = .ok (.iload_n 1, 1) := by decide +kernel
theorem dX10_transitiveClaims_5 : decode cX10_transitiveClaims 5 = .ok (.invokestatic 183, 3) := by decide +kernel
theorem dX10_transitiveClaims_8 : decode cX10_transitiveClaims 8 = .ok (.invokestatic 129, 3) := by decide +kernel
theorem dX10_transitiveClaims_11 : decode cX10_transitiveClaims 11 = .ok (.aload_n 0, 1) := by decide +kernel
theorem dX10_transitiveClaims_12 : decode cX10_transitiveClaims 12 = .ok (.getfield 45, 3) := by decide +kernel
theorem dX10_transitiveClaims_15 : decode cX10_transitiveClaims 15 = .ok (.getfield 242, 3) := by decide +kernel
theorem dX10_transitiveClaims_18 : decode cX10_transitiveClaims 18 = .ok (.iload_n 1, 1) := by decide +kernel
theorem dX10_transitiveClaims_19 : decode cX10_transitiveClaims 19 = .ok (.invokevirtual 263, 3) := by decide +kernel
theorem dX10_transitiveClaims_22 : decode cX10_transitiveClaims 22 = .ok (.iconst 1, 1) := by decide +kernel
theorem dX10_transitiveClaims_23 : decode cX10_transitiveClaims 23 = .ok (.iload_n 1, 1) := by decide +kernel
theorem dX10_transitiveClaims_24 : decode cX10_transitiveClaims 24 = .ok (.ishl, 1) := by decide +kernel
theorem dX10_transitiveClaims_25 : decode cX10_transitiveClaims 25 = .ok (.ior, 1) := by decide +kernel
theorem dX10_transitiveClaims_26 : decode cX10_transitiveClaims 26 = .ok (.istore_n 2, 1) := by decide +kernel
theorem dX10_transitiveClaims_27 : decode cX10_transitiveClaims 27 = .ok (.aload_n 0, 1) := by decide +kernel
theorem dX10_transitiveClaims_28 : decode cX10_transitiveClaims 28 = .ok (.getfield 45, 3) := by decide +kernel
theorem dX10_transitiveClaims_31 : decode cX10_transitiveClaims 31 = .ok (.getfield 242, 3) := by decide +kernel
theorem dX10_transitiveClaims_34 : decode cX10_transitiveClaims 34 = .ok (.iload_n 2, 1) := by decide +kernel
theorem dX10_transitiveClaims_35 : decode cX10_transitiveClaims 35 = .ok (.iload_n 2, 1) := by decide +kernel
theorem dX10_transitiveClaims_36 : decode cX10_transitiveClaims 36 = .ok (.invokevirtual 251, 3) := by decide +kernel
theorem dX10_transitiveClaims_39 : decode cX10_transitiveClaims 39 = .ok (.ireturn, 1) := by decide +kernel
theorem dX10_immediateGrants_0 : decode cX10_immediateGrants 0 = .ok (.aload_n 0, 1) := by decide +kernel
theorem dX10_immediateGrants_1 : decode cX10_immediateGrants 1 = .ok (.getfield 45, 3) := by decide +kernel
theorem dX10_immediateGrants_4 : decode cX10_immediateGrants 4 = .ok (.getfield 266, 3) := by decide +kernel
theorem dX10_immediateGrants_7 : decode cX10_immediateGrants 7 = .ok (.ireturn, 1) := by decide +kernel
theorem dX10_queuedGrants_0 : decode cX10_queuedGrants 0 = .ok (.aload_n 0, 1) := by decide +kernel
theorem dX10_queuedGrants_1 : decode cX10_queuedGrants 1 = .ok (.getfield 45, 3) := by decide +kernel
theorem dX10_queuedGrants_4 : decode cX10_queuedGrants 4 = .ok (.getfield 269, 3) := by decide +kernel
theorem dX10_queuedGrants_7 : decode cX10_queuedGrants 7 = .ok (.ireturn, 1) := by decide +kernel
theorem dX10_queuedRequests_0 : decode cX10_queuedRequests 0 = .ok (.aload_n 0, 1) := by decide +kernel
theorem dX10_queuedRequests_1 : decode cX10_queuedRequests 1 = .ok (.getfield 45, 3) := by decide +kernel
theorem dX10_queuedRequests_4 : decode cX10_queuedRequests 4 = .ok (.getfield 272, 3) := by decide +kernel
theorem dX10_queuedRequests_7 : decode cX10_queuedRequests 7 = .ok (.ireturn, 1) := by decide +kernel
theorem dX10_withdrawnRequests_0 : decode cX10_withdrawnRequests 0 = .ok (.aload_n 0, 1) := by decide +kernel
theorem dX10_withdrawnRequests_1 : decode cX10_withdrawnRequests 1 = .ok (.getfield 45, 3) := by decide +kernel
theorem dX10_withdrawnRequests_4 : decode cX10_withdrawnRequests 4 = .ok (.getfield 275, 3) := by decide +kernel
theorem dX10_withdrawnRequests_7 : decode cX10_withdrawnRequests 7 = .ok (.ireturn, 1) := by decide +kernel
theorem dX10_utilization_0 : decode cX10_utilization 0 = .ok (.aload_n 0, 1) := by decide +kernel
theorem dX10_utilization_1 : decode cX10_utilization 1 = .ok (.getfield 45, 3) := by decide +kernel
theorem dX10_utilization_4 : decode cX10_utilization 4 = .ok (.iload_n 1, 1) := by decide +kernel
theorem dX10_utilization_5 : decode cX10_utilization 5 = .ok (.invokestatic 123, 3) := by decide +kernel
theorem dX10_utilization_8 : decode cX10_utilization 8 = .ok (.invokestatic 129, 3) := by decide +kernel
theorem dX10_utilization_11 : decode cX10_utilization 11 = .ok (.aload_n 0, 1) := by decide +kernel
theorem dX10_utilization_12 : decode cX10_utilization 12 = .ok (.getfield 45, 3) := by decide +kernel
theorem dX10_utilization_15 : decode cX10_utilization 15 = .ok (.getfield 132, 3) := by decide +kernel
theorem dX10_utilization_18 : decode cX10_utilization 18 = .ok (.iload_n 1, 1) := by decide +kernel
theorem dX10_utilization_19 : decode cX10_utilization 19 = .ok (.iaload, 1) := by decide +kernel
theorem dX10_utilization_20 : decode cX10_utilization 20 = .ok (.istore_n 2, 1) := by decide +kernel
theorem dX10_utilization_21 : decode cX10_utilization 21 = .ok (.iload_n 2, 1) := by decide +kernel
theorem dX10_utilization_22 : decode cX10_utilization 22 = .ok (.ifCond .ne 7, 3) := by decide +kernel
theorem dX10_utilization_25 : decode cX10_utilization 25 = .ok (.fconst 0, 1) := by decide +kernel
theorem dX10_utilization_26 : decode cX10_utilization 26 = .ok (.goto 15, 3) := by decide +kernel
theorem dX10_utilization_29 : decode cX10_utilization 29 = .ok (.aload_n 0, 1) := by decide +kernel
theorem dX10_utilization_30 : decode cX10_utilization 30 = .ok (.getfield 45, 3) := by decide +kernel
theorem dX10_utilization_33 : decode cX10_utilization 33 = .ok (.iload_n 1, 1) := by decide +kernel
theorem dX10_utilization_34 : decode cX10_utilization 34 = .ok (.invokevirtual 278, 3) := by decide +kernel
theorem dX10_utilization_37 : decode cX10_utilization 37 = .ok (.i2f, 1) := by decide +kernel
theorem dX10_utilization_38 : decode cX10_utilization 38 = .ok (.iload_n 2, 1) := by decide +kernel
theorem dX10_utilization_39 : decode cX10_utilization 39 = .ok (.i2f, 1) := by decide +kernel
theorem dX10_utilization_40 : decode cX10_utilization 40 = .ok (.fdiv, 1) := by decide +kernel
theorem dX10_utilization_41 : decode cX10_utilization 41 = .ok (.freturn, 1) := by decide +kernel
theorem dX10_meanDebt_0 : decode cX10_meanDebt 0 = .ok (.aload_n 0, 1) := by decide +kernel
theorem dX10_meanDebt_1 : decode cX10_meanDebt 1 = .ok (.getfield 45, 3) := by decide +kernel
theorem dX10_meanDebt_4 : decode cX10_meanDebt 4 = .ok (.getfield 242, 3) := by decide +kernel
theorem dX10_meanDebt_7 : decode cX10_meanDebt 7 = .ok (.invokevirtual 281, 3) := by decide +kernel
theorem dX10_meanDebt_10 : decode cX10_meanDebt 10 = .ok (.istore_n 1, 1) := by decide +kernel
theorem dX10_meanDebt_11 : decode cX10_meanDebt 11 = .ok (.aload_n 0, 1) := by decide +kernel
theorem dX10_meanDebt_12 : decode cX10_meanDebt 12 = .ok (.getfield 45, 3) := by decide +kernel
theorem dX10_meanDebt_15 : decode cX10_meanDebt 15 = .ok (.getfield 242, 3) := by decide +kernel
theorem dX10_meanDebt_18 : decode cX10_meanDebt 18 = .ok (.sipush 255, 3) := by decide +kernel
theorem dX10_meanDebt_21 : decode cX10_meanDebt 21 = .ok (.sipush 255, 3) := by decide +kernel
theorem dX10_meanDebt_24 : decode cX10_meanDebt 24 = .ok (.invokevirtual 251, 3) := by decide +kernel
theorem dX10_meanDebt_27 : decode cX10_meanDebt 27 = .ok (.istore_n 2, 1) := by decide +kernel
theorem dX10_meanDebt_28 : decode cX10_meanDebt 28 = .ok (.iload_n 1, 1) := by decide +kernel
theorem dX10_meanDebt_29 : decode cX10_meanDebt 29 = .ok (.ifCond .ne 7, 3) := by decide +kernel
theorem dX10_meanDebt_32 : decode cX10_meanDebt 32 = .ok (.dconst 0, 1) := by decide +kernel
theorem dX10_meanDebt_33 : decode cX10_meanDebt 33 = .ok (.goto 8, 3) := by decide +kernel
theorem dX10_meanDebt_36 : decode cX10_meanDebt 36 = .ok (.iload_n 2, 1) := by decide +kernel
theorem dX10_meanDebt_37 : decode cX10_meanDebt 37 = .ok (.i2d, 1) := by decide +kernel
theorem dX10_meanDebt_38 : decode cX10_meanDebt 38 = .ok (.iload_n 1, 1) := by decide +kernel
theorem dX10_meanDebt_39 : decode cX10_meanDebt 39 = .ok (.i2d, 1) := by decide +kernel
theorem dX10_meanDebt_40 : decode cX10_meanDebt 40 = .ok (.ddiv, 1) := by decide +kernel
theorem dX10_meanDebt_41 : decode cX10_meanDebt 41 = .ok (.dreturn, 1) := by decide +kernel
theorem dX10_inconsistencies_0 : decode cX10_inconsistencies 0 = .ok (.aload_n 0, 1) := by decide +kernel
theorem dX10_inconsistencies_1 : decode cX10_inconsistencies 1 = .ok (.getfield 45, 3) := by decide +kernel
theorem dX10_inconsistencies_4 : decode cX10_inconsistencies 4 = .ok (.getfield 272, 3) := by decide +kernel
theorem dX10_inconsistencies_7 : decode cX10_inconsistencies 7 = .ok (.aload_n 0, 1) := by decide +kernel
theorem dX10_inconsistencies_8 : decode cX10_inconsistencies 8 = .ok (.getfield 45, 3) := by decide +kernel
theorem dX10_inconsistencies_11 : decode cX10_inconsistencies 11 = .ok (.getfield 269, 3) := by decide +kernel
theorem dX10_inconsistencies_14 : decode cX10_inconsistencies 14 = .ok (.isub, 1) := by decide +kernel
theorem dX10_inconsistencies_15 : decode cX10_inconsistencies 15 = .ok (.aload_n 0, 1) := by decide +kernel
theorem dX10_inconsistencies_16 : decode cX10_inconsistencies 16 = .ok (.getfield 45, 3) := by decide +kernel
theorem dX10_inconsistencies_19 : decode cX10_inconsistencies 19 = .ok (.getfield 275, 3) := by decide +kernel
theorem dX10_inconsistencies_22 : decode cX10_inconsistencies 22 = .ok (.isub, 1) := by decide +kernel
theorem dX10_inconsistencies_23 : decode cX10_inconsistencies 23 = .ok (.aload_n 0, 1) := by decide +kernel
theorem dX10_inconsistencies_24 : decode cX10_inconsistencies 24 = .ok (.getfield 45, 3) := by decide +kernel
theorem dX10_inconsistencies_27 : decode cX10_inconsistencies 27 = .ok (.getfield 207, 3) := by decide +kernel
theorem dX10_inconsistencies_30 : decode cX10_inconsistencies 30 = .ok (.isub, 1) := by decide +kernel
theorem dX10_inconsistencies_31 : decode cX10_inconsistencies 31 = .ok (.aload_n 0, 1) := by decide +kernel
theorem dX10_inconsistencies_32 : decode cX10_inconsistencies 32 = .ok (.getfield 45, 3) := by decide +kernel
theorem dX10_inconsistencies_35 : decode cX10_inconsistencies 35 = .ok (.invokevirtual 285, 3) := by decide +kernel
theorem dX10_inconsistencies_38 : decode cX10_inconsistencies 38 = .ok (.iadd, 1) := by decide +kernel
theorem dX10_inconsistencies_39 : decode cX10_inconsistencies 39 = .ok (.aload_n 0, 1) := by decide +kernel
theorem dX10_inconsistencies_40 : decode cX10_inconsistencies 40 = .ok (.getfield 45, 3) := by decide +kernel
theorem dX10_inconsistencies_43 : decode cX10_inconsistencies 43 = .ok (.getfield 242, 3) := by decide +kernel
theorem dX10_inconsistencies_46 : decode cX10_inconsistencies 46 = .ok (.invokevirtual 288, 3) := by decide +kernel
theorem dX10_inconsistencies_49 : decode cX10_inconsistencies 49 = .ok (.iadd, 1) := by decide +kernel
theorem dX10_inconsistencies_50 : decode cX10_inconsistencies 50 = .ok (.ireturn, 1) := by decide +kernel
theorem dX10_request_0 : decode cX10_request 0 = .ok (.aload_n 0, 1) := by decide +kernel
theorem dX10_request_1 : decode cX10_request 1 = .ok (.getfield 45, 3) := by decide +kernel
theorem dX10_request_4 : decode cX10_request 4 = .ok (.iload_n 1, 1) := by decide +kernel
theorem dX10_request_5 : decode cX10_request 5 = .ok (.iload_n 2, 1) := by decide +kernel
theorem dX10_request_6 : decode cX10_request 6 = .ok (.iload_n 3, 1) := by decide +kernel
theorem dX10_request_7 : decode cX10_request 7 = .ok (.invokestatic 291, 3) := by decide +kernel
theorem dX10_request_10 : decode cX10_request 10 = .ok (.invokestatic 129, 3) := by decide +kernel
theorem dX10_request_13 : decode cX10_request 13 = .ok (.aload_n 0, 1) := by decide +kernel
theorem dX10_request_14 : decode cX10_request 14 = .ok (.getfield 55, 3) := by decide +kernel
theorem dX10_request_17 : decode cX10_request 17 = .ok (.aload_n 0, 1) := by decide +kernel
theorem dX10_request_18 : decode cX10_request 18 = .ok (.getfield 45, 3) := by decide +kernel
theorem dX10_request_21 : decode cX10_request 21 = .ok (.invokevirtual 294, 3) := by decide +kernel
theorem dX10_request_24 : decode cX10_request 24 = .ok (.aload_n 0, 1) := by decide +kernel
theorem dX10_request_25 : decode cX10_request 25 = .ok (.getfield 38, 3) := by decide +kernel
theorem dX10_request_28 : decode cX10_request 28 = .ok (.aload_n 0, 1) := by decide +kernel
theorem dX10_request_29 : decode cX10_request 29 = .ok (.getfield 45, 3) := by decide +kernel
theorem dX10_request_32 : decode cX10_request 32 = .ok (.iload_n 1, 1) := by decide +kernel
theorem dX10_request_33 : decode cX10_request 33 = .ok (.iload_n 2, 1) := by decide +kernel
theorem dX10_request_34 : decode cX10_request 34 = .ok (.iload_n 3, 1) := by decide +kernel
theorem dX10_request_35 : decode cX10_request 35 = .ok (.invokevirtual 297, 3) := by decide +kernel
theorem dX10_request_38 : decode cX10_request 38 = .ok (.ireturn, 1) := by decide +kernel
theorem dX10_release_0 : decode cX10_release 0 = .ok (.aload_n 0, 1) := by decide +kernel
theorem dX10_release_1 : decode cX10_release 1 = .ok (.getfield 45, 3) := by decide +kernel
theorem dX10_release_4 : decode cX10_release 4 = .ok (.iload_n 1, 1) := by decide +kernel
theorem dX10_release_5 : decode cX10_release 5 = .ok (.iload_n 2, 1) := by decide +kernel
theorem dX10_release_6 : decode cX10_release 6 = .ok (.iload_n 3, 1) := by decide +kernel
theorem dX10_release_7 : decode cX10_release 7 = .ok (.invokestatic 301, 3) := by decide +kernel
theorem dX10_release_10 : decode cX10_release 10 = .ok (.invokestatic 129, 3) := by decide +kernel
theorem dX10_release_13 : decode cX10_release 13 = .ok (.aload_n 0, 1) := by decide +kernel
theorem dX10_release_14 : decode cX10_release 14 = .ok (.getfield 55, 3) := by decide +kernel
theorem dX10_release_17 : decode cX10_release 17 = .ok (.aload_n 0, 1) := by decide +kernel
theorem dX10_release_18 : decode cX10_release 18 = .ok (.getfield 45, 3) := by decide +kernel
theorem dX10_release_21 : decode cX10_release 21 = .ok (.invokevirtual 294, 3) := by decide +kernel
theorem dX10_release_24 : decode cX10_release 24 = .ok (.aload_n 0, 1) := by decide +kernel
theorem dX10_release_25 : decode cX10_release 25 = .ok (.getfield 38, 3) := by decide +kernel
theorem dX10_release_28 : decode cX10_release 28 = .ok (.aload_n 0, 1) := by decide +kernel
theorem dX10_release_29 : decode cX10_release 29 = .ok (.getfield 45, 3) := by decide +kernel
theorem dX10_release_32 : decode cX10_release 32 = .ok (.iload_n 1, 1) := by decide +kernel
theorem dX10_release_33 : decode cX10_release 33 = .ok (.iload_n 2, 1) := by decide +kernel
theorem dX10_release_34 : decode cX10_release 34 = .ok (.iload_n 3, 1) := by decide +kernel
theorem dX10_release_35 : decode cX10_release 35 = .ok (.invokevirtual 304, 3) := by decide +kernel
theorem dX10_release_38 : decode cX10_release 38 = .ok (.ireturn, 1) := by decide +kernel
theorem dX10_finish_0 : decode cX10_finish 0 = .ok (.aload_n 0, 1) := by decide +kernel
theorem dX10_finish_1 : decode cX10_finish 1 = .ok (.getfield 45, 3) := by decide +kernel
theorem dX10_finish_4 : decode cX10_finish 4 = .ok (.iload_n 1, 1) := by decide +kernel
theorem dX10_finish_5 : decode cX10_finish 5 = .ok (.invokestatic 183, 3) := by decide +kernel
theorem dX10_finish_8 : decode cX10_finish 8 = .ok (.invokestatic 129, 3) := by decide +kernel
theorem dX10_finish_11 : decode cX10_finish 11 = .ok (.aload_n 0, 1) := by decide +kernel
theorem dX10_finish_12 : decode cX10_finish 12 = .ok (.getfield 55, 3) := by decide +kernel
theorem dX10_finish_15 : decode cX10_finish 15 = .ok (.aload_n 0, 1) := by decide +kernel
theorem dX10_finish_16 : decode cX10_finish 16 = .ok (.getfield 45, 3) := by decide +kernel
theorem dX10_finish_19 : decode cX10_finish 19 = .ok (.invokevirtual 294, 3) := by decide +kernel
theorem dX10_finish_22 : decode cX10_finish 22 = .ok (.aload_n 0, 1) := by decide +kernel
theorem dX10_finish_23 : decode cX10_finish 23 = .ok (.getfield 38, 3) := by decide +kernel
theorem dX10_finish_26 : decode cX10_finish 26 = .ok (.aload_n 0, 1) := by decide +kernel
theorem dX10_finish_27 : decode cX10_finish 27 = .ok (.getfield 45, 3) := by decide +kernel
theorem dX10_finish_30 : decode cX10_finish 30 = .ok (.iload_n 1, 1) := by decide +kernel
theorem dX10_finish_31 : decode cX10_finish 31 = .ok (.invokevirtual 307, 3) := by decide +kernel
theorem dX10_finish_34 : decode cX10_finish 34 = .ok (.ireturn, 1) := by decide +kernel
theorem dX10_cancel_0 : decode cX10_cancel 0 = .ok (.aload_n 0, 1) := by decide +kernel
theorem dX10_cancel_1 : decode cX10_cancel 1 = .ok (.getfield 45, 3) := by decide +kernel
theorem dX10_cancel_4 : decode cX10_cancel 4 = .ok (.iload_n 1, 1) := by decide +kernel
theorem dX10_cancel_5 : decode cX10_cancel 5 = .ok (.invokestatic 310, 3) := by decide +kernel
theorem dX10_cancel_8 : decode cX10_cancel 8 = .ok (.invokestatic 129, 3) := by decide +kernel
theorem dX10_cancel_11 : decode cX10_cancel 11 = .ok (.aload_n 0, 1) := by decide +kernel
theorem dX10_cancel_12 : decode cX10_cancel 12 = .ok (.getfield 55, 3) := by decide +kernel
theorem dX10_cancel_15 : decode cX10_cancel 15 = .ok (.aload_n 0, 1) := by decide +kernel
theorem dX10_cancel_16 : decode cX10_cancel 16 = .ok (.getfield 45, 3) := by decide +kernel
theorem dX10_cancel_19 : decode cX10_cancel 19 = .ok (.invokevirtual 294, 3) := by decide +kernel
theorem dX10_cancel_22 : decode cX10_cancel 22 = .ok (.aload_n 0, 1) := by decide +kernel
theorem dX10_cancel_23 : decode cX10_cancel 23 = .ok (.getfield 38, 3) := by decide +kernel
theorem dX10_cancel_26 : decode cX10_cancel 26 = .ok (.aload_n 0, 1) := by decide +kernel
theorem dX10_cancel_27 : decode cX10_cancel 27 = .ok (.getfield 45, 3) := by decide +kernel
theorem dX10_cancel_30 : decode cX10_cancel 30 = .ok (.iload_n 1, 1) := by decide +kernel
theorem dX10_cancel_31 : decode cX10_cancel 31 = .ok (.invokevirtual 313, 3) := by decide +kernel
theorem dX10_cancel_34 : decode cX10_cancel 34 = .ok (.ireturn, 1) := by decide +kernel
theorem dX10_setCapacity_0 : decode cX10_setCapacity 0 = .ok (.aload_n 0, 1) := by decide +kernel
theorem dX10_setCapacity_1 : decode cX10_setCapacity 1 = .ok (.getfield 45, 3) := by decide +kernel
theorem dX10_setCapacity_4 : decode cX10_setCapacity 4 = .ok (.iload_n 1, 1) := by decide +kernel
theorem dX10_setCapacity_5 : decode cX10_setCapacity 5 = .ok (.iload_n 2, 1) := by decide +kernel
theorem dX10_setCapacity_6 : decode cX10_setCapacity 6 = .ok (.invokestatic 316, 3) := by decide +kernel
theorem dX10_setCapacity_9 : decode cX10_setCapacity 9 = .ok (.invokestatic 129, 3) := by decide +kernel
theorem dX10_setCapacity_12 : decode cX10_setCapacity 12 = .ok (.aload_n 0, 1) := by decide +kernel
theorem dX10_setCapacity_13 : decode cX10_setCapacity 13 = .ok (.getfield 55, 3) := by decide +kernel
theorem dX10_setCapacity_16 : decode cX10_setCapacity 16 = .ok (.aload_n 0, 1) := by decide +kernel
theorem dX10_setCapacity_17 : decode cX10_setCapacity 17 = .ok (.getfield 45, 3) := by decide +kernel
theorem dX10_setCapacity_20 : decode cX10_setCapacity 20 = .ok (.invokevirtual 294, 3) := by decide +kernel
theorem dX10_setCapacity_23 : decode cX10_setCapacity 23 = .ok (.aload_n 0, 1) := by decide +kernel
theorem dX10_setCapacity_24 : decode cX10_setCapacity 24 = .ok (.getfield 38, 3) := by decide +kernel
theorem dX10_setCapacity_27 : decode cX10_setCapacity 27 = .ok (.aload_n 0, 1) := by decide +kernel
theorem dX10_setCapacity_28 : decode cX10_setCapacity 28 = .ok (.getfield 45, 3) := by decide +kernel
theorem dX10_setCapacity_31 : decode cX10_setCapacity 31 = .ok (.iload_n 1, 1) := by decide +kernel
theorem dX10_setCapacity_32 : decode cX10_setCapacity 32 = .ok (.iload_n 2, 1) := by decide +kernel
theorem dX10_setCapacity_33 : decode cX10_setCapacity 33 = .ok (.invokevirtual 319, 3) := by decide +kernel
theorem dX10_setCapacity_36 : decode cX10_setCapacity 36 = .ok (.ireturn, 1) := by decide +kernel
theorem dX10_setMaximum_0 : decode cX10_setMaximum 0 = .ok (.aload_n 0, 1) := by decide +kernel
theorem dX10_setMaximum_1 : decode cX10_setMaximum 1 = .ok (.getfield 45, 3) := by decide +kernel
theorem dX10_setMaximum_4 : decode cX10_setMaximum 4 = .ok (.iload_n 1, 1) := by decide +kernel
theorem dX10_setMaximum_5 : decode cX10_setMaximum 5 = .ok (.iload_n 2, 1) := by decide +kernel
theorem dX10_setMaximum_6 : decode cX10_setMaximum 6 = .ok (.iload_n 3, 1) := by decide +kernel
theorem dX10_setMaximum_7 : decode cX10_setMaximum 7 = .ok (.invokestatic 322, 3) := by decide +kernel
theorem dX10_setMaximum_10 : decode cX10_setMaximum 10 = .ok (.invokestatic 129, 3) := by decide +kernel
theorem dX10_setMaximum_13 : decode cX10_setMaximum 13 = .ok (.aload_n 0, 1) := by decide +kernel
theorem dX10_setMaximum_14 : decode cX10_setMaximum 14 = .ok (.getfield 55, 3) := by decide +kernel
theorem dX10_setMaximum_17 : decode cX10_setMaximum 17 = .ok (.aload_n 0, 1) := by decide +kernel
theorem dX10_setMaximum_18 : decode cX10_setMaximum 18 = .ok (.getfield 45, 3) := by decide +kernel
theorem dX10_setMaximum_21 : decode cX10_setMaximum 21 = .ok (.invokevirtual 294, 3) := by decide +kernel
theorem dX10_setMaximum_24 : decode cX10_setMaximum 24 = .ok (.aload_n 0, 1) := by decide +kernel
theorem dX10_setMaximum_25 : decode cX10_setMaximum 25 = .ok (.getfield 38, 3) := by decide +kernel
theorem dX10_setMaximum_28 : decode cX10_setMaximum 28 = .ok (.aload_n 0, 1) := by decide +kernel
theorem dX10_setMaximum_29 : decode cX10_setMaximum 29 = .ok (.getfield 45, 3) := by decide +kernel
theorem dX10_setMaximum_32 : decode cX10_setMaximum 32 = .ok (.iload_n 1, 1) := by decide +kernel
theorem dX10_setMaximum_33 : decode cX10_setMaximum 33 = .ok (.iload_n 2, 1) := by decide +kernel
theorem dX10_setMaximum_34 : decode cX10_setMaximum 34 = .ok (.iload_n 3, 1) := by decide +kernel
theorem dX10_setMaximum_35 : decode cX10_setMaximum 35 = .ok (.invokevirtual 325, 3) := by decide +kernel
theorem dX10_setMaximum_38 : decode cX10_setMaximum 38 = .ok (.ireturn, 1) := by decide +kernel
theorem dX10_lend_0 : decode cX10_lend 0 = .ok (.aload_n 0, 1) := by decide +kernel
theorem dX10_lend_1 : decode cX10_lend 1 = .ok (.getfield 45, 3) := by decide +kernel
theorem dX10_lend_4 : decode cX10_lend 4 = .ok (.iload_n 1, 1) := by decide +kernel
theorem dX10_lend_5 : decode cX10_lend 5 = .ok (.iload_n 2, 1) := by decide +kernel
theorem dX10_lend_6 : decode cX10_lend 6 = .ok (.iload_n 3, 1) := by decide +kernel
theorem dX10_lend_7 : decode cX10_lend 7 = .ok (.invokestatic 328, 3) := by decide +kernel
theorem dX10_lend_10 : decode cX10_lend 10 = .ok (.invokestatic 129, 3) := by decide +kernel
theorem dX10_lend_13 : decode cX10_lend 13 = .ok (.aload_n 0, 1) := by decide +kernel
theorem dX10_lend_14 : decode cX10_lend 14 = .ok (.getfield 55, 3) := by decide +kernel
theorem dX10_lend_17 : decode cX10_lend 17 = .ok (.aload_n 0, 1) := by decide +kernel
theorem dX10_lend_18 : decode cX10_lend 18 = .ok (.getfield 45, 3) := by decide +kernel
theorem dX10_lend_21 : decode cX10_lend 21 = .ok (.invokevirtual 294, 3) := by decide +kernel
theorem dX10_lend_24 : decode cX10_lend 24 = .ok (.aload_n 0, 1) := by decide +kernel
theorem dX10_lend_25 : decode cX10_lend 25 = .ok (.getfield 45, 3) := by decide +kernel
theorem dX10_lend_28 : decode cX10_lend 28 = .ok (.getfield 242, 3) := by decide +kernel
theorem dX10_lend_31 : decode cX10_lend 31 = .ok (.iload_n 2, 1) := by decide +kernel
theorem dX10_lend_32 : decode cX10_lend 32 = .ok (.iload_n 1, 1) := by decide +kernel
theorem dX10_lend_33 : decode cX10_lend 33 = .ok (.iload_n 3, 1) := by decide +kernel
theorem dX10_lend_34 : decode cX10_lend 34 = .ok (.invokevirtual 331, 3) := by decide +kernel
theorem dX10_lend_37 : decode cX10_lend 37 = .ok (.ireturn, 1) := by decide +kernel
theorem dX10_repay_0 : decode cX10_repay 0 = .ok (.aload_n 0, 1) := by decide +kernel
theorem dX10_repay_1 : decode cX10_repay 1 = .ok (.getfield 45, 3) := by decide +kernel
theorem dX10_repay_4 : decode cX10_repay 4 = .ok (.iload_n 1, 1) := by decide +kernel
theorem dX10_repay_5 : decode cX10_repay 5 = .ok (.iload_n 2, 1) := by decide +kernel
theorem dX10_repay_6 : decode cX10_repay 6 = .ok (.iload_n 3, 1) := by decide +kernel
theorem dX10_repay_7 : decode cX10_repay 7 = .ok (.invokestatic 335, 3) := by decide +kernel
theorem dX10_repay_10 : decode cX10_repay 10 = .ok (.invokestatic 129, 3) := by decide +kernel
theorem dX10_repay_13 : decode cX10_repay 13 = .ok (.aload_n 0, 1) := by decide +kernel
theorem dX10_repay_14 : decode cX10_repay 14 = .ok (.getfield 55, 3) := by decide +kernel
theorem dX10_repay_17 : decode cX10_repay 17 = .ok (.aload_n 0, 1) := by decide +kernel
theorem dX10_repay_18 : decode cX10_repay 18 = .ok (.getfield 45, 3) := by decide +kernel
theorem dX10_repay_21 : decode cX10_repay 21 = .ok (.invokevirtual 294, 3) := by decide +kernel
theorem dX10_repay_24 : decode cX10_repay 24 = .ok (.aload_n 0, 1) := by decide +kernel
theorem dX10_repay_25 : decode cX10_repay 25 = .ok (.getfield 45, 3) := by decide +kernel
theorem dX10_repay_28 : decode cX10_repay 28 = .ok (.getfield 242, 3) := by decide +kernel
theorem dX10_repay_31 : decode cX10_repay 31 = .ok (.iload_n 1, 1) := by decide +kernel
theorem dX10_repay_32 : decode cX10_repay 32 = .ok (.iload_n 2, 1) := by decide +kernel
theorem dX10_repay_33 : decode cX10_repay 33 = .ok (.iload_n 3, 1) := by decide +kernel
theorem dX10_repay_34 : decode cX10_repay 34 = .ok (.ineg, 1) := by decide +kernel
theorem dX10_repay_35 : decode cX10_repay 35 = .ok (.invokevirtual 331, 3) := by decide +kernel
theorem dX10_repay_38 : decode cX10_repay 38 = .ok (.ireturn, 1) := by decide +kernel
theorem dX10_runScript_0 : decode cX10_runScript 0 = .ok (.aload_n 0, 1) := by decide +kernel
theorem dX10_runScript_1 : decode cX10_runScript 1 = .ok (.getfield 10, 3) := by decide +kernel
theorem dX10_runScript_4 : decode cX10_runScript 4 = .ok (.aload_n 0, 1) := by decide +kernel
theorem dX10_runScript_5 : decode cX10_runScript 5 = .ok (.getfield 45, 3) := by decide +kernel
theorem dX10_runScript_8 : decode cX10_runScript 8 = .ok (.aload_n 0, 1) := by decide +kernel
theorem dX10_runScript_9 : decode cX10_runScript 9 = .ok (.getfield 31, 3) := by decide +kernel
theorem dX10_runScript_12 : decode cX10_runScript 12 = .ok (.invokevirtual 338, 3) := by decide +kernel
theorem dX10_runScript_15 : decode cX10_runScript 15 = .ok (.istore_n 1, 1) := by decide +kernel
theorem dX10_runScript_16 : decode cX10_runScript 16 = .ok (.aload_n 0, 1) := by decide +kernel
theorem dX10_runScript_17 : decode cX10_runScript 17 = .ok (.getfield 20, 3) := by decide +kernel
theorem dX10_runScript_20 : decode cX10_runScript 20 = .ok (.iconst 0, 1) := by decide +kernel
theorem dX10_runScript_21 : decode cX10_runScript 21 = .ok (.putfield 79, 3) := by decide +kernel
theorem dX10_runScript_24 : decode cX10_runScript 24 = .ok (.iload_n 1, 1) := by decide +kernel
theorem dX10_runScript_25 : decode cX10_runScript 25 = .ok (.ifCond .ne 14, 3) := by decide +kernel
theorem dX10_runScript_28 : decode cX10_runScript 28 = .ok (.new 93, 3) := by decide +kernel
theorem dX10_runScript_31 : decode cX10_runScript 31 = .ok (.dup, 1) := by decide +kernel
theorem dX10_runScript_32 : decode cX10_runScript 32 = .ok (.ldc_w 342, 3) := by decide +kernel
theorem dX10_runScript_35 : decode cX10_runScript 35 = .ok (.invokespecial 97, 3) := by decide +kernel
theorem dX10_runScript_38 : decode cX10_runScript 38 = .ok (.athrow, 1) := by decide +kernel
theorem dX10_runScript_39 : decode cX10_runScript 39 = .ok (.aload_n 0, 1) := by decide +kernel
theorem dX10_runScript_40 : decode cX10_runScript 40 = .ok (.getfield 55, 3) := by decide +kernel
theorem dX10_runScript_43 : decode cX10_runScript 43 = .ok (.aload_n 0, 1) := by decide +kernel
theorem dX10_runScript_44 : decode cX10_runScript 44 = .ok (.getfield 45, 3) := by decide +kernel
theorem dX10_runScript_47 : decode cX10_runScript 47 = .ok (.invokevirtual 294, 3) := by decide +kernel
theorem dX10_runScript_50 : decode cX10_runScript 50 = .ok (.iconst 0, 1) := by decide +kernel
theorem dX10_runScript_51 : decode cX10_runScript 51 = .ok (.istore_n 2, 1) := by decide +kernel
theorem dX10_runScript_52 : decode cX10_runScript 52 = .ok (.iload_n 2, 1) := by decide +kernel
theorem dX10_runScript_53 : decode cX10_runScript 53 = .ok (.aload_n 0, 1) := by decide +kernel
theorem dX10_runScript_54 : decode cX10_runScript 54 = .ok (.getfield 31, 3) := by decide +kernel
theorem dX10_runScript_57 : decode cX10_runScript 57 = .ok (.getfield 344, 3) := by decide +kernel
theorem dX10_runScript_60 : decode cX10_runScript 60 = .ok (.if_icmp .ge 17, 3) := by decide +kernel
theorem dX10_runScript_63 : decode cX10_runScript 63 = .ok (.aload_n 0, 1) := by decide +kernel
theorem dX10_runScript_64 : decode cX10_runScript 64 = .ok (.iload_n 2, 1) := by decide +kernel
theorem dX10_runScript_65 : decode cX10_runScript 65 = .ok (.invokevirtual 345, 3) := by decide +kernel
theorem dX10_runScript_68 : decode cX10_runScript 68 = .ok (.ifCond .eq 9, 3) := by decide +kernel
theorem dX10_runScript_71 : decode cX10_runScript 71 = .ok (.iinc 2 1, 3) := by decide +kernel
theorem dX10_runScript_74 : decode cX10_runScript 74 = .ok (.goto (-22), 3) := by decide +kernel
theorem dX10_runScript_77 : decode cX10_runScript 77 = .ok (.iload_n 2, 1) := by decide +kernel
theorem dX10_runScript_78 : decode cX10_runScript 78 = .ok (.ireturn, 1) := by decide +kernel
theorem dX10_undo_0 : decode cX10_undo 0 = .ok (.aload_n 0, 1) := by decide +kernel
theorem dX10_undo_1 : decode cX10_undo 1 = .ok (.getfield 55, 3) := by decide +kernel
theorem dX10_undo_4 : decode cX10_undo 4 = .ok (.getfield 104, 3) := by decide +kernel
theorem dX10_undo_7 : decode cX10_undo 7 = .ok (.ifCond .ne 14, 3) := by decide +kernel
theorem dX10_undo_10 : decode cX10_undo 10 = .ok (.new 83, 3) := by decide +kernel
theorem dX10_undo_13 : decode cX10_undo 13 = .ok (.dup, 1) := by decide +kernel
theorem dX10_undo_14 : decode cX10_undo 14 = .ok (.ldc_w 348, 3) := by decide +kernel
theorem dX10_undo_17 : decode cX10_undo 17 = .ok (.invokespecial 87, 3) := by decide +kernel
theorem dX10_undo_20 : decode cX10_undo 20 = .ok (.athrow, 1) := by decide +kernel
theorem dX10_undo_21 : decode cX10_undo 21 = .ok (.aload_n 0, 1) := by decide +kernel
theorem dX10_undo_22 : decode cX10_undo 22 = .ok (.getfield 55, 3) := by decide +kernel
theorem dX10_undo_25 : decode cX10_undo 25 = .ok (.aload_n 0, 1) := by decide +kernel
theorem dX10_undo_26 : decode cX10_undo 26 = .ok (.getfield 45, 3) := by decide +kernel
theorem dX10_undo_29 : decode cX10_undo 29 = .ok (.invokevirtual 350, 3) := by decide +kernel
theorem dX10_undo_32 : decode cX10_undo 32 = .ok (.aload_n 0, 1) := by decide +kernel
theorem dX10_undo_33 : decode cX10_undo 33 = .ok (.getfield 55, 3) := by decide +kernel
theorem dX10_undo_36 : decode cX10_undo 36 = .ok (.getfield 104, 3) := by decide +kernel
theorem dX10_undo_39 : decode cX10_undo 39 = .ok (.ireturn, 1) := by decide +kernel
theorem dX10_save_0 : decode cX10_save 0 = .ok (.iload_n 1, 1) := by decide +kernel
theorem dX10_save_1 : decode cX10_save 1 = .ok (.invokestatic 352, 3) := by decide +kernel
theorem dX10_save_4 : decode cX10_save 4 = .ok (.invokestatic 129, 3) := by decide +kernel
theorem dX10_save_7 : decode cX10_save 7 = .ok (.aload_n 0, 1) := by decide +kernel
theorem dX10_save_8 : decode cX10_save 8 = .ok (.getfield 59, 3) := by decide +kernel
theorem dX10_save_11 : decode cX10_save 11 = .ok (.iload_n 1, 1) := by decide +kernel
theorem dX10_save_12 : decode cX10_save 12 = .ok (.aaload, 1) := by decide +kernel
theorem dX10_save_13 : decode cX10_save 13 = .ok (.aload_n 0, 1) := by decide +kernel
theorem dX10_save_14 : decode cX10_save 14 = .ok (.getfield 45, 3) := by decide +kernel
theorem dX10_save_17 : decode cX10_save 17 = .ok (.invokevirtual 100, 3) := by decide +kernel
theorem dX10_save_20 : decode cX10_save 20 = .ok (.aload_n 0, 1) := by decide +kernel
theorem dX10_save_21 : decode cX10_save 21 = .ok (.getfield 63, 3) := by decide +kernel
theorem dX10_save_24 : decode cX10_save 24 = .ok (.iload_n 1, 1) := by decide +kernel
theorem dX10_save_25 : decode cX10_save 25 = .ok (.iconst 1, 1) := by decide +kernel
theorem dX10_save_26 : decode cX10_save 26 = .ok (.bastore, 1) := by decide +kernel
theorem dX10_save_27 : decode cX10_save 27 = .ok (.aload_n 0, 1) := by decide +kernel
theorem dX10_save_28 : decode cX10_save 28 = .ok (.getfield 45, 3) := by decide +kernel
theorem dX10_save_31 : decode cX10_save 31 = .ok (.getfield 207, 3) := by decide +kernel
theorem dX10_save_34 : decode cX10_save 34 = .ok (.ireturn, 1) := by decide +kernel
theorem dX10_restore_0 : decode cX10_restore 0 = .ok (.iload_n 1, 1) := by decide +kernel
theorem dX10_restore_1 : decode cX10_restore 1 = .ok (.invokestatic 352, 3) := by decide +kernel
theorem dX10_restore_4 : decode cX10_restore 4 = .ok (.invokestatic 129, 3) := by decide +kernel
theorem dX10_restore_7 : decode cX10_restore 7 = .ok (.aload_n 0, 1) := by decide +kernel
theorem dX10_restore_8 : decode cX10_restore 8 = .ok (.getfield 63, 3) := by decide +kernel
theorem dX10_restore_11 : decode cX10_restore 11 = .ok (.iload_n 1, 1) := by decide +kernel
theorem dX10_restore_12 : decode cX10_restore 12 = .ok (.baload, 1) := by decide +kernel
theorem dX10_restore_13 : decode cX10_restore 13 = .ok (.ifCond .ne 14, 3) := by decide +kernel
theorem dX10_restore_16 : decode cX10_restore 16 = .ok (.new 83, 3) := by decide +kernel
theorem dX10_restore_19 : decode cX10_restore 19 = .ok (.dup, 1) := by decide +kernel
theorem dX10_restore_20 : decode cX10_restore 20 = .ok (.ldc_w 355, 3) := by decide +kernel
theorem dX10_restore_23 : decode cX10_restore 23 = .ok (.invokespecial 87, 3) := by decide +kernel
theorem dX10_restore_26 : decode cX10_restore 26 = .ok (.athrow, 1) := by decide +kernel
theorem dX10_restore_27 : decode cX10_restore 27 = .ok (.aload_n 0, 1) := by decide +kernel
theorem dX10_restore_28 : decode cX10_restore 28 = .ok (.getfield 45, 3) := by decide +kernel
theorem dX10_restore_31 : decode cX10_restore 31 = .ok (.aload_n 0, 1) := by decide +kernel
theorem dX10_restore_32 : decode cX10_restore 32 = .ok (.getfield 59, 3) := by decide +kernel
theorem dX10_restore_35 : decode cX10_restore 35 = .ok (.iload_n 1, 1) := by decide +kernel
theorem dX10_restore_36 : decode cX10_restore 36 = .ok (.aaload, 1) := by decide +kernel
theorem dX10_restore_37 : decode cX10_restore 37 = .ok (.invokevirtual 100, 3) := by decide +kernel
theorem dX10_restore_40 : decode cX10_restore 40 = .ok (.aload_n 0, 1) := by decide +kernel
theorem dX10_restore_41 : decode cX10_restore 41 = .ok (.getfield 55, 3) := by decide +kernel
theorem dX10_restore_44 : decode cX10_restore 44 = .ok (.iconst 0, 1) := by decide +kernel
theorem dX10_restore_45 : decode cX10_restore 45 = .ok (.putfield 104, 3) := by decide +kernel
theorem dX10_restore_48 : decode cX10_restore 48 = .ok (.aload_n 0, 1) := by decide +kernel
theorem dX10_restore_49 : decode cX10_restore 49 = .ok (.getfield 45, 3) := by decide +kernel
theorem dX10_restore_52 : decode cX10_restore 52 = .ok (.getfield 207, 3) := by decide +kernel
theorem dX10_restore_55 : decode cX10_restore 55 = .ok (.ireturn, 1) := by decide +kernel
theorem dX10_writeAllocations_0 : decode cX10_writeAllocations 0 = .ok (.aload_n 0, 1) := by decide +kernel
theorem dX10_writeAllocations_1 : decode cX10_writeAllocations 1 = .ok (.getfield 24, 3) := by decide +kernel
theorem dX10_writeAllocations_4 : decode cX10_writeAllocations 4 = .ok (.iconst 0, 1) := by decide +kernel
theorem dX10_writeAllocations_5 : decode cX10_writeAllocations 5 = .ok (.putfield 357, 3) := by decide +kernel
theorem dX10_writeAllocations_8 : decode cX10_writeAllocations 8 = .ok (.iconst 0, 1) := by decide +kernel
theorem dX10_writeAllocations_9 : decode cX10_writeAllocations 9 = .ok (.istore_n 1, 1) := by decide +kernel
theorem dX10_writeAllocations_10 : decode cX10_writeAllocations 10 = .ok (.iload_n 1, 1) := by decide +kernel
theorem dX10_writeAllocations_11 : decode cX10_writeAllocations 11 = .ok (.aload_n 0, 1) := by decide +kernel
theorem dX10_writeAllocations_12 : decode cX10_writeAllocations 12 = .ok (.getfield 45, 3) := by decide +kernel
theorem dX10_writeAllocations_15 : decode cX10_writeAllocations 15 = .ok (.getfield 107, 3) := by decide +kernel
theorem dX10_writeAllocations_18 : decode cX10_writeAllocations 18 = .ok (.getfield 111, 3) := by decide +kernel
theorem dX10_writeAllocations_21 : decode cX10_writeAllocations 21 = .ok (.if_icmp .ge 27, 3) := by decide +kernel
theorem dX10_writeAllocations_24 : decode cX10_writeAllocations 24 = .ok (.iload_n 1, 1) := by decide +kernel
theorem dX10_writeAllocations_25 : decode cX10_writeAllocations 25 = .ok (.ifCond .le 12, 3) := by decide +kernel
theorem dX10_writeAllocations_28 : decode cX10_writeAllocations 28 = .ok (.aload_n 0, 1) := by decide +kernel
theorem dX10_writeAllocations_29 : decode cX10_writeAllocations 29 = .ok (.getfield 24, 3) := by decide +kernel
theorem dX10_writeAllocations_32 : decode cX10_writeAllocations 32 = .ok (.bipush 32, 2) := by decide +kernel
theorem dX10_writeAllocations_34 : decode cX10_writeAllocations 34 = .ok (.invokevirtual 358, 3) := by decide +kernel
theorem dX10_writeAllocations_37 : decode cX10_writeAllocations 37 = .ok (.aload_n 0, 1) := by decide +kernel
theorem dX10_writeAllocations_38 : decode cX10_writeAllocations 38 = .ok (.iload_n 1, 1) := by decide +kernel
theorem dX10_writeAllocations_39 : decode cX10_writeAllocations 39 = .ok (.invokevirtual 361, 3) := by decide +kernel
theorem dX10_writeAllocations_42 : decode cX10_writeAllocations 42 = .ok (.iinc 1 1, 3) := by decide +kernel
theorem dX10_writeAllocations_45 : decode cX10_writeAllocations 45 = .ok (.goto (-35), 3) := by decide +kernel
theorem dX10_writeAllocations_48 : decode cX10_writeAllocations 48 = .ok (.aload_n 0, 1) := by decide +kernel
theorem dX10_writeAllocations_49 : decode cX10_writeAllocations 49 = .ok (.getfield 24, 3) := by decide +kernel
theorem dX10_writeAllocations_52 : decode cX10_writeAllocations 52 = .ok (.getfield 357, 3) := by decide +kernel
theorem dX10_writeAllocations_55 : decode cX10_writeAllocations 55 = .ok (.ireturn, 1) := by decide +kernel
theorem dX10_outputByte_0 : decode cX10_outputByte 0 = .ok (.iload_n 1, 1) := by decide +kernel
theorem dX10_outputByte_1 : decode cX10_outputByte 1 = .ok (.ifCond .lt 14, 3) := by decide +kernel
theorem dX10_outputByte_4 : decode cX10_outputByte 4 = .ok (.iload_n 1, 1) := by decide +kernel
theorem dX10_outputByte_5 : decode cX10_outputByte 5 = .ok (.aload_n 0, 1) := by decide +kernel
theorem dX10_outputByte_6 : decode cX10_outputByte 6 = .ok (.getfield 24, 3) := by decide +kernel
theorem dX10_outputByte_9 : decode cX10_outputByte 9 = .ok (.getfield 357, 3) := by decide +kernel
theorem dX10_outputByte_12 : decode cX10_outputByte 12 = .ok (.if_icmp .lt 14, 3) := by decide +kernel
theorem dX10_outputByte_15 : decode cX10_outputByte 15 = .ok (.new 364, 3) := by decide +kernel
theorem dX10_outputByte_18 : decode cX10_outputByte 18 = .ok (.dup, 1) := by decide +kernel
theorem dX10_outputByte_19 : decode cX10_outputByte 19 = .ok (.ldc_w 366, 3) := by decide +kernel
theorem dX10_outputByte_22 : decode cX10_outputByte 22 = .ok (.invokespecial 368, 3) := by decide +kernel
theorem dX10_outputByte_25 : decode cX10_outputByte 25 = .ok (.athrow, 1) := by decide +kernel
theorem dX10_outputByte_26 : decode cX10_outputByte 26 = .ok (.aload_n 0, 1) := by decide +kernel
theorem dX10_outputByte_27 : decode cX10_outputByte 27 = .ok (.getfield 24, 3) := by decide +kernel
theorem dX10_outputByte_30 : decode cX10_outputByte 30 = .ok (.getfield 369, 3) := by decide +kernel
theorem dX10_outputByte_33 : decode cX10_outputByte 33 = .ok (.iload_n 1, 1) := by decide +kernel
theorem dX10_outputByte_34 : decode cX10_outputByte 34 = .ok (.baload, 1) := by decide +kernel
theorem dX10_outputByte_35 : decode cX10_outputByte 35 = .ok (.ireturn, 1) := by decide +kernel
theorem dX10_refuse_0 : decode cX10_refuse 0 = .ok (.iload_n 0, 1) := by decide +kernel
theorem dX10_refuse_1 : decode cX10_refuse 1 = .ok (.iconst 1, 1) := by decide +kernel
theorem dX10_refuse_2 : decode cX10_refuse 2 = .ok (.if_icmp .ne 14, 3) := by decide +kernel
theorem dX10_refuse_5 : decode cX10_refuse 5 = .ok (.new 364, 3) := by decide +kernel
theorem dX10_refuse_8 : decode cX10_refuse 8 = .ok (.dup, 1) := by decide +kernel
theorem dX10_refuse_9 : decode cX10_refuse 9 = .ok (.ldc_w 370, 3) := by decide +kernel
theorem dX10_refuse_12 : decode cX10_refuse 12 = .ok (.invokespecial 368, 3) := by decide +kernel
theorem dX10_refuse_15 : decode cX10_refuse 15 = .ok (.athrow, 1) := by decide +kernel
theorem dX10_refuse_16 : decode cX10_refuse 16 = .ok (.iload_n 0, 1) := by decide +kernel
theorem dX10_refuse_17 : decode cX10_refuse 17 = .ok (.iconst 2, 1) := by decide +kernel
theorem dX10_refuse_18 : decode cX10_refuse 18 = .ok (.if_icmp .ne 14, 3) := by decide +kernel
theorem dX10_refuse_21 : decode cX10_refuse 21 = .ok (.new 93, 3) := by decide +kernel
theorem dX10_refuse_24 : decode cX10_refuse 24 = .ok (.dup, 1) := by decide +kernel
theorem dX10_refuse_25 : decode cX10_refuse 25 = .ok (.ldc_w 372, 3) := by decide +kernel
theorem dX10_refuse_28 : decode cX10_refuse 28 = .ok (.invokespecial 97, 3) := by decide +kernel
theorem dX10_refuse_31 : decode cX10_refuse 31 = .ok (.athrow, 1) := by decide +kernel
theorem dX10_refuse_32 : decode cX10_refuse 32 = .ok (.iload_n 0, 1) := by decide +kernel
theorem dX10_refuse_33 : decode cX10_refuse 33 = .ok (.iconst 3, 1) := by decide +kernel
theorem dX10_refuse_34 : decode cX10_refuse 34 = .ok (.if_icmp .ne 14, 3) := by decide +kernel
theorem dX10_refuse_37 : decode cX10_refuse 37 = .ok (.new 83, 3) := by decide +kernel
theorem dX10_refuse_40 : decode cX10_refuse 40 = .ok (.dup, 1) := by decide +kernel
theorem dX10_refuse_41 : decode cX10_refuse 41 = .ok (.ldc_w 374, 3) := by decide +kernel
theorem dX10_refuse_44 : decode cX10_refuse 44 = .ok (.invokespecial 87, 3) := by decide +kernel
theorem dX10_refuse_47 : decode cX10_refuse 47 = .ok (.athrow, 1) := by decide +kernel
theorem dX10_refuse_48 : decode cX10_refuse 48 = .ok (.return_, 1) := by decide +kernel
theorem dX10_execute_0 : decode cX10_execute 0 = .ok (.aload_n 0, 1) := by decide +kernel
theorem dX10_execute_1 : decode cX10_execute 1 = .ok (.getfield 31, 3) := by decide +kernel
theorem dX10_execute_4 : decode cX10_execute 4 = .ok (.iload_n 1, 1) := by decide +kernel
theorem dX10_execute_5 : decode cX10_execute 5 = .ok (.invokevirtual 376, 3) := by decide +kernel
theorem dX10_execute_8 : decode cX10_execute 8 = .ok (.istore_n 2, 1) := by decide +kernel
theorem dX10_execute_9 : decode cX10_execute 9 = .ok (.aload_n 0, 1) := by decide +kernel
theorem dX10_execute_10 : decode cX10_execute 10 = .ok (.getfield 31, 3) := by decide +kernel
theorem dX10_execute_13 : decode cX10_execute 13 = .ok (.iload_n 1, 1) := by decide +kernel
theorem dX10_execute_14 : decode cX10_execute 14 = .ok (.iconst 0, 1) := by decide +kernel
theorem dX10_execute_15 : decode cX10_execute 15 = .ok (.invokevirtual 379, 3) := by decide +kernel
theorem dX10_execute_18 : decode cX10_execute 18 = .ok (.istore_n 3, 1) := by decide +kernel
theorem dX10_execute_19 : decode cX10_execute 19 = .ok (.aload_n 0, 1) := by decide +kernel
theorem dX10_execute_20 : decode cX10_execute 20 = .ok (.getfield 31, 3) := by decide +kernel
theorem dX10_execute_23 : decode cX10_execute 23 = .ok (.iload_n 1, 1) := by decide +kernel
theorem dX10_execute_24 : decode cX10_execute 24 = .ok (.iconst 1, 1) := by decide +kernel
theorem dX10_execute_25 : decode cX10_execute 25 = .ok (.invokevirtual 379, 3) := by decide +kernel
theorem dX10_execute_28 : decode cX10_execute 28 = .ok (.istore 4, 2) := by decide +kernel
theorem dX10_execute_30 : decode cX10_execute 30 = .ok (.aload_n 0, 1) := by decide +kernel
theorem dX10_execute_31 : decode cX10_execute 31 = .ok (.getfield 31, 3) := by decide +kernel
theorem dX10_execute_34 : decode cX10_execute 34 = .ok (.iload_n 1, 1) := by decide +kernel
theorem dX10_execute_35 : decode cX10_execute 35 = .ok (.iconst 2, 1) := by decide +kernel
theorem dX10_execute_36 : decode cX10_execute 36 = .ok (.invokevirtual 379, 3) := by decide +kernel
theorem dX10_execute_39 : decode cX10_execute 39 = .ok (.istore 5, 2) := by decide +kernel
theorem dX10_execute_41 : decode cX10_execute 41 = .ok (.aload_n 0, 1) := by decide +kernel
theorem dX10_execute_42 : decode cX10_execute 42 = .ok (.getfield 45, 3) := by decide +kernel
theorem dX10_execute_45 : decode cX10_execute 45 = .ok (.iload_n 2, 1) := by decide +kernel
theorem dX10_execute_46 : decode cX10_execute 46 = .ok (.iload_n 3, 1) := by decide +kernel
theorem dX10_execute_47 : decode cX10_execute 47 = .ok (.iload 4, 2) := by decide +kernel
theorem dX10_execute_49 : decode cX10_execute 49 = .ok (.iload 5, 2) := by decide +kernel
theorem dX10_execute_51 : decode cX10_execute 51 = .ok (.invokestatic 382, 3) := by decide +kernel
theorem dX10_execute_54 : decode cX10_execute 54 = .ok (.ifCond .eq 5, 3) := by decide +kernel
theorem dX10_execute_57 : decode cX10_execute 57 = .ok (.iconst 0, 1) := by decide +kernel
theorem dX10_execute_58 : decode cX10_execute 58 = .ok (.ireturn, 1) := by decide +kernel
theorem dX10_execute_59 : decode cX10_execute 59 = .ok (.iload_n 2, 1) := by decide +kernel
theorem dX10_execute_60 : decode cX10_execute 60 = .ok (.tableswitch 151 0 5 #[40, 60, 80, 96, 112, 131], 40) := by decide +kernel
theorem dX10_execute_100 : decode cX10_execute 100 = .ok (.aload_n 0, 1) := by decide +kernel
theorem dX10_execute_101 : decode cX10_execute 101 = .ok (.getfield 38, 3) := by decide +kernel
theorem dX10_execute_104 : decode cX10_execute 104 = .ok (.aload_n 0, 1) := by decide +kernel
theorem dX10_execute_105 : decode cX10_execute 105 = .ok (.getfield 45, 3) := by decide +kernel
theorem dX10_execute_108 : decode cX10_execute 108 = .ok (.iload_n 3, 1) := by decide +kernel
theorem dX10_execute_109 : decode cX10_execute 109 = .ok (.iload 4, 2) := by decide +kernel
theorem dX10_execute_111 : decode cX10_execute 111 = .ok (.iload 5, 2) := by decide +kernel
theorem dX10_execute_113 : decode cX10_execute 113 = .ok (.invokevirtual 297, 3) := by decide +kernel
theorem dX10_execute_116 : decode cX10_execute 116 = .ok (.pop, 1) := by decide +kernel
theorem dX10_execute_117 : decode cX10_execute 117 = .ok (.goto 109, 3) := by decide +kernel
theorem dX10_execute_120 : decode cX10_execute 120 = .ok (.aload_n 0, 1) := by decide +kernel
theorem dX10_execute_121 : decode cX10_execute 121 = .ok (.getfield 38, 3) := by decide +kernel
theorem dX10_execute_124 : decode cX10_execute 124 = .ok (.aload_n 0, 1) := by decide +kernel
theorem dX10_execute_125 : decode cX10_execute 125 = .ok (.getfield 45, 3) := by decide +kernel
theorem dX10_execute_128 : decode cX10_execute 128 = .ok (.iload_n 3, 1) := by decide +kernel
theorem dX10_execute_129 : decode cX10_execute 129 = .ok (.iload 4, 2) := by decide +kernel
theorem dX10_execute_131 : decode cX10_execute 131 = .ok (.iload 5, 2) := by decide +kernel
theorem dX10_execute_133 : decode cX10_execute 133 = .ok (.invokevirtual 304, 3) := by decide +kernel
theorem dX10_execute_136 : decode cX10_execute 136 = .ok (.pop, 1) := by decide +kernel
theorem dX10_execute_137 : decode cX10_execute 137 = .ok (.goto 89, 3) := by decide +kernel
theorem dX10_execute_140 : decode cX10_execute 140 = .ok (.aload_n 0, 1) := by decide +kernel
theorem dX10_execute_141 : decode cX10_execute 141 = .ok (.getfield 38, 3) := by decide +kernel
theorem dX10_execute_144 : decode cX10_execute 144 = .ok (.aload_n 0, 1) := by decide +kernel
theorem dX10_execute_145 : decode cX10_execute 145 = .ok (.getfield 45, 3) := by decide +kernel
theorem dX10_execute_148 : decode cX10_execute 148 = .ok (.iload_n 3, 1) := by decide +kernel
theorem dX10_execute_149 : decode cX10_execute 149 = .ok (.invokevirtual 307, 3) := by decide +kernel
theorem dX10_execute_152 : decode cX10_execute 152 = .ok (.pop, 1) := by decide +kernel
theorem dX10_execute_153 : decode cX10_execute 153 = .ok (.goto 73, 3) := by decide +kernel
theorem dX10_execute_156 : decode cX10_execute 156 = .ok (.aload_n 0, 1) := by decide +kernel
theorem dX10_execute_157 : decode cX10_execute 157 = .ok (.getfield 38, 3) := by decide +kernel
theorem dX10_execute_160 : decode cX10_execute 160 = .ok (.aload_n 0, 1) := by decide +kernel
theorem dX10_execute_161 : decode cX10_execute 161 = .ok (.getfield 45, 3) := by decide +kernel
theorem dX10_execute_164 : decode cX10_execute 164 = .ok (.iload_n 3, 1) := by decide +kernel
theorem dX10_execute_165 : decode cX10_execute 165 = .ok (.invokevirtual 313, 3) := by decide +kernel
theorem dX10_execute_168 : decode cX10_execute 168 = .ok (.pop, 1) := by decide +kernel
theorem dX10_execute_169 : decode cX10_execute 169 = .ok (.goto 57, 3) := by decide +kernel
theorem dX10_execute_172 : decode cX10_execute 172 = .ok (.aload_n 0, 1) := by decide +kernel
theorem dX10_execute_173 : decode cX10_execute 173 = .ok (.getfield 45, 3) := by decide +kernel
theorem dX10_execute_176 : decode cX10_execute 176 = .ok (.getfield 242, 3) := by decide +kernel
theorem dX10_execute_179 : decode cX10_execute 179 = .ok (.iload 4, 2) := by decide +kernel
theorem dX10_execute_181 : decode cX10_execute 181 = .ok (.iload_n 3, 1) := by decide +kernel
theorem dX10_execute_182 : decode cX10_execute 182 = .ok (.iload 5, 2) := by decide +kernel
theorem dX10_execute_184 : decode cX10_execute 184 = .ok (.invokevirtual 331, 3) := by decide +kernel
theorem dX10_execute_187 : decode cX10_execute 187 = .ok (.pop, 1) := by decide +kernel
theorem dX10_execute_188 : decode cX10_execute 188 = .ok (.goto 38, 3) := by decide +kernel
theorem dX10_execute_191 : decode cX10_execute 191 = .ok (.aload_n 0, 1) := by decide +kernel
theorem dX10_execute_192 : decode cX10_execute 192 = .ok (.getfield 45, 3) := by decide +kernel
theorem dX10_execute_195 : decode cX10_execute 195 = .ok (.getfield 242, 3) := by decide +kernel
theorem dX10_execute_198 : decode cX10_execute 198 = .ok (.iload_n 3, 1) := by decide +kernel
theorem dX10_execute_199 : decode cX10_execute 199 = .ok (.iload 4, 2) := by decide +kernel
theorem dX10_execute_201 : decode cX10_execute 201 = .ok (.iload 5, 2) := by decide +kernel
theorem dX10_execute_203 : decode cX10_execute 203 = .ok (.ineg, 1) := by decide +kernel
theorem dX10_execute_204 : decode cX10_execute 204 = .ok (.invokevirtual 331, 3) := by decide +kernel
theorem dX10_execute_207 : decode cX10_execute 207 = .ok (.pop, 1) := by decide +kernel
theorem dX10_execute_208 : decode cX10_execute 208 = .ok (.goto 18, 3) := by decide +kernel
theorem dX10_execute_211 : decode cX10_execute 211 = .ok (.aload_n 0, 1) := by decide +kernel
theorem dX10_execute_212 : decode cX10_execute 212 = .ok (.getfield 38, 3) := by decide +kernel
theorem dX10_execute_215 : decode cX10_execute 215 = .ok (.aload_n 0, 1) := by decide +kernel
theorem dX10_execute_216 : decode cX10_execute 216 = .ok (.getfield 45, 3) := by decide +kernel
theorem dX10_execute_219 : decode cX10_execute 219 = .ok (.iload_n 3, 1) := by decide +kernel
theorem dX10_execute_220 : decode cX10_execute 220 = .ok (.iload 4, 2) := by decide +kernel
theorem dX10_execute_222 : decode cX10_execute 222 = .ok (.invokevirtual 319, 3) := by decide +kernel
theorem dX10_execute_225 : decode cX10_execute 225 = .ok (.pop, 1) := by decide +kernel
theorem dX10_execute_226 : decode cX10_execute 226 = .ok (.iconst 1, 1) := by decide +kernel
theorem dX10_execute_227 : decode cX10_execute 227 = .ok (.ireturn, 1) := by decide +kernel
theorem dX10_writeHerd_0 : decode cX10_writeHerd 0 = .ok (.iconst 0, 1) := by decide +kernel
theorem dX10_writeHerd_1 : decode cX10_writeHerd 1 = .ok (.istore_n 2, 1) := by decide +kernel
theorem dX10_writeHerd_2 : decode cX10_writeHerd 2 = .ok (.iload_n 2, 1) := by decide +kernel
theorem dX10_writeHerd_3 : decode cX10_writeHerd 3 = .ok (.aload_n 0, 1) := by decide +kernel
theorem dX10_writeHerd_4 : decode cX10_writeHerd 4 = .ok (.getfield 45, 3) := by decide +kernel
theorem dX10_writeHerd_7 : decode cX10_writeHerd 7 = .ok (.getfield 107, 3) := by decide +kernel
theorem dX10_writeHerd_10 : decode cX10_writeHerd 10 = .ok (.getfield 386, 3) := by decide +kernel
theorem dX10_writeHerd_13 : decode cX10_writeHerd 13 = .ok (.iload_n 1, 1) := by decide +kernel
theorem dX10_writeHerd_14 : decode cX10_writeHerd 14 = .ok (.iaload, 1) := by decide +kernel
theorem dX10_writeHerd_15 : decode cX10_writeHerd 15 = .ok (.if_icmp .ge 28, 3) := by decide +kernel
theorem dX10_writeHerd_18 : decode cX10_writeHerd 18 = .ok (.aload_n 0, 1) := by decide +kernel
theorem dX10_writeHerd_19 : decode cX10_writeHerd 19 = .ok (.getfield 24, 3) := by decide +kernel
theorem dX10_writeHerd_22 : decode cX10_writeHerd 22 = .ok (.aload_n 0, 1) := by decide +kernel
theorem dX10_writeHerd_23 : decode cX10_writeHerd 23 = .ok (.getfield 45, 3) := by decide +kernel
theorem dX10_writeHerd_26 : decode cX10_writeHerd 26 = .ok (.getfield 107, 3) := by decide +kernel
theorem dX10_writeHerd_29 : decode cX10_writeHerd 29 = .ok (.iload_n 1, 1) := by decide +kernel
theorem dX10_writeHerd_30 : decode cX10_writeHerd 30 = .ok (.iload_n 2, 1) := by decide +kernel
theorem dX10_writeHerd_31 : decode cX10_writeHerd 31 = .ok (.invokevirtual 161, 3) := by decide +kernel
theorem dX10_writeHerd_34 : decode cX10_writeHerd 34 = .ok (.invokevirtual 358, 3) := by decide +kernel
theorem dX10_writeHerd_37 : decode cX10_writeHerd 37 = .ok (.iinc 2 1, 3) := by decide +kernel
theorem dX10_writeHerd_40 : decode cX10_writeHerd 40 = .ok (.goto (-38), 3) := by decide +kernel
theorem dX10_writeHerd_43 : decode cX10_writeHerd 43 = .ok (.iconst 0, 1) := by decide +kernel
theorem dX10_writeHerd_44 : decode cX10_writeHerd 44 = .ok (.istore_n 2, 1) := by decide +kernel
theorem dX10_writeHerd_45 : decode cX10_writeHerd 45 = .ok (.iload_n 2, 1) := by decide +kernel
theorem dX10_writeHerd_46 : decode cX10_writeHerd 46 = .ok (.aload_n 0, 1) := by decide +kernel
theorem dX10_writeHerd_47 : decode cX10_writeHerd 47 = .ok (.getfield 45, 3) := by decide +kernel
theorem dX10_writeHerd_50 : decode cX10_writeHerd 50 = .ok (.getfield 120, 3) := by decide +kernel
theorem dX10_writeHerd_53 : decode cX10_writeHerd 53 = .ok (.getfield 111, 3) := by decide +kernel
theorem dX10_writeHerd_56 : decode cX10_writeHerd 56 = .ok (.if_icmp .ge 47, 3) := by decide +kernel
theorem dX10_writeHerd_59 : decode cX10_writeHerd 59 = .ok (.aload_n 0, 1) := by decide +kernel
theorem dX10_writeHerd_60 : decode cX10_writeHerd 60 = .ok (.getfield 24, 3) := by decide +kernel
theorem dX10_writeHerd_63 : decode cX10_writeHerd 63 = .ok (.iload_n 2, 1) := by decide +kernel
theorem dX10_writeHerd_64 : decode cX10_writeHerd 64 = .ok (.ifCond .ne 8, 3) := by decide +kernel
theorem dX10_writeHerd_67 : decode cX10_writeHerd 67 = .ok (.bipush 58, 2) := by decide +kernel
theorem dX10_writeHerd_69 : decode cX10_writeHerd 69 = .ok (.goto 5, 3) := by decide +kernel
theorem dX10_writeHerd_72 : decode cX10_writeHerd 72 = .ok (.bipush 44, 2) := by decide +kernel
theorem dX10_writeHerd_74 : decode cX10_writeHerd 74 = .ok (.invokevirtual 358, 3) := by decide +kernel
theorem dX10_writeHerd_77 : decode cX10_writeHerd 77 = .ok (.aload_n 0, 1) := by decide +kernel
theorem dX10_writeHerd_78 : decode cX10_writeHerd 78 = .ok (.getfield 24, 3) := by decide +kernel
theorem dX10_writeHerd_81 : decode cX10_writeHerd 81 = .ok (.aload_n 0, 1) := by decide +kernel
theorem dX10_writeHerd_82 : decode cX10_writeHerd 82 = .ok (.getfield 45, 3) := by decide +kernel
theorem dX10_writeHerd_85 : decode cX10_writeHerd 85 = .ok (.getfield 151, 3) := by decide +kernel
theorem dX10_writeHerd_88 : decode cX10_writeHerd 88 = .ok (.iload_n 1, 1) := by decide +kernel
theorem dX10_writeHerd_89 : decode cX10_writeHerd 89 = .ok (.iload_n 2, 1) := by decide +kernel
theorem dX10_writeHerd_90 : decode cX10_writeHerd 90 = .ok (.invokestatic 147, 3) := by decide +kernel
theorem dX10_writeHerd_93 : decode cX10_writeHerd 93 = .ok (.iaload, 1) := by decide +kernel
theorem dX10_writeHerd_94 : decode cX10_writeHerd 94 = .ok (.invokevirtual 389, 3) := by decide +kernel
theorem dX10_writeHerd_97 : decode cX10_writeHerd 97 = .ok (.iinc 2 1, 3) := by decide +kernel
theorem dX10_writeHerd_100 : decode cX10_writeHerd 100 = .ok (.goto (-55), 3) := by decide +kernel
theorem dX10_writeHerd_103 : decode cX10_writeHerd 103 = .ok (.aload_n 0, 1) := by decide +kernel
theorem dX10_writeHerd_104 : decode cX10_writeHerd 104 = .ok (.getfield 45, 3) := by decide +kernel
theorem dX10_writeHerd_107 : decode cX10_writeHerd 107 = .ok (.iload_n 1, 1) := by decide +kernel
theorem dX10_writeHerd_108 : decode cX10_writeHerd 108 = .ok (.invokevirtual 213, 3) := by decide +kernel
theorem dX10_writeHerd_111 : decode cX10_writeHerd 111 = .ok (.ifCond .eq 12, 3) := by decide +kernel
theorem dX10_writeHerd_114 : decode cX10_writeHerd 114 = .ok (.aload_n 0, 1) := by decide +kernel
theorem dX10_writeHerd_115 : decode cX10_writeHerd 115 = .ok (.getfield 24, 3) := by decide +kernel
theorem dX10_writeHerd_118 : decode cX10_writeHerd 118 = .ok (.bipush 63, 2) := by decide +kernel
theorem dX10_writeHerd_120 : decode cX10_writeHerd 120 = .ok (.invokevirtual 358, 3) := by decide +kernel
theorem dX10_writeHerd_123 : decode cX10_writeHerd 123 = .ok (.return_, 1) := by decide +kernel
theorem dX10_isIn_0 : decode cX10_isIn 0 = .ok (.iload_n 0, 1) := by decide +kernel
theorem dX10_isIn_1 : decode cX10_isIn 1 = .ok (.iload_n 1, 1) := by decide +kernel
theorem dX10_isIn_2 : decode cX10_isIn 2 = .ok (.ishr, 1) := by decide +kernel
theorem dX10_isIn_3 : decode cX10_isIn 3 = .ok (.iconst 1, 1) := by decide +kernel
theorem dX10_isIn_4 : decode cX10_isIn 4 = .ok (.iand, 1) := by decide +kernel
theorem dX10_isIn_5 : decode cX10_isIn 5 = .ok (.ifCond .eq 7, 3) := by decide +kernel
theorem dX10_isIn_8 : decode cX10_isIn 8 = .ok (.iconst 1, 1) := by decide +kernel
theorem dX10_isIn_9 : decode cX10_isIn 9 = .ok (.goto 4, 3) := by decide +kernel
theorem dX10_isIn_12 : decode cX10_isIn 12 = .ok (.iconst 0, 1) := by decide +kernel
theorem dX10_isIn_13 : decode cX10_isIn 13 = .ok (.ireturn, 1) := by decide +kernel
theorem dJ6_bitCount_0f7a4_0 : decode cJ6_bitCount_0f7a4 0 = .ok (.iload_n 0, 1) := by decide +kernel
theorem dJ6_bitCount_0f7a4_1 : decode cJ6_bitCount_0f7a4 1 = .ok (.iload_n 0, 1) := by decide +kernel
theorem dJ6_bitCount_0f7a4_2 : decode cJ6_bitCount_0f7a4 2 = .ok (.iconst 1, 1) := by decide +kernel
theorem dJ6_bitCount_0f7a4_3 : decode cJ6_bitCount_0f7a4 3 = .ok (.iushr, 1) := by decide +kernel
theorem dJ6_bitCount_0f7a4_4 : decode cJ6_bitCount_0f7a4 4 = .ok (.ldc_w 265, 3) := by decide +kernel
theorem dJ6_bitCount_0f7a4_7 : decode cJ6_bitCount_0f7a4 7 = .ok (.iand, 1) := by decide +kernel
theorem dJ6_bitCount_0f7a4_8 : decode cJ6_bitCount_0f7a4 8 = .ok (.isub, 1) := by decide +kernel
theorem dJ6_bitCount_0f7a4_9 : decode cJ6_bitCount_0f7a4 9 = .ok (.istore_n 0, 1) := by decide +kernel
theorem dJ6_bitCount_0f7a4_10 : decode cJ6_bitCount_0f7a4 10 = .ok (.iload_n 0, 1) := by decide +kernel
theorem dJ6_bitCount_0f7a4_11 : decode cJ6_bitCount_0f7a4 11 = .ok (.ldc_w 266, 3) := by decide +kernel
theorem dJ6_bitCount_0f7a4_14 : decode cJ6_bitCount_0f7a4 14 = .ok (.iand, 1) := by decide +kernel
theorem dJ6_bitCount_0f7a4_15 : decode cJ6_bitCount_0f7a4 15 = .ok (.iload_n 0, 1) := by decide +kernel
theorem dJ6_bitCount_0f7a4_16 : decode cJ6_bitCount_0f7a4 16 = .ok (.iconst 2, 1) := by decide +kernel
theorem dJ6_bitCount_0f7a4_17 : decode cJ6_bitCount_0f7a4 17 = .ok (.iushr, 1) := by decide +kernel
theorem dJ6_bitCount_0f7a4_18 : decode cJ6_bitCount_0f7a4 18 = .ok (.ldc_w 266, 3) := by decide +kernel
theorem dJ6_bitCount_0f7a4_21 : decode cJ6_bitCount_0f7a4 21 = .ok (.iand, 1) := by decide +kernel
theorem dJ6_bitCount_0f7a4_22 : decode cJ6_bitCount_0f7a4 22 = .ok (.iadd, 1) := by decide +kernel
theorem dJ6_bitCount_0f7a4_23 : decode cJ6_bitCount_0f7a4 23 = .ok (.istore_n 0, 1) := by decide +kernel
theorem dJ6_bitCount_0f7a4_24 : decode cJ6_bitCount_0f7a4 24 = .ok (.iload_n 0, 1) := by decide +kernel
theorem dJ6_bitCount_0f7a4_25 : decode cJ6_bitCount_0f7a4 25 = .ok (.iload_n 0, 1) := by decide +kernel
theorem dJ6_bitCount_0f7a4_26 : decode cJ6_bitCount_0f7a4 26 = .ok (.iconst 4, 1) := by decide +kernel
theorem dJ6_bitCount_0f7a4_27 : decode cJ6_bitCount_0f7a4 27 = .ok (.iushr, 1) := by decide +kernel
theorem dJ6_bitCount_0f7a4_28 : decode cJ6_bitCount_0f7a4 28 = .ok (.iadd, 1) := by decide +kernel
theorem dJ6_bitCount_0f7a4_29 : decode cJ6_bitCount_0f7a4 29 = .ok (.ldc_w 267, 3) := by decide +kernel
theorem dJ6_bitCount_0f7a4_32 : decode cJ6_bitCount_0f7a4 32 = .ok (.iand, 1) := by decide +kernel
theorem dJ6_bitCount_0f7a4_33 : decode cJ6_bitCount_0f7a4 33 = .ok (.istore_n 0, 1) := by decide +kernel
theorem dJ6_bitCount_0f7a4_34 : decode cJ6_bitCount_0f7a4 34 = .ok (.iload_n 0, 1) := by decide +kernel
theorem dJ6_bitCount_0f7a4_35 : decode cJ6_bitCount_0f7a4 35 = .ok (.iload_n 0, 1) := by decide +kernel
theorem dJ6_bitCount_0f7a4_36 : decode cJ6_bitCount_0f7a4 36 = .ok (.bipush 8, 2) := by decide +kernel
theorem dJ6_bitCount_0f7a4_38 : decode cJ6_bitCount_0f7a4 38 = .ok (.iushr, 1) := by decide +kernel
theorem dJ6_bitCount_0f7a4_39 : decode cJ6_bitCount_0f7a4 39 = .ok (.iadd, 1) := by decide +kernel
theorem dJ6_bitCount_0f7a4_40 : decode cJ6_bitCount_0f7a4 40 = .ok (.istore_n 0, 1) := by decide +kernel
theorem dJ6_bitCount_0f7a4_41 : decode cJ6_bitCount_0f7a4 41 = .ok (.iload_n 0, 1) := by decide +kernel
theorem dJ6_bitCount_0f7a4_42 : decode cJ6_bitCount_0f7a4 42 = .ok (.iload_n 0, 1) := by decide +kernel
theorem dJ6_bitCount_0f7a4_43 : decode cJ6_bitCount_0f7a4 43 = .ok (.bipush 16, 2) := by decide +kernel
theorem dJ6_bitCount_0f7a4_45 : decode cJ6_bitCount_0f7a4 45 = .ok (.iushr, 1) := by decide +kernel
theorem dJ6_bitCount_0f7a4_46 : decode cJ6_bitCount_0f7a4 46 = .ok (.iadd, 1) := by decide +kernel
theorem dJ6_bitCount_0f7a4_47 : decode cJ6_bitCount_0f7a4 47 = .ok (.istore_n 0, 1) := by decide +kernel
theorem dJ6_bitCount_0f7a4_48 : decode cJ6_bitCount_0f7a4 48 = .ok (.iload_n 0, 1) := by decide +kernel
theorem dJ6_bitCount_0f7a4_49 : decode cJ6_bitCount_0f7a4 49 = .ok (.bipush 63, 2) := by decide +kernel
theorem dJ6_bitCount_0f7a4_51 : decode cJ6_bitCount_0f7a4 51 = .ok (.iand, 1) := by decide +kernel
theorem dJ6_bitCount_0f7a4_52 : decode cJ6_bitCount_0f7a4 52 = .ok (.ireturn, 1) := by decide +kernel
theorem dJ9_max_7cf53_0 : decode cJ9_max_7cf53 0 = .ok (.iload_n 0, 1) := by decide +kernel
theorem dJ9_max_7cf53_1 : decode cJ9_max_7cf53 1 = .ok (.iload_n 1, 1) := by decide +kernel
theorem dJ9_max_7cf53_2 : decode cJ9_max_7cf53 2 = .ok (.if_icmp .lt 7, 3) := by decide +kernel
theorem dJ9_max_7cf53_5 : decode cJ9_max_7cf53 5 = .ok (.iload_n 0, 1) := by decide +kernel
theorem dJ9_max_7cf53_6 : decode cJ9_max_7cf53 6 = .ok (.goto 4, 3) := by decide +kernel
theorem dJ9_max_7cf53_9 : decode cJ9_max_7cf53 9 = .ok (.iload_n 1, 1) := by decide +kernel
theorem dJ9_max_7cf53_10 : decode cJ9_max_7cf53 10 = .ok (.ireturn, 1) := by decide +kernel
theorem dJ9_min_7cf53_0 : decode cJ9_min_7cf53 0 = .ok (.iload_n 0, 1) := by decide +kernel
theorem dJ9_min_7cf53_1 : decode cJ9_min_7cf53 1 = .ok (.iload_n 1, 1) := by decide +kernel
theorem dJ9_min_7cf53_2 : decode cJ9_min_7cf53 2 = .ok (.if_icmp .gt 7, 3) := by decide +kernel
theorem dJ9_min_7cf53_5 : decode cJ9_min_7cf53 5 = .ok (.iload_n 0, 1) := by decide +kernel
theorem dJ9_min_7cf53_6 : decode cJ9_min_7cf53 6 = .ok (.goto 4, 3) := by decide +kernel
theorem dJ9_min_7cf53_9 : decode cJ9_min_7cf53 9 = .ok (.iload_n 1, 1) := by decide +kernel
theorem dJ9_min_7cf53_10 : decode cJ9_min_7cf53 10 = .ok (.ireturn, 1) := by decide +kernel
theorem dJ0_length_8abf5_0 : decode cJ0_length_8abf5 0 = .ok (.aload_n 0, 1) := by decide +kernel
theorem dJ0_length_8abf5_1 : decode cJ0_length_8abf5 1 = .ok (.getfield 9, 3) := by decide +kernel
theorem dJ0_length_8abf5_4 : decode cJ0_length_8abf5 4 = .ok (.arraylength, 1) := by decide +kernel
theorem dJ0_length_8abf5_5 : decode cJ0_length_8abf5 5 = .ok (.aload_n 0, 1) := by decide +kernel
theorem dJ0_length_8abf5_6 : decode cJ0_length_8abf5 6 = .ok (.invokevirtual 335, 3) := by decide +kernel
theorem dJ0_length_8abf5_9 : decode cJ0_length_8abf5 9 = .ok (.ishr, 1) := by decide +kernel
theorem dJ0_length_8abf5_10 : decode cJ0_length_8abf5 10 = .ok (.ireturn, 1) := by decide +kernel
theorem dJ0_charAt_5068e_0 : decode cJ0_charAt_5068e 0 = .ok (.aload_n 0, 1) := by decide +kernel
theorem dJ0_charAt_5068e_1 : decode cJ0_charAt_5068e 1 = .ok (.invokevirtual 492, 3) := by decide +kernel
theorem dJ0_charAt_5068e_4 : decode cJ0_charAt_5068e 4 = .ok (.ifCond .eq 12, 3) := by decide +kernel
theorem dJ0_charAt_5068e_7 : decode cJ0_charAt_5068e 7 = .ok (.aload_n 0, 1) := by decide +kernel
theorem dJ0_charAt_5068e_8 : decode cJ0_charAt_5068e 8 = .ok (.getfield 9, 3) := by decide +kernel
theorem dJ0_charAt_5068e_11 : decode cJ0_charAt_5068e 11 = .ok (.iload_n 1, 1) := by decide +kernel
theorem dJ0_charAt_5068e_12 : decode cJ0_charAt_5068e 12 = .ok (.invokestatic 495, 3) := by decide +kernel
theorem dJ0_charAt_5068e_15 : decode cJ0_charAt_5068e 15 = .ok (.ireturn, 1) := by decide +kernel
theorem dJ0_charAt_5068e_16 : decode cJ0_charAt_5068e 16 = .ok (.aload_n 0, 1) := by decide +kernel
theorem dJ0_charAt_5068e_17 : decode cJ0_charAt_5068e 17 = .ok (.getfield 9, 3) := by decide +kernel
theorem dJ0_charAt_5068e_20 : decode cJ0_charAt_5068e 20 = .ok (.iload_n 1, 1) := by decide +kernel
theorem dJ0_charAt_5068e_21 : decode cJ0_charAt_5068e 21 = .ok (.invokestatic 498, 3) := by decide +kernel
theorem dJ0_charAt_5068e_24 : decode cJ0_charAt_5068e 24 = .ok (.ireturn, 1) := by decide +kernel
theorem dJ0_coder_7d493_0 : decode cJ0_coder_7d493 0 = .ok (.getstatic 38, 3) := by decide +kernel
theorem dJ0_coder_7d493_3 : decode cJ0_coder_7d493 3 = .ok (.ifCond .eq 10, 3) := by decide +kernel
theorem dJ0_coder_7d493_6 : decode cJ0_coder_7d493 6 = .ok (.aload_n 0, 1) := by decide +kernel
theorem dJ0_coder_7d493_7 : decode cJ0_coder_7d493 7 = .ok (.getfield 15, 3) := by decide +kernel
theorem dJ0_coder_7d493_10 : decode cJ0_coder_7d493 10 = .ok (.goto 4, 3) := by decide +kernel
theorem dJ0_coder_7d493_13 : decode cJ0_coder_7d493 13 = .ok (.iconst 1, 1) := by decide +kernel
theorem dJ0_coder_7d493_14 : decode cJ0_coder_7d493 14 = .ok (.ireturn, 1) := by decide +kernel
theorem dJ0_isLatin1_aae02_0 : decode cJ0_isLatin1_aae02 0 = .ok (.getstatic 38, 3) := by decide +kernel
theorem dJ0_isLatin1_aae02_3 : decode cJ0_isLatin1_aae02 3 = .ok (.ifCond .eq 14, 3) := by decide +kernel
theorem dJ0_isLatin1_aae02_6 : decode cJ0_isLatin1_aae02 6 = .ok (.aload_n 0, 1) := by decide +kernel
theorem dJ0_isLatin1_aae02_7 : decode cJ0_isLatin1_aae02 7 = .ok (.getfield 15, 3) := by decide +kernel
theorem dJ0_isLatin1_aae02_10 : decode cJ0_isLatin1_aae02 10 = .ok (.ifCond .ne 7, 3) := by decide +kernel
theorem dJ0_isLatin1_aae02_13 : decode cJ0_isLatin1_aae02 13 = .ok (.iconst 1, 1) := by decide +kernel
theorem dJ0_isLatin1_aae02_14 : decode cJ0_isLatin1_aae02 14 = .ok (.goto 4, 3) := by decide +kernel
theorem dJ0_isLatin1_aae02_17 : decode cJ0_isLatin1_aae02 17 = .ok (.iconst 0, 1) := by decide +kernel
theorem dJ0_isLatin1_aae02_18 : decode cJ0_isLatin1_aae02 18 = .ok (.ireturn, 1) := by decide +kernel
theorem dJ0_checkIndex_df160_0 : decode cJ0_checkIndex_df160 0 = .ok (.iload_n 0, 1) := by decide +kernel
theorem dJ0_checkIndex_df160_1 : decode cJ0_checkIndex_df160 1 = .ok (.iload_n 1, 1) := by decide +kernel
theorem dJ0_checkIndex_df160_2 : decode cJ0_checkIndex_df160 2 = .ok (.getstatic 1053, 3) := by decide +kernel
theorem dJ0_checkIndex_df160_5 : decode cJ0_checkIndex_df160 5 = .ok (.invokestatic 1059, 3) := by decide +kernel
theorem dJ0_checkIndex_df160_8 : decode cJ0_checkIndex_df160 8 = .ok (.pop, 1) := by decide +kernel
theorem dJ0_checkIndex_df160_9 : decode cJ0_checkIndex_df160 9 = .ok (.return_, 1) := by decide +kernel
theorem dJ1_charAt_3b067_0 : decode cJ1_charAt_3b067 0 = .ok (.iload_n 1, 1) := by decide +kernel
theorem dJ1_charAt_3b067_1 : decode cJ1_charAt_3b067 1 = .ok (.aload_n 0, 1) := by decide +kernel
theorem dJ1_charAt_3b067_2 : decode cJ1_charAt_3b067 2 = .ok (.arraylength, 1) := by decide +kernel
theorem dJ1_charAt_3b067_3 : decode cJ1_charAt_3b067 3 = .ok (.invokestatic 9, 3) := by decide +kernel
theorem dJ1_charAt_3b067_6 : decode cJ1_charAt_3b067 6 = .ok (.aload_n 0, 1) := by decide +kernel
theorem dJ1_charAt_3b067_7 : decode cJ1_charAt_3b067 7 = .ok (.iload_n 1, 1) := by decide +kernel
theorem dJ1_charAt_3b067_8 : decode cJ1_charAt_3b067 8 = .ok (.baload, 1) := by decide +kernel
theorem dJ1_charAt_3b067_9 : decode cJ1_charAt_3b067 9 = .ok (.sipush 255, 3) := by decide +kernel
theorem dJ1_charAt_3b067_12 : decode cJ1_charAt_3b067 12 = .ok (.iand, 1) := by decide +kernel
theorem dJ1_charAt_3b067_13 : decode cJ1_charAt_3b067 13 = .ok (.i2c, 1) := by decide +kernel
theorem dJ1_charAt_3b067_14 : decode cJ1_charAt_3b067 14 = .ok (.ireturn, 1) := by decide +kernel
theorem dJ2_getChar_3b067_0 : decode cJ2_getChar_3b067 0 = .ok (.getstatic 44, 3) := by decide +kernel
theorem dJ2_getChar_3b067_3 : decode cJ2_getChar_3b067 3 = .ok (.ifCond .ne 25, 3) := by decide +kernel
theorem dJ2_getChar_3b067_6 : decode cJ2_getChar_3b067 6 = .ok (.iload_n 1, 1) := by decide +kernel
theorem dJ2_getChar_3b067_7 : decode cJ2_getChar_3b067 7 = .ok (.ifCond .lt 11, 3) := by decide +kernel
theorem dJ2_getChar_3b067_10 : decode cJ2_getChar_3b067 10 = .ok (.iload_n 1, 1) := by decide +kernel
theorem dJ2_getChar_3b067_11 : decode cJ2_getChar_3b067 11 = .ok (.aload_n 0, 1) := by decide +kernel
theorem dJ2_getChar_3b067_12 : decode cJ2_getChar_3b067 12 = .ok (.invokestatic 48, 3) := by decide +kernel
theorem dJ2_getChar_3b067_15 : decode cJ2_getChar_3b067 15 = .ok (.if_icmp .lt 13, 3) := by decide +kernel
theorem dJ2_getChar_3b067_18 : decode cJ2_getChar_3b067 18 = .ok (.new 52, 3) := by decide +kernel
theorem dJ2_getChar_3b067_21 : decode cJ2_getChar_3b067 21 = .ok (.dup, 1) := by decide +kernel
theorem dJ2_getChar_3b067_22 : decode cJ2_getChar_3b067 22 = .ok (.ldc 54, 2) := by decide +kernel
theorem dJ2_getChar_3b067_24 : decode cJ2_getChar_3b067 24 = .ok (.invokespecial 56, 3) := by decide +kernel
theorem dJ2_getChar_3b067_27 : decode cJ2_getChar_3b067 27 = .ok (.athrow, 1) := by decide +kernel
theorem dJ2_getChar_3b067_28 : decode cJ2_getChar_3b067 28 = .ok (.iload_n 1, 1) := by decide +kernel
theorem dJ2_getChar_3b067_29 : decode cJ2_getChar_3b067 29 = .ok (.iconst 1, 1) := by decide +kernel
theorem dJ2_getChar_3b067_30 : decode cJ2_getChar_3b067 30 = .ok (.ishl, 1) := by decide +kernel
theorem dJ2_getChar_3b067_31 : decode cJ2_getChar_3b067 31 = .ok (.istore_n 1, 1) := by decide +kernel
theorem dJ2_getChar_3b067_32 : decode cJ2_getChar_3b067 32 = .ok (.aload_n 0, 1) := by decide +kernel
theorem dJ2_getChar_3b067_33 : decode cJ2_getChar_3b067 33 = .ok (.iload_n 1, 1) := by decide +kernel
theorem dJ2_getChar_3b067_34 : decode cJ2_getChar_3b067 34 = .ok (.iinc 1 1, 3) := by decide +kernel
theorem dJ2_getChar_3b067_37 : decode cJ2_getChar_3b067 37 = .ok (.baload, 1) := by decide +kernel
theorem dJ2_getChar_3b067_38 : decode cJ2_getChar_3b067 38 = .ok (.sipush 255, 3) := by decide +kernel
theorem dJ2_getChar_3b067_41 : decode cJ2_getChar_3b067 41 = .ok (.iand, 1) := by decide +kernel
theorem dJ2_getChar_3b067_42 : decode cJ2_getChar_3b067 42 = .ok (.getstatic 59, 3) := by decide +kernel
theorem dJ2_getChar_3b067_45 : decode cJ2_getChar_3b067 45 = .ok (.ishl, 1) := by decide +kernel
theorem dJ2_getChar_3b067_46 : decode cJ2_getChar_3b067 46 = .ok (.aload_n 0, 1) := by decide +kernel
theorem dJ2_getChar_3b067_47 : decode cJ2_getChar_3b067 47 = .ok (.iload_n 1, 1) := by decide +kernel
theorem dJ2_getChar_3b067_48 : decode cJ2_getChar_3b067 48 = .ok (.baload, 1) := by decide +kernel
theorem dJ2_getChar_3b067_49 : decode cJ2_getChar_3b067 49 = .ok (.sipush 255, 3) := by decide +kernel
theorem dJ2_getChar_3b067_52 : decode cJ2_getChar_3b067 52 = .ok (.iand, 1) := by decide +kernel
theorem dJ2_getChar_3b067_53 : decode cJ2_getChar_3b067 53 = .ok (.getstatic 63, 3) := by decide +kernel
theorem dJ2_getChar_3b067_56 : decode cJ2_getChar_3b067 56 = .ok (.ishl, 1) := by decide +kernel
theorem dJ2_getChar_3b067_57 : decode cJ2_getChar_3b067 57 = .ok (.ior, 1) := by decide +kernel
theorem dJ2_getChar_3b067_58 : decode cJ2_getChar_3b067 58 = .ok (.i2c, 1) := by decide +kernel
theorem dJ2_getChar_3b067_59 : decode cJ2_getChar_3b067 59 = .ok (.ireturn, 1) := by decide +kernel
theorem dJ2_length_9d52b_0 : decode cJ2_length_9d52b 0 = .ok (.aload_n 0, 1) := by decide +kernel
theorem dJ2_length_9d52b_1 : decode cJ2_length_9d52b 1 = .ok (.arraylength, 1) := by decide +kernel
theorem dJ2_length_9d52b_2 : decode cJ2_length_9d52b 2 = .ok (.iconst 1, 1) := by decide +kernel
theorem dJ2_length_9d52b_3 : decode cJ2_length_9d52b 3 = .ok (.ishr, 1) := by decide +kernel
theorem dJ2_length_9d52b_4 : decode cJ2_length_9d52b 4 = .ok (.ireturn, 1) := by decide +kernel
theorem dJ2_charAt_3b067_0 : decode cJ2_charAt_3b067 0 = .ok (.iload_n 1, 1) := by decide +kernel
theorem dJ2_charAt_3b067_1 : decode cJ2_charAt_3b067 1 = .ok (.aload_n 0, 1) := by decide +kernel
theorem dJ2_charAt_3b067_2 : decode cJ2_charAt_3b067 2 = .ok (.invokestatic 67, 3) := by decide +kernel
theorem dJ2_charAt_3b067_5 : decode cJ2_charAt_3b067 5 = .ok (.aload_n 0, 1) := by decide +kernel
theorem dJ2_charAt_3b067_6 : decode cJ2_charAt_3b067 6 = .ok (.iload_n 1, 1) := by decide +kernel
theorem dJ2_charAt_3b067_7 : decode cJ2_charAt_3b067 7 = .ok (.invokestatic 71, 3) := by decide +kernel
theorem dJ2_charAt_3b067_10 : decode cJ2_charAt_3b067 10 = .ok (.ireturn, 1) := by decide +kernel
theorem dJ2_checkIndex_2214a_0 : decode cJ2_checkIndex_2214a 0 = .ok (.iload_n 0, 1) := by decide +kernel
theorem dJ2_checkIndex_2214a_1 : decode cJ2_checkIndex_2214a 1 = .ok (.aload_n 1, 1) := by decide +kernel
theorem dJ2_checkIndex_2214a_2 : decode cJ2_checkIndex_2214a 2 = .ok (.invokestatic 48, 3) := by decide +kernel
theorem dJ2_checkIndex_2214a_5 : decode cJ2_checkIndex_2214a 5 = .ok (.invokestatic 414, 3) := by decide +kernel
theorem dJ2_checkIndex_2214a_8 : decode cJ2_checkIndex_2214a 8 = .ok (.return_, 1) := by decide +kernel
theorem dJ3_checkIndex_8e157_0 : decode cJ3_checkIndex_8e157 0 = .ok (.iload_n 0, 1) := by decide +kernel
theorem dJ3_checkIndex_8e157_1 : decode cJ3_checkIndex_8e157 1 = .ok (.ifCond .lt 8, 3) := by decide +kernel
theorem dJ3_checkIndex_8e157_4 : decode cJ3_checkIndex_8e157 4 = .ok (.iload_n 0, 1) := by decide +kernel
theorem dJ3_checkIndex_8e157_5 : decode cJ3_checkIndex_8e157 5 = .ok (.iload_n 1, 1) := by decide +kernel
theorem dJ3_checkIndex_8e157_6 : decode cJ3_checkIndex_8e157 6 = .ok (.if_icmp .lt 10, 3) := by decide +kernel
theorem dJ3_checkIndex_8e157_9 : decode cJ3_checkIndex_8e157 9 = .ok (.aload_n 2, 1) := by decide +kernel
theorem dJ3_checkIndex_8e157_10 : decode cJ3_checkIndex_8e157 10 = .ok (.iload_n 0, 1) := by decide +kernel
theorem dJ3_checkIndex_8e157_11 : decode cJ3_checkIndex_8e157 11 = .ok (.iload_n 1, 1) := by decide +kernel
theorem dJ3_checkIndex_8e157_12 : decode cJ3_checkIndex_8e157 12 = .ok (.invokestatic 95, 3) := by decide +kernel
theorem dJ3_checkIndex_8e157_15 : decode cJ3_checkIndex_8e157 15 = .ok (.athrow, 1) := by decide +kernel
theorem dJ3_checkIndex_8e157_16 : decode cJ3_checkIndex_8e157 16 = .ok (.iload_n 0, 1) := by decide +kernel
theorem dJ3_checkIndex_8e157_17 : decode cJ3_checkIndex_8e157 17 = .ok (.ireturn, 1) := by decide +kernel
