theorem dX0_init_0 : decode cX0_init 0 = .ok (.aload_n 0, 1) := by decide +kernel
theorem dX0_init_1 : decode cX0_init 1 = .ok (.invokespecial 3, 3) := by decide +kernel
theorem dX0_init_4 : decode cX0_init 4 = .ok (.aload_n 0, 1) := by decide +kernel
theorem dX0_init_5 : decode cX0_init 5 = .ok (.bipush 8, 2) := by decide +kernel
theorem dX0_init_7 : decode cX0_init 7 = .ok (.newarray .int, 2) := by decide +kernel
theorem dX0_init_9 : decode cX0_init 9 = .ok (.putfield 9, 3) := by decide +kernel
theorem dX0_init_12 : decode cX0_init 12 = .ok (.aload_n 0, 1) := by decide +kernel
theorem dX0_init_13 : decode cX0_init 13 = .ok (.iconst 5, 1) := by decide +kernel
theorem dX0_init_14 : decode cX0_init 14 = .ok (.newarray .int, 2) := by decide +kernel
theorem dX0_init_16 : decode cX0_init 16 = .ok (.putfield 15, 3) := by decide +kernel
theorem dX0_init_19 : decode cX0_init 19 = .ok (.return_, 1) := by decide +kernel
theorem dX0_startWithAvailable_0 : decode cX0_startWithAvailable 0 = .ok (.iconst 0, 1) := by decide +kernel
theorem dX0_startWithAvailable_1 : decode cX0_startWithAvailable 1 = .ok (.istore_n 2, 1) := by decide +kernel
theorem dX0_startWithAvailable_2 : decode cX0_startWithAvailable 2 = .ok (.iload_n 2, 1) := by decide +kernel
theorem dX0_startWithAvailable_3 : decode cX0_startWithAvailable 3 = .ok (.aload_n 1, 1) := by decide +kernel
theorem dX0_startWithAvailable_4 : decode cX0_startWithAvailable 4 = .ok (.getfield 18, 3) := by decide +kernel
theorem dX0_startWithAvailable_7 : decode cX0_startWithAvailable 7 = .ok (.getfield 24, 3) := by decide +kernel
theorem dX0_startWithAvailable_10 : decode cX0_startWithAvailable 10 = .ok (.if_icmp .ge 58, 3) := by decide +kernel
theorem dX0_startWithAvailable_13 : decode cX0_startWithAvailable 13 = .ok (.aload_n 1, 1) := by decide +kernel
theorem dX0_startWithAvailable_14 : decode cX0_startWithAvailable 14 = .ok (.getfield 30, 3) := by decide +kernel
theorem dX0_startWithAvailable_17 : decode cX0_startWithAvailable 17 = .ok (.iload_n 2, 1) := by decide +kernel
theorem dX0_startWithAvailable_18 : decode cX0_startWithAvailable 18 = .ok (.iaload, 1) := by decide +kernel
theorem dX0_startWithAvailable_19 : decode cX0_startWithAvailable 19 = .ok (.istore_n 3, 1) := by decide +kernel
theorem dX0_startWithAvailable_20 : decode cX0_startWithAvailable 20 = .ok (.iconst 0, 1) := by decide +kernel
theorem dX0_startWithAvailable_21 : decode cX0_startWithAvailable 21 = .ok (.istore 4, 2) := by decide +kernel
theorem dX0_startWithAvailable_23 : decode cX0_startWithAvailable 23 = .ok (.iload 4, 2) := by decide +kernel
theorem dX0_startWithAvailable_25 : decode cX0_startWithAvailable 25 = .ok (.aload_n 1, 1) := by decide +kernel
theorem dX0_startWithAvailable_26 : decode cX0_startWithAvailable 26 = .ok (.getfield 33, 3) := by decide +kernel
theorem dX0_startWithAvailable_29 : decode cX0_startWithAvailable 29 = .ok (.getfield 24, 3) := by decide +kernel
theorem dX0_startWithAvailable_32 : decode cX0_startWithAvailable 32 = .ok (.if_icmp .ge 23, 3) := by decide +kernel
theorem dX0_startWithAvailable_35 : decode cX0_startWithAvailable 35 = .ok (.iload_n 3, 1) := by decide +kernel
theorem dX0_startWithAvailable_36 : decode cX0_startWithAvailable 36 = .ok (.aload_n 1, 1) := by decide +kernel
theorem dX0_startWithAvailable_37 : decode cX0_startWithAvailable 37 = .ok (.getfield 36, 3) := by decide +kernel
theorem dX0_startWithAvailable_40 : decode cX0_startWithAvailable 40 = .ok (.iload 4, 2) := by decide +kernel
theorem dX0_startWithAvailable_42 : decode cX0_startWithAvailable 42 = .ok (.iconst 5, 1) := by decide +kernel
theorem dX0_startWithAvailable_43 : decode cX0_startWithAvailable 43 = .ok (.imul, 1) := by decide +kernel
theorem dX0_startWithAvailable_44 : decode cX0_startWithAvailable 44 = .ok (.iload_n 2, 1) := by decide +kernel
theorem dX0_startWithAvailable_45 : decode cX0_startWithAvailable 45 = .ok (.iadd, 1) := by decide +kernel
theorem dX0_startWithAvailable_46 : decode cX0_startWithAvailable 46 = .ok (.iaload, 1) := by decide +kernel
theorem dX0_startWithAvailable_47 : decode cX0_startWithAvailable 47 = .ok (.isub, 1) := by decide +kernel
theorem dX0_startWithAvailable_48 : decode cX0_startWithAvailable 48 = .ok (.istore_n 3, 1) := by decide +kernel
theorem dX0_startWithAvailable_49 : decode cX0_startWithAvailable 49 = .ok (.iinc 4 1, 3) := by decide +kernel
theorem dX0_startWithAvailable_52 : decode cX0_startWithAvailable 52 = .ok (.goto (-29), 3) := by decide +kernel
theorem dX0_startWithAvailable_55 : decode cX0_startWithAvailable 55 = .ok (.aload_n 0, 1) := by decide +kernel
theorem dX0_startWithAvailable_56 : decode cX0_startWithAvailable 56 = .ok (.getfield 15, 3) := by decide +kernel
theorem dX0_startWithAvailable_59 : decode cX0_startWithAvailable 59 = .ok (.iload_n 2, 1) := by decide +kernel
theorem dX0_startWithAvailable_60 : decode cX0_startWithAvailable 60 = .ok (.iload_n 3, 1) := by decide +kernel
theorem dX0_startWithAvailable_61 : decode cX0_startWithAvailable 61 = .ok (.iastore, 1) := by decide +kernel
theorem dX0_startWithAvailable_62 : decode cX0_startWithAvailable 62 = .ok (.iinc 2 1, 3) := by decide +kernel
theorem dX0_startWithAvailable_65 : decode cX0_startWithAvailable 65 = .ok (.goto (-63), 3) := by decide +kernel
theorem dX0_startWithAvailable_68 : decode cX0_startWithAvailable 68 = .ok (.return_, 1) := by decide +kernel
theorem dX0_addAllocations_0 : decode cX0_addAllocations 0 = .ok (.iload_n 2, 1) := by decide +kernel
theorem dX0_addAllocations_1 : decode cX0_addAllocations 1 = .ok (.iconst 5, 1) := by decide +kernel
theorem dX0_addAllocations_2 : decode cX0_addAllocations 2 = .ok (.imul, 1) := by decide +kernel
theorem dX0_addAllocations_3 : decode cX0_addAllocations 3 = .ok (.istore_n 3, 1) := by decide +kernel
theorem dX0_addAllocations_4 : decode cX0_addAllocations 4 = .ok (.iconst 0, 1) := by decide +kernel
theorem dX0_addAllocations_5 : decode cX0_addAllocations 5 = .ok (.istore 4, 2) := by decide +kernel
theorem dX0_addAllocations_7 : decode cX0_addAllocations 7 = .ok (.iload 4, 2) := by decide +kernel
theorem dX0_addAllocations_9 : decode cX0_addAllocations 9 = .ok (.aload_n 1, 1) := by decide +kernel
theorem dX0_addAllocations_10 : decode cX0_addAllocations 10 = .ok (.getfield 18, 3) := by decide +kernel
theorem dX0_addAllocations_13 : decode cX0_addAllocations 13 = .ok (.getfield 24, 3) := by decide +kernel
theorem dX0_addAllocations_16 : decode cX0_addAllocations 16 = .ok (.if_icmp .ge 28, 3) := by decide +kernel
theorem dX0_addAllocations_19 : decode cX0_addAllocations 19 = .ok (.aload_n 0, 1) := by decide +kernel
theorem dX0_addAllocations_20 : decode cX0_addAllocations 20 = .ok (.getfield 15, 3) := by decide +kernel
theorem dX0_addAllocations_23 : decode cX0_addAllocations 23 = .ok (.iload 4, 2) := by decide +kernel
theorem dX0_addAllocations_25 : decode cX0_addAllocations 25 = .ok (.dup2, 1) := by decide +kernel
theorem dX0_addAllocations_26 : decode cX0_addAllocations 26 = .ok (.iaload, 1) := by decide +kernel
theorem dX0_addAllocations_27 : decode cX0_addAllocations 27 = .ok (.aload_n 1, 1) := by decide +kernel
theorem dX0_addAllocations_28 : decode cX0_addAllocations 28 = .ok (.getfield 36, 3) := by decide +kernel
theorem dX0_addAllocations_31 : decode cX0_addAllocations 31 = .ok (.iload_n 3, 1) := by decide +kernel
theorem dX0_addAllocations_32 : decode cX0_addAllocations 32 = .ok (.iload 4, 2) := by decide +kernel
theorem dX0_addAllocations_34 : decode cX0_addAllocations 34 = .ok (.iadd, 1) := by decide +kernel
theorem dX0_addAllocations_35 : decode cX0_addAllocations 35 = .ok (.iaload, 1) := by decide +kernel
theorem dX0_addAllocations_36 : decode cX0_addAllocations 36 = .ok (.iadd, 1) := by decide +kernel
theorem dX0_addAllocations_37 : decode cX0_addAllocations 37 = .ok (.iastore, 1) := by decide +kernel
theorem dX0_addAllocations_38 : decode cX0_addAllocations 38 = .ok (.iinc 4 1, 3) := by decide +kernel
theorem dX0_addAllocations_41 : decode cX0_addAllocations 41 = .ok (.goto (-34), 3) := by decide +kernel
theorem dX0_addAllocations_44 : decode cX0_addAllocations 44 = .ok (.return_, 1) := by decide +kernel
theorem dX0_finishesWithFree_0 : decode cX0_finishesWithFree 0 = .ok (.iload_n 2, 1) := by decide +kernel
theorem dX0_finishesWithFree_1 : decode cX0_finishesWithFree 1 = .ok (.iconst 5, 1) := by decide +kernel
theorem dX0_finishesWithFree_2 : decode cX0_finishesWithFree 2 = .ok (.imul, 1) := by decide +kernel
theorem dX0_finishesWithFree_3 : decode cX0_finishesWithFree 3 = .ok (.istore_n 3, 1) := by decide +kernel
theorem dX0_finishesWithFree_4 : decode cX0_finishesWithFree 4 = .ok (.iconst 0, 1) := by decide +kernel
theorem dX0_finishesWithFree_5 : decode cX0_finishesWithFree 5 = .ok (.istore 4, 2) := by decide +kernel
theorem dX0_finishesWithFree_7 : decode cX0_finishesWithFree 7 = .ok (.iload 4, 2) := by decide +kernel
theorem dX0_finishesWithFree_9 : decode cX0_finishesWithFree 9 = .ok (.aload_n 1, 1) := by decide +kernel
theorem dX0_finishesWithFree_10 : decode cX0_finishesWithFree 10 = .ok (.getfield 18, 3) := by decide +kernel
theorem dX0_finishesWithFree_13 : decode cX0_finishesWithFree 13 = .ok (.getfield 24, 3) := by decide +kernel
theorem dX0_finishesWithFree_16 : decode cX0_finishesWithFree 16 = .ok (.if_icmp .ge 40, 3) := by decide +kernel
theorem dX0_finishesWithFree_19 : decode cX0_finishesWithFree 19 = .ok (.aload_n 1, 1) := by decide +kernel
theorem dX0_finishesWithFree_20 : decode cX0_finishesWithFree 20 = .ok (.getfield 39, 3) := by decide +kernel
theorem dX0_finishesWithFree_23 : decode cX0_finishesWithFree 23 = .ok (.iload_n 3, 1) := by decide +kernel
theorem dX0_finishesWithFree_24 : decode cX0_finishesWithFree 24 = .ok (.iload 4, 2) := by decide +kernel
theorem dX0_finishesWithFree_26 : decode cX0_finishesWithFree 26 = .ok (.iadd, 1) := by decide +kernel
theorem dX0_finishesWithFree_27 : decode cX0_finishesWithFree 27 = .ok (.iaload, 1) := by decide +kernel
theorem dX0_finishesWithFree_28 : decode cX0_finishesWithFree 28 = .ok (.aload_n 1, 1) := by decide +kernel
theorem dX0_finishesWithFree_29 : decode cX0_finishesWithFree 29 = .ok (.getfield 36, 3) := by decide +kernel
theorem dX0_finishesWithFree_32 : decode cX0_finishesWithFree 32 = .ok (.iload_n 3, 1) := by decide +kernel
theorem dX0_finishesWithFree_33 : decode cX0_finishesWithFree 33 = .ok (.iload 4, 2) := by decide +kernel
theorem dX0_finishesWithFree_35 : decode cX0_finishesWithFree 35 = .ok (.iadd, 1) := by decide +kernel
theorem dX0_finishesWithFree_36 : decode cX0_finishesWithFree 36 = .ok (.iaload, 1) := by decide +kernel
theorem dX0_finishesWithFree_37 : decode cX0_finishesWithFree 37 = .ok (.isub, 1) := by decide +kernel
theorem dX0_finishesWithFree_38 : decode cX0_finishesWithFree 38 = .ok (.aload_n 0, 1) := by decide +kernel
theorem dX0_finishesWithFree_39 : decode cX0_finishesWithFree 39 = .ok (.getfield 15, 3) := by decide +kernel
theorem dX0_finishesWithFree_42 : decode cX0_finishesWithFree 42 = .ok (.iload 4, 2) := by decide +kernel
theorem dX0_finishesWithFree_44 : decode cX0_finishesWithFree 44 = .ok (.iaload, 1) := by decide +kernel
theorem dX0_finishesWithFree_45 : decode cX0_finishesWithFree 45 = .ok (.if_icmp .le 5, 3) := by decide +kernel
theorem dX0_finishesWithFree_48 : decode cX0_finishesWithFree 48 = .ok (.iconst 0, 1) := by decide +kernel
theorem dX0_finishesWithFree_49 : decode cX0_finishesWithFree 49 = .ok (.ireturn, 1) := by decide +kernel
theorem dX0_finishesWithFree_50 : decode cX0_finishesWithFree 50 = .ok (.iinc 4 1, 3) := by decide +kernel
theorem dX0_finishesWithFree_53 : decode cX0_finishesWithFree 53 = .ok (.goto (-46), 3) := by decide +kernel
theorem dX0_finishesWithFree_56 : decode cX0_finishesWithFree 56 = .ok (.iconst 1, 1) := by decide +kernel
theorem dX0_finishesWithFree_57 : decode cX0_finishesWithFree 57 = .ok (.ireturn, 1) := by decide +kernel
theorem dX0_allCanFinish_0 : decode cX0_allCanFinish 0 = .ok (.aload_n 0, 1) := by decide +kernel
theorem dX0_allCanFinish_1 : decode cX0_allCanFinish 1 = .ok (.aload_n 1, 1) := by decide +kernel
theorem dX0_allCanFinish_2 : decode cX0_allCanFinish 2 = .ok (.invokevirtual 42, 3) := by decide +kernel
theorem dX0_allCanFinish_5 : decode cX0_allCanFinish 5 = .ok (.iconst 0, 1) := by decide +kernel
theorem dX0_allCanFinish_6 : decode cX0_allCanFinish 6 = .ok (.istore_n 2, 1) := by decide +kernel
theorem dX0_allCanFinish_7 : decode cX0_allCanFinish 7 = .ok (.iconst 0, 1) := by decide +kernel
theorem dX0_allCanFinish_8 : decode cX0_allCanFinish 8 = .ok (.istore_n 3, 1) := by decide +kernel
theorem dX0_allCanFinish_9 : decode cX0_allCanFinish 9 = .ok (.iload_n 3, 1) := by decide +kernel
theorem dX0_allCanFinish_10 : decode cX0_allCanFinish 10 = .ok (.aload_n 1, 1) := by decide +kernel
theorem dX0_allCanFinish_11 : decode cX0_allCanFinish 11 = .ok (.getfield 33, 3) := by decide +kernel
theorem dX0_allCanFinish_14 : decode cX0_allCanFinish 14 = .ok (.getfield 24, 3) := by decide +kernel
theorem dX0_allCanFinish_17 : decode cX0_allCanFinish 17 = .ok (.if_icmp .ge 85, 3) := by decide +kernel
theorem dX0_allCanFinish_20 : decode cX0_allCanFinish 20 = .ok (.iconst 0, 1) := by decide +kernel
theorem dX0_allCanFinish_21 : decode cX0_allCanFinish 21 = .ok (.istore 4, 2) := by decide +kernel
theorem dX0_allCanFinish_23 : decode cX0_allCanFinish 23 = .ok (.iload 4, 2) := by decide +kernel
theorem dX0_allCanFinish_25 : decode cX0_allCanFinish 25 = .ok (.aload_n 1, 1) := by decide +kernel
theorem dX0_allCanFinish_26 : decode cX0_allCanFinish 26 = .ok (.getfield 33, 3) := by decide +kernel
theorem dX0_allCanFinish_29 : decode cX0_allCanFinish 29 = .ok (.getfield 24, 3) := by decide +kernel
theorem dX0_allCanFinish_32 : decode cX0_allCanFinish 32 = .ok (.if_icmp .ge 28, 3) := by decide +kernel
theorem dX0_allCanFinish_35 : decode cX0_allCanFinish 35 = .ok (.iload_n 2, 1) := by decide +kernel
theorem dX0_allCanFinish_36 : decode cX0_allCanFinish 36 = .ok (.iload 4, 2) := by decide +kernel
theorem dX0_allCanFinish_38 : decode cX0_allCanFinish 38 = .ok (.invokestatic 50, 3) := by decide +kernel
theorem dX0_allCanFinish_41 : decode cX0_allCanFinish 41 = .ok (.ifCond .ne 13, 3) := by decide +kernel
theorem dX0_allCanFinish_44 : decode cX0_allCanFinish 44 = .ok (.aload_n 0, 1) := by decide +kernel
theorem dX0_allCanFinish_45 : decode cX0_allCanFinish 45 = .ok (.aload_n 1, 1) := by decide +kernel
theorem dX0_allCanFinish_46 : decode cX0_allCanFinish 46 = .ok (.iload 4, 2) := by decide +kernel
theorem dX0_allCanFinish_48 : decode cX0_allCanFinish 48 = .ok (.invokevirtual 46, 3) := by decide +kernel
theorem dX0_allCanFinish_51 : decode cX0_allCanFinish 51 = .ok (.ifCond .ne 9, 3) := by decide +kernel
theorem dX0_allCanFinish_54 : decode cX0_allCanFinish 54 = .ok (.iinc 4 1, 3) := by decide +kernel
theorem dX0_allCanFinish_57 : decode cX0_allCanFinish 57 = .ok (.goto (-34), 3) := by decide +kernel
theorem dX0_allCanFinish_60 : decode cX0_allCanFinish 60 = .ok (.iload 4, 2) := by decide +kernel
theorem dX0_allCanFinish_62 : decode cX0_allCanFinish 62 = .ok (.aload_n 1, 1) := by decide +kernel
theorem dX0_allCanFinish_63 : decode cX0_allCanFinish 63 = .ok (.getfield 33, 3) := by decide +kernel
theorem dX0_allCanFinish_66 : decode cX0_allCanFinish 66 = .ok (.getfield 24, 3) := by decide +kernel
theorem dX0_allCanFinish_69 : decode cX0_allCanFinish 69 = .ok (.if_icmp .ne 5, 3) := by decide +kernel
theorem dX0_allCanFinish_72 : decode cX0_allCanFinish 72 = .ok (.iconst 0, 1) := by decide +kernel
theorem dX0_allCanFinish_73 : decode cX0_allCanFinish 73 = .ok (.ireturn, 1) := by decide +kernel
theorem dX0_allCanFinish_74 : decode cX0_allCanFinish 74 = .ok (.aload_n 0, 1) := by decide +kernel
theorem dX0_allCanFinish_75 : decode cX0_allCanFinish 75 = .ok (.getfield 9, 3) := by decide +kernel
theorem dX0_allCanFinish_78 : decode cX0_allCanFinish 78 = .ok (.iload_n 3, 1) := by decide +kernel
theorem dX0_allCanFinish_79 : decode cX0_allCanFinish 79 = .ok (.iload 4, 2) := by decide +kernel
theorem dX0_allCanFinish_81 : decode cX0_allCanFinish 81 = .ok (.iastore, 1) := by decide +kernel
theorem dX0_allCanFinish_82 : decode cX0_allCanFinish 82 = .ok (.iload_n 2, 1) := by decide +kernel
theorem dX0_allCanFinish_83 : decode cX0_allCanFinish 83 = .ok (.iconst 1, 1) := by decide +kernel
theorem dX0_allCanFinish_84 : decode cX0_allCanFinish 84 = .ok (.iload 4, 2) := by decide +kernel
theorem dX0_allCanFinish_86 : decode cX0_allCanFinish 86 = .ok (.ishl, 1) := by decide +kernel
theorem dX0_allCanFinish_87 : decode cX0_allCanFinish 87 = .ok (.ior, 1) := by decide +kernel
theorem dX0_allCanFinish_88 : decode cX0_allCanFinish 88 = .ok (.istore_n 2, 1) := by decide +kernel
theorem dX0_allCanFinish_89 : decode cX0_allCanFinish 89 = .ok (.aload_n 0, 1) := by decide +kernel
theorem dX0_allCanFinish_90 : decode cX0_allCanFinish 90 = .ok (.aload_n 1, 1) := by decide +kernel
theorem dX0_allCanFinish_91 : decode cX0_allCanFinish 91 = .ok (.iload 4, 2) := by decide +kernel
theorem dX0_allCanFinish_93 : decode cX0_allCanFinish 93 = .ok (.invokevirtual 54, 3) := by decide +kernel
theorem dX0_allCanFinish_96 : decode cX0_allCanFinish 96 = .ok (.iinc 3 1, 3) := by decide +kernel
theorem dX0_allCanFinish_99 : decode cX0_allCanFinish 99 = .ok (.goto (-90), 3) := by decide +kernel
theorem dX0_allCanFinish_102 : decode cX0_allCanFinish 102 = .ok (.iconst 1, 1) := by decide +kernel
theorem dX0_allCanFinish_103 : decode cX0_allCanFinish 103 = .ok (.ireturn, 1) := by decide +kernel
theorem dX0_isGrantable_0 : decode cX0_isGrantable 0 = .ok (.aload_n 0, 1) := by decide +kernel
theorem dX0_isGrantable_1 : decode cX0_isGrantable 1 = .ok (.aload_n 1, 1) := by decide +kernel
theorem dX0_isGrantable_2 : decode cX0_isGrantable 2 = .ok (.invokevirtual 42, 3) := by decide +kernel
theorem dX0_isGrantable_5 : decode cX0_isGrantable 5 = .ok (.iload 4, 2) := by decide +kernel
theorem dX0_isGrantable_7 : decode cX0_isGrantable 7 = .ok (.aload_n 0, 1) := by decide +kernel
theorem dX0_isGrantable_8 : decode cX0_isGrantable 8 = .ok (.getfield 15, 3) := by decide +kernel
theorem dX0_isGrantable_11 : decode cX0_isGrantable 11 = .ok (.iload_n 3, 1) := by decide +kernel
theorem dX0_isGrantable_12 : decode cX0_isGrantable 12 = .ok (.iaload, 1) := by decide +kernel
theorem dX0_isGrantable_13 : decode cX0_isGrantable 13 = .ok (.if_icmp .le 5, 3) := by decide +kernel
theorem dX0_isGrantable_16 : decode cX0_isGrantable 16 = .ok (.iconst 0, 1) := by decide +kernel
theorem dX0_isGrantable_17 : decode cX0_isGrantable 17 = .ok (.ireturn, 1) := by decide +kernel
theorem dX0_isGrantable_18 : decode cX0_isGrantable 18 = .ok (.iload_n 2, 1) := by decide +kernel
theorem dX0_isGrantable_19 : decode cX0_isGrantable 19 = .ok (.iload_n 3, 1) := by decide +kernel
theorem dX0_isGrantable_20 : decode cX0_isGrantable 20 = .ok (.invokestatic 58, 3) := by decide +kernel
theorem dX0_isGrantable_23 : decode cX0_isGrantable 23 = .ok (.istore 5, 2) := by decide +kernel
theorem dX0_isGrantable_25 : decode cX0_isGrantable 25 = .ok (.aload_n 1, 1) := by decide +kernel
theorem dX0_isGrantable_26 : decode cX0_isGrantable 26 = .ok (.getfield 36, 3) := by decide +kernel
theorem dX0_isGrantable_29 : decode cX0_isGrantable 29 = .ok (.iload 5, 2) := by decide +kernel
theorem dX0_isGrantable_31 : decode cX0_isGrantable 31 = .ok (.dup2, 1) := by decide +kernel
theorem dX0_isGrantable_32 : decode cX0_isGrantable 32 = .ok (.iaload, 1) := by decide +kernel
theorem dX0_isGrantable_33 : decode cX0_isGrantable 33 = .ok (.iload 4, 2) := by decide +kernel
theorem dX0_isGrantable_35 : decode cX0_isGrantable 35 = .ok (.iadd, 1) := by decide +kernel
theorem dX0_isGrantable_36 : decode cX0_isGrantable 36 = .ok (.iastore, 1) := by decide +kernel
theorem dX0_isGrantable_37 : decode cX0_isGrantable 37 = .ok (.aload_n 0, 1) := by decide +kernel
theorem dX0_isGrantable_38 : decode cX0_isGrantable 38 = .ok (.aload_n 1, 1) := by decide +kernel
theorem dX0_isGrantable_39 : decode cX0_isGrantable 39 = .ok (.invokevirtual 62, 3) := by decide +kernel
theorem dX0_isGrantable_42 : decode cX0_isGrantable 42 = .ok (.istore 6, 2) := by decide +kernel
theorem dX0_isGrantable_44 : decode cX0_isGrantable 44 = .ok (.aload_n 1, 1) := by decide +kernel
theorem dX0_isGrantable_45 : decode cX0_isGrantable 45 = .ok (.getfield 36, 3) := by decide +kernel
theorem dX0_isGrantable_48 : decode cX0_isGrantable 48 = .ok (.iload 5, 2) := by decide +kernel
theorem dX0_isGrantable_50 : decode cX0_isGrantable 50 = .ok (.dup2, 1) := by decide +kernel
theorem dX0_isGrantable_51 : decode cX0_isGrantable 51 = .ok (.iaload, 1) := by decide +kernel
theorem dX0_isGrantable_52 : decode cX0_isGrantable 52 = .ok (.iload 4, 2) := by decide +kernel
theorem dX0_isGrantable_54 : decode cX0_isGrantable 54 = .ok (.isub, 1) := by decide +kernel
theorem dX0_isGrantable_55 : decode cX0_isGrantable 55 = .ok (.iastore, 1) := by decide +kernel
theorem dX0_isGrantable_56 : decode cX0_isGrantable 56 = .ok (.iload 6, 2) := by decide +kernel
theorem dX0_isGrantable_58 : decode cX0_isGrantable 58 = .ok (.ireturn, 1) := by decide +kernel
theorem dX0_grantOrQueue_0 : decode cX0_grantOrQueue 0 = .ok (.aload_n 0, 1) := by decide +kernel
theorem dX0_grantOrQueue_1 : decode cX0_grantOrQueue 1 = .ok (.aload_n 1, 1) := by decide +kernel
theorem dX0_grantOrQueue_2 : decode cX0_grantOrQueue 2 = .ok (.iload_n 2, 1) := by decide +kernel
theorem dX0_grantOrQueue_3 : decode cX0_grantOrQueue 3 = .ok (.iload_n 3, 1) := by decide +kernel
theorem dX0_grantOrQueue_4 : decode cX0_grantOrQueue 4 = .ok (.iload 4, 2) := by decide +kernel
theorem dX0_grantOrQueue_6 : decode cX0_grantOrQueue 6 = .ok (.invokevirtual 77, 3) := by decide +kernel
theorem dX0_grantOrQueue_9 : decode cX0_grantOrQueue 9 = .ok (.ifCond .eq 30, 3) := by decide +kernel
theorem dX0_grantOrQueue_12 : decode cX0_grantOrQueue 12 = .ok (.aload_n 1, 1) := by decide +kernel
theorem dX0_grantOrQueue_13 : decode cX0_grantOrQueue 13 = .ok (.getfield 36, 3) := by decide +kernel
theorem dX0_grantOrQueue_16 : decode cX0_grantOrQueue 16 = .ok (.iload_n 2, 1) := by decide +kernel
theorem dX0_grantOrQueue_17 : decode cX0_grantOrQueue 17 = .ok (.iload_n 3, 1) := by decide +kernel
theorem dX0_grantOrQueue_18 : decode cX0_grantOrQueue 18 = .ok (.invokestatic 58, 3) := by decide +kernel
theorem dX0_grantOrQueue_21 : decode cX0_grantOrQueue 21 = .ok (.dup2, 1) := by decide +kernel
theorem dX0_grantOrQueue_22 : decode cX0_grantOrQueue 22 = .ok (.iaload, 1) := by decide +kernel
theorem dX0_grantOrQueue_23 : decode cX0_grantOrQueue 23 = .ok (.iload 4, 2) := by decide +kernel
theorem dX0_grantOrQueue_25 : decode cX0_grantOrQueue 25 = .ok (.iadd, 1) := by decide +kernel
theorem dX0_grantOrQueue_26 : decode cX0_grantOrQueue 26 = .ok (.iastore, 1) := by decide +kernel
theorem dX0_grantOrQueue_27 : decode cX0_grantOrQueue 27 = .ok (.aload_n 1, 1) := by decide +kernel
theorem dX0_grantOrQueue_28 : decode cX0_grantOrQueue 28 = .ok (.dup, 1) := by decide +kernel
theorem dX0_grantOrQueue_29 : decode cX0_grantOrQueue 29 = .ok (.getfield 103, 3) := by decide +kernel
theorem dX0_grantOrQueue_32 : decode cX0_grantOrQueue 32 = .ok (.iconst 1, 1) := by decide +kernel
theorem dX0_grantOrQueue_33 : decode cX0_grantOrQueue 33 = .ok (.iadd, 1) := by decide +kernel
theorem dX0_grantOrQueue_34 : decode cX0_grantOrQueue 34 = .ok (.putfield 103, 3) := by decide +kernel
theorem dX0_grantOrQueue_37 : decode cX0_grantOrQueue 37 = .ok (.iconst 1, 1) := by decide +kernel
theorem dX0_grantOrQueue_38 : decode cX0_grantOrQueue 38 = .ok (.ireturn, 1) := by decide +kernel
theorem dX0_grantOrQueue_39 : decode cX0_grantOrQueue 39 = .ok (.aload_n 1, 1) := by decide +kernel
theorem dX0_grantOrQueue_40 : decode cX0_grantOrQueue 40 = .ok (.iload_n 2, 1) := by decide +kernel
theorem dX0_grantOrQueue_41 : decode cX0_grantOrQueue 41 = .ok (.iload_n 3, 1) := by decide +kernel
theorem dX0_grantOrQueue_42 : decode cX0_grantOrQueue 42 = .ok (.iload 4, 2) := by decide +kernel
theorem dX0_grantOrQueue_44 : decode cX0_grantOrQueue 44 = .ok (.invokevirtual 106, 3) := by decide +kernel
theorem dX0_grantOrQueue_47 : decode cX0_grantOrQueue 47 = .ok (.aload_n 1, 1) := by decide +kernel
theorem dX0_grantOrQueue_48 : decode cX0_grantOrQueue 48 = .ok (.dup, 1) := by decide +kernel
theorem dX0_grantOrQueue_49 : decode cX0_grantOrQueue 49 = .ok (.getfield 110, 3) := by decide +kernel
theorem dX0_grantOrQueue_52 : decode cX0_grantOrQueue 52 = .ok (.iconst 1, 1) := by decide +kernel
theorem dX0_grantOrQueue_53 : decode cX0_grantOrQueue 53 = .ok (.iadd, 1) := by decide +kernel
theorem dX0_grantOrQueue_54 : decode cX0_grantOrQueue 54 = .ok (.putfield 110, 3) := by decide +kernel
theorem dX0_grantOrQueue_57 : decode cX0_grantOrQueue 57 = .ok (.iconst 0, 1) := by decide +kernel
theorem dX0_grantOrQueue_58 : decode cX0_grantOrQueue 58 = .ok (.ireturn, 1) := by decide +kernel
theorem dX0_takeBack_0 : decode cX0_takeBack 0 = .ok (.aload_n 1, 1) := by decide +kernel
theorem dX0_takeBack_1 : decode cX0_takeBack 1 = .ok (.getfield 36, 3) := by decide +kernel
theorem dX0_takeBack_4 : decode cX0_takeBack 4 = .ok (.iload_n 2, 1) := by decide +kernel
theorem dX0_takeBack_5 : decode cX0_takeBack 5 = .ok (.iload_n 3, 1) := by decide +kernel
theorem dX0_takeBack_6 : decode cX0_takeBack 6 = .ok (.invokestatic 58, 3) := by decide +kernel
theorem dX0_takeBack_9 : decode cX0_takeBack 9 = .ok (.dup2, 1) := by decide +kernel
theorem dX0_takeBack_10 : decode cX0_takeBack 10 = .ok (.iaload, 1) := by decide +kernel
theorem dX0_takeBack_11 : decode cX0_takeBack 11 = .ok (.iload 4, 2) := by decide +kernel
theorem dX0_takeBack_13 : decode cX0_takeBack 13 = .ok (.isub, 1) := by decide +kernel
theorem dX0_takeBack_14 : decode cX0_takeBack 14 = .ok (.iastore, 1) := by decide +kernel
theorem dX0_takeBack_15 : decode cX0_takeBack 15 = .ok (.aload_n 0, 1) := by decide +kernel
theorem dX0_takeBack_16 : decode cX0_takeBack 16 = .ok (.aload_n 1, 1) := by decide +kernel
theorem dX0_takeBack_17 : decode cX0_takeBack 17 = .ok (.invokevirtual 113, 3) := by decide +kernel
theorem dX0_takeBack_20 : decode cX0_takeBack 20 = .ok (.ireturn, 1) := by decide +kernel
theorem dX0_takeBackAll_0 : decode cX0_takeBackAll 0 = .ok (.aload_n 1, 1) := by decide +kernel
theorem dX0_takeBackAll_1 : decode cX0_takeBackAll 1 = .ok (.iload_n 2, 1) := by decide +kernel
theorem dX0_takeBackAll_2 : decode cX0_takeBackAll 2 = .ok (.invokevirtual 66, 3) := by decide +kernel
theorem dX0_takeBackAll_5 : decode cX0_takeBackAll 5 = .ok (.ifCond .eq 18, 3) := by decide +kernel
theorem dX0_takeBackAll_8 : decode cX0_takeBackAll 8 = .ok (.aload_n 1, 1) := by decide +kernel
theorem dX0_takeBackAll_9 : decode cX0_takeBackAll 9 = .ok (.iload_n 2, 1) := by decide +kernel
theorem dX0_takeBackAll_10 : decode cX0_takeBackAll 10 = .ok (.invokevirtual 117, 3) := by decide +kernel
theorem dX0_takeBackAll_13 : decode cX0_takeBackAll 13 = .ok (.aload_n 1, 1) := by decide +kernel
theorem dX0_takeBackAll_14 : decode cX0_takeBackAll 14 = .ok (.dup, 1) := by decide +kernel
theorem dX0_takeBackAll_15 : decode cX0_takeBackAll 15 = .ok (.getfield 121, 3) := by decide +kernel
theorem dX0_takeBackAll_18 : decode cX0_takeBackAll 18 = .ok (.iconst 1, 1) := by decide +kernel
theorem dX0_takeBackAll_19 : decode cX0_takeBackAll 19 = .ok (.iadd, 1) := by decide +kernel
theorem dX0_takeBackAll_20 : decode cX0_takeBackAll 20 = .ok (.putfield 121, 3) := by decide +kernel
theorem dX0_takeBackAll_23 : decode cX0_takeBackAll 23 = .ok (.iconst 0, 1) := by decide +kernel
theorem dX0_takeBackAll_24 : decode cX0_takeBackAll 24 = .ok (.istore_n 3, 1) := by decide +kernel
theorem dX0_takeBackAll_25 : decode cX0_takeBackAll 25 = .ok (.iload_n 3, 1) := by decide +kernel
theorem dX0_takeBackAll_26 : decode cX0_takeBackAll 26 = .ok (.aload_n 1, 1) := by decide +kernel
theorem dX0_takeBackAll_27 : decode cX0_takeBackAll 27 = .ok (.getfield 18, 3) := by decide +kernel
theorem dX0_takeBackAll_30 : decode cX0_takeBackAll 30 = .ok (.getfield 24, 3) := by decide +kernel
theorem dX0_takeBackAll_33 : decode cX0_takeBackAll 33 = .ok (.if_icmp .ge 20, 3) := by decide +kernel
theorem dX0_takeBackAll_36 : decode cX0_takeBackAll 36 = .ok (.aload_n 1, 1) := by decide +kernel
theorem dX0_takeBackAll_37 : decode cX0_takeBackAll 37 = .ok (.getfield 36, 3) := by decide +kernel
theorem dX0_takeBackAll_40 : decode cX0_takeBackAll 40 = .ok (.iload_n 2, 1) := by decide +kernel
theorem dX0_takeBackAll_41 : decode cX0_takeBackAll 41 = .ok (.iload_n 3, 1) := by decide +kernel
theorem dX0_takeBackAll_42 : decode cX0_takeBackAll 42 = .ok (.invokestatic 58, 3) := by decide +kernel
theorem dX0_takeBackAll_45 : decode cX0_takeBackAll 45 = .ok (.iconst 0, 1) := by decide +kernel
theorem dX0_takeBackAll_46 : decode cX0_takeBackAll 46 = .ok (.iastore, 1) := by decide +kernel
theorem dX0_takeBackAll_47 : decode cX0_takeBackAll 47 = .ok (.iinc 3 1, 3) := by decide +kernel
theorem dX0_takeBackAll_50 : decode cX0_takeBackAll 50 = .ok (.goto (-25), 3) := by decide +kernel
theorem dX0_takeBackAll_53 : decode cX0_takeBackAll 53 = .ok (.aload_n 0, 1) := by decide +kernel
theorem dX0_takeBackAll_54 : decode cX0_takeBackAll 54 = .ok (.aload_n 1, 1) := by decide +kernel
theorem dX0_takeBackAll_55 : decode cX0_takeBackAll 55 = .ok (.invokevirtual 113, 3) := by decide +kernel
theorem dX0_takeBackAll_58 : decode cX0_takeBackAll 58 = .ok (.ireturn, 1) := by decide +kernel
theorem dX0_withdrawRequest_0 : decode cX0_withdrawRequest 0 = .ok (.aload_n 1, 1) := by decide +kernel
theorem dX0_withdrawRequest_1 : decode cX0_withdrawRequest 1 = .ok (.iload_n 2, 1) := by decide +kernel
theorem dX0_withdrawRequest_2 : decode cX0_withdrawRequest 2 = .ok (.invokevirtual 117, 3) := by decide +kernel
theorem dX0_withdrawRequest_5 : decode cX0_withdrawRequest 5 = .ok (.aload_n 1, 1) := by decide +kernel
theorem dX0_withdrawRequest_6 : decode cX0_withdrawRequest 6 = .ok (.dup, 1) := by decide +kernel
theorem dX0_withdrawRequest_7 : decode cX0_withdrawRequest 7 = .ok (.getfield 121, 3) := by decide +kernel
theorem dX0_withdrawRequest_10 : decode cX0_withdrawRequest 10 = .ok (.iconst 1, 1) := by decide +kernel
theorem dX0_withdrawRequest_11 : decode cX0_withdrawRequest 11 = .ok (.iadd, 1) := by decide +kernel
theorem dX0_withdrawRequest_12 : decode cX0_withdrawRequest 12 = .ok (.putfield 121, 3) := by decide +kernel
theorem dX0_withdrawRequest_15 : decode cX0_withdrawRequest 15 = .ok (.aload_n 0, 1) := by decide +kernel
theorem dX0_withdrawRequest_16 : decode cX0_withdrawRequest 16 = .ok (.aload_n 1, 1) := by decide +kernel
theorem dX0_withdrawRequest_17 : decode cX0_withdrawRequest 17 = .ok (.invokevirtual 113, 3) := by decide +kernel
theorem dX0_withdrawRequest_20 : decode cX0_withdrawRequest 20 = .ok (.ireturn, 1) := by decide +kernel
theorem dX0_resize_0 : decode cX0_resize 0 = .ok (.aload_n 1, 1) := by decide +kernel
theorem dX0_resize_1 : decode cX0_resize 1 = .ok (.getfield 30, 3) := by decide +kernel
theorem dX0_resize_4 : decode cX0_resize 4 = .ok (.iload_n 2, 1) := by decide +kernel
theorem dX0_resize_5 : decode cX0_resize 5 = .ok (.iload_n 3, 1) := by decide +kernel
theorem dX0_resize_6 : decode cX0_resize 6 = .ok (.iastore, 1) := by decide +kernel
theorem dX0_resize_7 : decode cX0_resize 7 = .ok (.aload_n 0, 1) := by decide +kernel
theorem dX0_resize_8 : decode cX0_resize 8 = .ok (.aload_n 1, 1) := by decide +kernel
theorem dX0_resize_9 : decode cX0_resize 9 = .ok (.invokevirtual 113, 3) := by decide +kernel
theorem dX0_resize_12 : decode cX0_resize 12 = .ok (.ireturn, 1) := by decide +kernel
theorem dX0_changeClaim_0 : decode cX0_changeClaim 0 = .ok (.aload_n 1, 1) := by decide +kernel
theorem dX0_changeClaim_1 : decode cX0_changeClaim 1 = .ok (.getfield 39, 3) := by decide +kernel
theorem dX0_changeClaim_4 : decode cX0_changeClaim 4 = .ok (.iload_n 2, 1) := by decide +kernel
theorem dX0_changeClaim_5 : decode cX0_changeClaim 5 = .ok (.iload_n 3, 1) := by decide +kernel
theorem dX0_changeClaim_6 : decode cX0_changeClaim 6 = .ok (.invokestatic 58, 3) := by decide +kernel
theorem dX0_changeClaim_9 : decode cX0_changeClaim 9 = .ok (.iload 4, 2) := by decide +kernel
theorem dX0_changeClaim_11 : decode cX0_changeClaim 11 = .ok (.iastore, 1) := by decide +kernel
theorem dX0_changeClaim_12 : decode cX0_changeClaim 12 = .ok (.aload_n 0, 1) := by decide +kernel
theorem dX0_changeClaim_13 : decode cX0_changeClaim 13 = .ok (.aload_n 1, 1) := by decide +kernel
theorem dX0_changeClaim_14 : decode cX0_changeClaim 14 = .ok (.invokevirtual 113, 3) := by decide +kernel
theorem dX0_changeClaim_17 : decode cX0_changeClaim 17 = .ok (.ireturn, 1) := by decide +kernel
theorem dX0_serveQueue_0 : decode cX0_serveQueue 0 = .ok (.aload_n 1, 1) := by decide +kernel
theorem dX0_serveQueue_1 : decode cX0_serveQueue 1 = .ok (.getfield 124, 3) := by decide +kernel
theorem dX0_serveQueue_4 : decode cX0_serveQueue 4 = .ok (.istore_n 2, 1) := by decide +kernel
theorem dX0_serveQueue_5 : decode cX0_serveQueue 5 = .ok (.iconst (-1), 1) := by decide +kernel
theorem dX0_serveQueue_6 : decode cX0_serveQueue 6 = .ok (.istore_n 3, 1) := by decide +kernel
theorem dX0_serveQueue_7 : decode cX0_serveQueue 7 = .ok (.iconst 0, 1) := by decide +kernel
theorem dX0_serveQueue_8 : decode cX0_serveQueue 8 = .ok (.istore 4, 2) := by decide +kernel
theorem dX0_serveQueue_10 : decode cX0_serveQueue 10 = .ok (.iload 4, 2) := by decide +kernel
theorem dX0_serveQueue_12 : decode cX0_serveQueue 12 = .ok (.bipush 8, 2) := by decide +kernel
theorem dX0_serveQueue_14 : decode cX0_serveQueue 14 = .ok (.if_icmp .gt 131, 3) := by decide +kernel
theorem dX0_serveQueue_17 : decode cX0_serveQueue 17 = .ok (.aload_n 1, 1) := by decide +kernel
theorem dX0_serveQueue_18 : decode cX0_serveQueue 18 = .ok (.getfield 124, 3) := by decide +kernel
theorem dX0_serveQueue_21 : decode cX0_serveQueue 21 = .ok (.iload_n 3, 1) := by decide +kernel
theorem dX0_serveQueue_22 : decode cX0_serveQueue 22 = .ok (.if_icmp .eq 123, 3) := by decide +kernel
theorem dX0_serveQueue_25 : decode cX0_serveQueue 25 = .ok (.aload_n 1, 1) := by decide +kernel
theorem dX0_serveQueue_26 : decode cX0_serveQueue 26 = .ok (.getfield 124, 3) := by decide +kernel
theorem dX0_serveQueue_29 : decode cX0_serveQueue 29 = .ok (.istore_n 3, 1) := by decide +kernel
theorem dX0_serveQueue_30 : decode cX0_serveQueue 30 = .ok (.iconst 0, 1) := by decide +kernel
theorem dX0_serveQueue_31 : decode cX0_serveQueue 31 = .ok (.istore 5, 2) := by decide +kernel
theorem dX0_serveQueue_33 : decode cX0_serveQueue 33 = .ok (.aload_n 1, 1) := by decide +kernel
theorem dX0_serveQueue_34 : decode cX0_serveQueue 34 = .ok (.getfield 127, 3) := by decide +kernel
theorem dX0_serveQueue_37 : decode cX0_serveQueue 37 = .ok (.istore 6, 2) := by decide +kernel
theorem dX0_serveQueue_39 : decode cX0_serveQueue 39 = .ok (.iload 6, 2) := by decide +kernel
theorem dX0_serveQueue_41 : decode cX0_serveQueue 41 = .ok (.ifCond .le 98, 3) := by decide +kernel
theorem dX0_serveQueue_44 : decode cX0_serveQueue 44 = .ok (.iload 5, 2) := by decide +kernel
theorem dX0_serveQueue_46 : decode cX0_serveQueue 46 = .ok (.aload_n 1, 1) := by decide +kernel
theorem dX0_serveQueue_47 : decode cX0_serveQueue 47 = .ok (.getfield 127, 3) := by decide +kernel
theorem dX0_serveQueue_50 : decode cX0_serveQueue 50 = .ok (.if_icmp .ge 89, 3) := by decide +kernel
theorem dX0_serveQueue_53 : decode cX0_serveQueue 53 = .ok (.aload_n 1, 1) := by decide +kernel
theorem dX0_serveQueue_54 : decode cX0_serveQueue 54 = .ok (.getfield 130, 3) := by decide +kernel
theorem dX0_serveQueue_57 : decode cX0_serveQueue 57 = .ok (.iload 5, 2) := by decide +kernel
theorem dX0_serveQueue_59 : decode cX0_serveQueue 59 = .ok (.iaload, 1) := by decide +kernel
theorem dX0_serveQueue_60 : decode cX0_serveQueue 60 = .ok (.istore 7, 2) := by decide +kernel
theorem dX0_serveQueue_62 : decode cX0_serveQueue 62 = .ok (.aload_n 1, 1) := by decide +kernel
theorem dX0_serveQueue_63 : decode cX0_serveQueue 63 = .ok (.getfield 133, 3) := by decide +kernel
theorem dX0_serveQueue_66 : decode cX0_serveQueue 66 = .ok (.iload 7, 2) := by decide +kernel
theorem dX0_serveQueue_68 : decode cX0_serveQueue 68 = .ok (.iaload, 1) := by decide +kernel
theorem dX0_serveQueue_69 : decode cX0_serveQueue 69 = .ok (.istore 8, 2) := by decide +kernel
theorem dX0_serveQueue_71 : decode cX0_serveQueue 71 = .ok (.aload_n 1, 1) := by decide +kernel
theorem dX0_serveQueue_72 : decode cX0_serveQueue 72 = .ok (.getfield 136, 3) := by decide +kernel
theorem dX0_serveQueue_75 : decode cX0_serveQueue 75 = .ok (.iload 7, 2) := by decide +kernel
theorem dX0_serveQueue_77 : decode cX0_serveQueue 77 = .ok (.iaload, 1) := by decide +kernel
theorem dX0_serveQueue_78 : decode cX0_serveQueue 78 = .ok (.istore 9, 2) := by decide +kernel
theorem dX0_serveQueue_80 : decode cX0_serveQueue 80 = .ok (.aload_n 0, 1) := by decide +kernel
theorem dX0_serveQueue_81 : decode cX0_serveQueue 81 = .ok (.aload_n 1, 1) := by decide +kernel
theorem dX0_serveQueue_82 : decode cX0_serveQueue 82 = .ok (.iload 7, 2) := by decide +kernel
theorem dX0_serveQueue_84 : decode cX0_serveQueue 84 = .ok (.iload 8, 2) := by decide +kernel
theorem dX0_serveQueue_86 : decode cX0_serveQueue 86 = .ok (.iload 9, 2) := by decide +kernel
theorem dX0_serveQueue_88 : decode cX0_serveQueue 88 = .ok (.invokevirtual 77, 3) := by decide +kernel
theorem dX0_serveQueue_91 : decode cX0_serveQueue 91 = .ok (.ifCond .eq 39, 3) := by decide +kernel
theorem dX0_serveQueue_94 : decode cX0_serveQueue 94 = .ok (.aload_n 1, 1) := by decide +kernel
theorem dX0_serveQueue_95 : decode cX0_serveQueue 95 = .ok (.iload 7, 2) := by decide +kernel
theorem dX0_serveQueue_97 : decode cX0_serveQueue 97 = .ok (.invokevirtual 117, 3) := by decide +kernel
theorem dX0_serveQueue_100 : decode cX0_serveQueue 100 = .ok (.aload_n 1, 1) := by decide +kernel
theorem dX0_serveQueue_101 : decode cX0_serveQueue 101 = .ok (.getfield 36, 3) := by decide +kernel
theorem dX0_serveQueue_104 : decode cX0_serveQueue 104 = .ok (.iload 7, 2) := by decide +kernel
theorem dX0_serveQueue_106 : decode cX0_serveQueue 106 = .ok (.iload 8, 2) := by decide +kernel
theorem dX0_serveQueue_108 : decode cX0_serveQueue 108 = .ok (.invokestatic 58, 3) := by decide +kernel
theorem dX0_serveQueue_111 : decode cX0_serveQueue 111 = .ok (.dup2, 1) := by decide +kernel
theorem dX0_serveQueue_112 : decode cX0_serveQueue 112 = .ok (.iaload, 1) := by decide +kernel
theorem dX0_serveQueue_113 : decode cX0_serveQueue 113 = .ok (.iload 9, 2) := by decide +kernel
theorem dX0_serveQueue_115 : decode cX0_serveQueue 115 = .ok (.iadd, 1) := by decide +kernel
theorem dX0_serveQueue_116 : decode cX0_serveQueue 116 = .ok (.iastore, 1) := by decide +kernel
theorem dX0_serveQueue_117 : decode cX0_serveQueue 117 = .ok (.aload_n 1, 1) := by decide +kernel
theorem dX0_serveQueue_118 : decode cX0_serveQueue 118 = .ok (.dup, 1) := by decide +kernel
theorem dX0_serveQueue_119 : decode cX0_serveQueue 119 = .ok (.getfield 124, 3) := by decide +kernel
theorem dX0_serveQueue_122 : decode cX0_serveQueue 122 = .ok (.iconst 1, 1) := by decide +kernel
theorem dX0_serveQueue_123 : decode cX0_serveQueue 123 = .ok (.iadd, 1) := by decide +kernel
theorem dX0_serveQueue_124 : decode cX0_serveQueue 124 = .ok (.putfield 124, 3) := by decide +kernel
theorem dX0_serveQueue_127 : decode cX0_serveQueue 127 = .ok (.goto 6, 3) := by decide +kernel
theorem dX0_serveQueue_130 : decode cX0_serveQueue 130 = .ok (.iinc 5 1, 3) := by decide +kernel
theorem dX0_serveQueue_133 : decode cX0_serveQueue 133 = .ok (.iinc 6 (-1), 3) := by decide +kernel
theorem dX0_serveQueue_136 : decode cX0_serveQueue 136 = .ok (.goto (-97), 3) := by decide +kernel
theorem dX0_serveQueue_139 : decode cX0_serveQueue 139 = .ok (.iinc 4 1, 3) := by decide +kernel
theorem dX0_serveQueue_142 : decode cX0_serveQueue 142 = .ok (.goto (-132), 3) := by decide +kernel
theorem dX0_serveQueue_145 : decode cX0_serveQueue 145 = .ok (.aload_n 1, 1) := by decide +kernel
theorem dX0_serveQueue_146 : decode cX0_serveQueue 146 = .ok (.getfield 124, 3) := by decide +kernel
theorem dX0_serveQueue_149 : decode cX0_serveQueue 149 = .ok (.iload_n 2, 1) := by decide +kernel
theorem dX0_serveQueue_150 : decode cX0_serveQueue 150 = .ok (.isub, 1) := by decide +kernel
theorem dX0_serveQueue_151 : decode cX0_serveQueue 151 = .ok (.ireturn, 1) := by decide +kernel
theorem dX1_init_0 : decode cX1_init 0 = .ok (.aload_n 0, 1) := by decide +kernel
theorem dX1_init_1 : decode cX1_init 1 = .ok (.invokespecial 3, 3) := by decide +kernel
theorem dX1_init_4 : decode cX1_init 4 = .ok (.aload_n 0, 1) := by decide +kernel
theorem dX1_init_5 : decode cX1_init 5 = .ok (.bipush 64, 2) := by decide +kernel
theorem dX1_init_7 : decode cX1_init 7 = .ok (.newarray .int, 2) := by decide +kernel
theorem dX1_init_9 : decode cX1_init 9 = .ok (.putfield 9, 3) := by decide +kernel
theorem dX1_init_12 : decode cX1_init 12 = .ok (.return_, 1) := by decide +kernel
theorem dX1_copyFrom_0 : decode cX1_copyFrom 0 = .ok (.aload_n 1, 1) := by decide +kernel
theorem dX1_copyFrom_1 : decode cX1_copyFrom 1 = .ok (.getfield 9, 3) := by decide +kernel
theorem dX1_copyFrom_4 : decode cX1_copyFrom 4 = .ok (.iconst 0, 1) := by decide +kernel
theorem dX1_copyFrom_5 : decode cX1_copyFrom 5 = .ok (.aload_n 0, 1) := by decide +kernel
theorem dX1_copyFrom_6 : decode cX1_copyFrom 6 = .ok (.getfield 9, 3) := by decide +kernel
theorem dX1_copyFrom_9 : decode cX1_copyFrom 9 = .ok (.iconst 0, 1) := by decide +kernel
theorem dX1_copyFrom_10 : decode cX1_copyFrom 10 = .ok (.aload_n 0, 1) := by decide +kernel
theorem dX1_copyFrom_11 : decode cX1_copyFrom 11 = .ok (.getfield 9, 3) := by decide +kernel
theorem dX1_copyFrom_14 : decode cX1_copyFrom 14 = .ok (.arraylength, 1) := by decide +kernel
theorem dX1_copyFrom_15 : decode cX1_copyFrom 15 = .ok (.invokestatic 15, 3) := by decide +kernel
theorem dX1_copyFrom_18 : decode cX1_copyFrom 18 = .ok (.return_, 1) := by decide +kernel
theorem dX1_clear_0 : decode cX1_clear 0 = .ok (.iconst 0, 1) := by decide +kernel
theorem dX1_clear_1 : decode cX1_clear 1 = .ok (.istore_n 1, 1) := by decide +kernel
theorem dX1_clear_2 : decode cX1_clear 2 = .ok (.iload_n 1, 1) := by decide +kernel
theorem dX1_clear_3 : decode cX1_clear 3 = .ok (.aload_n 0, 1) := by decide +kernel
theorem dX1_clear_4 : decode cX1_clear 4 = .ok (.getfield 9, 3) := by decide +kernel
theorem dX1_clear_7 : decode cX1_clear 7 = .ok (.arraylength, 1) := by decide +kernel
theorem dX1_clear_8 : decode cX1_clear 8 = .ok (.if_icmp .ge 16, 3) := by decide +kernel
theorem dX1_clear_11 : decode cX1_clear 11 = .ok (.aload_n 0, 1) := by decide +kernel
theorem dX1_clear_12 : decode cX1_clear 12 = .ok (.getfield 9, 3) := by decide +kernel
theorem dX1_clear_15 : decode cX1_clear 15 = .ok (.iload_n 1, 1) := by decide +kernel
theorem dX1_clear_16 : decode cX1_clear 16 = .ok (.iconst 0, 1) := by decide +kernel
theorem dX1_clear_17 : decode cX1_clear 17 = .ok (.iastore, 1) := by decide +kernel
theorem dX1_clear_18 : decode cX1_clear 18 = .ok (.iinc 1 1, 3) := by decide +kernel
theorem dX1_clear_21 : decode cX1_clear 21 = .ok (.goto (-19), 3) := by decide +kernel
theorem dX1_clear_24 : decode cX1_clear 24 = .ok (.return_, 1) := by decide +kernel
theorem dX1_owed_0 : decode cX1_owed 0 = .ok (.aload_n 0, 1) := by decide +kernel
theorem dX1_owed_1 : decode cX1_owed 1 = .ok (.getfield 9, 3) := by decide +kernel
theorem dX1_owed_4 : decode cX1_owed 4 = .ok (.iload_n 1, 1) := by decide +kernel
theorem dX1_owed_5 : decode cX1_owed 5 = .ok (.bipush 8, 2) := by decide +kernel
theorem dX1_owed_7 : decode cX1_owed 7 = .ok (.imul, 1) := by decide +kernel
theorem dX1_owed_8 : decode cX1_owed 8 = .ok (.iload_n 2, 1) := by decide +kernel
theorem dX1_owed_9 : decode cX1_owed 9 = .ok (.iadd, 1) := by decide +kernel
theorem dX1_owed_10 : decode cX1_owed 10 = .ok (.iaload, 1) := by decide +kernel
theorem dX1_owed_11 : decode cX1_owed 11 = .ok (.ireturn, 1) := by decide +kernel
theorem dX1_change_0 : decode cX1_change 0 = .ok (.iload_n 1, 1) := by decide +kernel
theorem dX1_change_1 : decode cX1_change 1 = .ok (.bipush 8, 2) := by decide +kernel
theorem dX1_change_3 : decode cX1_change 3 = .ok (.imul, 1) := by decide +kernel
theorem dX1_change_4 : decode cX1_change 4 = .ok (.iload_n 2, 1) := by decide +kernel
theorem dX1_change_5 : decode cX1_change 5 = .ok (.iadd, 1) := by decide +kernel
theorem dX1_change_6 : decode cX1_change 6 = .ok (.istore 4, 2) := by decide +kernel
theorem dX1_change_8 : decode cX1_change 8 = .ok (.aload_n 0, 1) := by decide +kernel
theorem dX1_change_9 : decode cX1_change 9 = .ok (.getfield 9, 3) := by decide +kernel
theorem dX1_change_12 : decode cX1_change 12 = .ok (.iload 4, 2) := by decide +kernel
theorem dX1_change_14 : decode cX1_change 14 = .ok (.dup2, 1) := by decide +kernel
theorem dX1_change_15 : decode cX1_change 15 = .ok (.iaload, 1) := by decide +kernel
theorem dX1_change_16 : decode cX1_change 16 = .ok (.iload_n 3, 1) := by decide +kernel
theorem dX1_change_17 : decode cX1_change 17 = .ok (.iadd, 1) := by decide +kernel
theorem dX1_change_18 : decode cX1_change 18 = .ok (.iastore, 1) := by decide +kernel
theorem dX1_change_19 : decode cX1_change 19 = .ok (.aload_n 0, 1) := by decide +kernel
theorem dX1_change_20 : decode cX1_change 20 = .ok (.getfield 9, 3) := by decide +kernel
theorem dX1_change_23 : decode cX1_change 23 = .ok (.iload 4, 2) := by decide +kernel
theorem dX1_change_25 : decode cX1_change 25 = .ok (.iaload, 1) := by decide +kernel
theorem dX1_change_26 : decode cX1_change 26 = .ok (.ireturn, 1) := by decide +kernel
theorem dX1_creditorsOf_0 : decode cX1_creditorsOf 0 = .ok (.iconst 0, 1) := by decide +kernel
theorem dX1_creditorsOf_1 : decode cX1_creditorsOf 1 = .ok (.istore_n 2, 1) := by decide +kernel
theorem dX1_creditorsOf_2 : decode cX1_creditorsOf 2 = .ok (.iconst 0, 1) := by decide +kernel
theorem dX1_creditorsOf_3 : decode cX1_creditorsOf 3 = .ok (.istore_n 3, 1) := by decide +kernel
theorem dX1_creditorsOf_4 : decode cX1_creditorsOf 4 = .ok (.iload_n 3, 1) := by decide +kernel
theorem dX1_creditorsOf_5 : decode cX1_creditorsOf 5 = .ok (.bipush 8, 2) := by decide +kernel
theorem dX1_creditorsOf_7 : decode cX1_creditorsOf 7 = .ok (.if_icmp .ge 50, 3) := by decide +kernel
theorem dX1_creditorsOf_10 : decode cX1_creditorsOf 10 = .ok (.iconst 0, 1) := by decide +kernel
theorem dX1_creditorsOf_11 : decode cX1_creditorsOf 11 = .ok (.istore 4, 2) := by decide +kernel
theorem dX1_creditorsOf_13 : decode cX1_creditorsOf 13 = .ok (.iload 4, 2) := by decide +kernel
theorem dX1_creditorsOf_15 : decode cX1_creditorsOf 15 = .ok (.bipush 8, 2) := by decide +kernel
theorem dX1_creditorsOf_17 : decode cX1_creditorsOf 17 = .ok (.if_icmp .ge 34, 3) := by decide +kernel
theorem dX1_creditorsOf_20 : decode cX1_creditorsOf 20 = .ok (.aload_n 0, 1) := by decide +kernel
theorem dX1_creditorsOf_21 : decode cX1_creditorsOf 21 = .ok (.iload_n 3, 1) := by decide +kernel
theorem dX1_creditorsOf_22 : decode cX1_creditorsOf 22 = .ok (.iload 4, 2) := by decide +kernel
theorem dX1_creditorsOf_24 : decode cX1_creditorsOf 24 = .ok (.invokevirtual 25, 3) := by decide +kernel
theorem dX1_creditorsOf_27 : decode cX1_creditorsOf 27 = .ok (.ifCond .le 18, 3) := by decide +kernel
theorem dX1_creditorsOf_30 : decode cX1_creditorsOf 30 = .ok (.iload_n 1, 1) := by decide +kernel
theorem dX1_creditorsOf_31 : decode cX1_creditorsOf 31 = .ok (.iload_n 3, 1) := by decide +kernel
theorem dX1_creditorsOf_32 : decode cX1_creditorsOf 32 = .ok (.invokestatic 21, 3) := by decide +kernel
theorem dX1_creditorsOf_35 : decode cX1_creditorsOf 35 = .ok (.ifCond .eq 10, 3) := by decide +kernel
theorem dX1_creditorsOf_38 : decode cX1_creditorsOf 38 = .ok (.iload_n 2, 1) := by decide +kernel
theorem dX1_creditorsOf_39 : decode cX1_creditorsOf 39 = .ok (.iconst 1, 1) := by decide +kernel
theorem dX1_creditorsOf_40 : decode cX1_creditorsOf 40 = .ok (.iload 4, 2) := by decide +kernel
theorem dX1_creditorsOf_42 : decode cX1_creditorsOf 42 = .ok (.ishl, 1) := by decide +kernel
theorem dX1_creditorsOf_43 : decode cX1_creditorsOf 43 = .ok (.ior, 1) := by decide +kernel
theorem dX1_creditorsOf_44 : decode cX1_creditorsOf 44 = .ok (.istore_n 2, 1) := by decide +kernel
theorem dX1_creditorsOf_45 : decode cX1_creditorsOf 45 = .ok (.iinc 4 1, 3) := by decide +kernel
theorem dX1_creditorsOf_48 : decode cX1_creditorsOf 48 = .ok (.goto (-35), 3) := by decide +kernel
theorem dX1_creditorsOf_51 : decode cX1_creditorsOf 51 = .ok (.iinc 3 1, 3) := by decide +kernel
theorem dX1_creditorsOf_54 : decode cX1_creditorsOf 54 = .ok (.goto (-50), 3) := by decide +kernel
theorem dX1_creditorsOf_57 : decode cX1_creditorsOf 57 = .ok (.iload_n 2, 1) := by decide +kernel
theorem dX1_creditorsOf_58 : decode cX1_creditorsOf 58 = .ok (.ireturn, 1) := by decide +kernel
theorem dX1_debtorsOf_0 : decode cX1_debtorsOf 0 = .ok (.iconst 0, 1) := by decide +kernel
theorem dX1_debtorsOf_1 : decode cX1_debtorsOf 1 = .ok (.istore_n 2, 1) := by decide +kernel
theorem dX1_debtorsOf_2 : decode cX1_debtorsOf 2 = .ok (.iconst 0, 1) := by decide +kernel
theorem dX1_debtorsOf_3 : decode cX1_debtorsOf 3 = .ok (.istore_n 3, 1) := by decide +kernel
theorem dX1_debtorsOf_4 : decode cX1_debtorsOf 4 = .ok (.iload_n 3, 1) := by decide +kernel
theorem dX1_debtorsOf_5 : decode cX1_debtorsOf 5 = .ok (.bipush 8, 2) := by decide +kernel
theorem dX1_debtorsOf_7 : decode cX1_debtorsOf 7 = .ok (.if_icmp .ge 50, 3) := by decide +kernel
theorem dX1_debtorsOf_10 : decode cX1_debtorsOf 10 = .ok (.iconst 0, 1) := by decide +kernel
theorem dX1_debtorsOf_11 : decode cX1_debtorsOf 11 = .ok (.istore 4, 2) := by decide +kernel
theorem dX1_debtorsOf_13 : decode cX1_debtorsOf 13 = .ok (.iload 4, 2) := by decide +kernel
theorem dX1_debtorsOf_15 : decode cX1_debtorsOf 15 = .ok (.bipush 8, 2) := by decide +kernel
theorem dX1_debtorsOf_17 : decode cX1_debtorsOf 17 = .ok (.if_icmp .ge 34, 3) := by decide +kernel
theorem dX1_debtorsOf_20 : decode cX1_debtorsOf 20 = .ok (.aload_n 0, 1) := by decide +kernel
theorem dX1_debtorsOf_21 : decode cX1_debtorsOf 21 = .ok (.iload_n 3, 1) := by decide +kernel
theorem dX1_debtorsOf_22 : decode cX1_debtorsOf 22 = .ok (.iload 4, 2) := by decide +kernel
theorem dX1_debtorsOf_24 : decode cX1_debtorsOf 24 = .ok (.invokevirtual 25, 3) := by decide +kernel
theorem dX1_debtorsOf_27 : decode cX1_debtorsOf 27 = .ok (.ifCond .le 18, 3) := by decide +kernel
theorem dX1_debtorsOf_30 : decode cX1_debtorsOf 30 = .ok (.iload_n 1, 1) := by decide +kernel
theorem dX1_debtorsOf_31 : decode cX1_debtorsOf 31 = .ok (.iload 4, 2) := by decide +kernel
theorem dX1_debtorsOf_33 : decode cX1_debtorsOf 33 = .ok (.invokestatic 21, 3) := by decide +kernel
theorem dX1_debtorsOf_36 : decode cX1_debtorsOf 36 = .ok (.ifCond .eq 9, 3) := by decide +kernel
theorem dX1_debtorsOf_39 : decode cX1_debtorsOf 39 = .ok (.iload_n 2, 1) := by decide +kernel
theorem dX1_debtorsOf_40 : decode cX1_debtorsOf 40 = .ok (.iconst 1, 1) := by decide +kernel
theorem dX1_debtorsOf_41 : decode cX1_debtorsOf 41 = .ok (.iload_n 3, 1) := by decide +kernel
theorem dX1_debtorsOf_42 : decode cX1_debtorsOf 42 = .ok (.ishl, 1) := by decide +kernel
theorem dX1_debtorsOf_43 : decode cX1_debtorsOf 43 = .ok (.ior, 1) := by decide +kernel
theorem dX1_debtorsOf_44 : decode cX1_debtorsOf 44 = .ok (.istore_n 2, 1) := by decide +kernel
theorem dX1_debtorsOf_45 : decode cX1_debtorsOf 45 = .ok (.iinc 4 1, 3) := by decide +kernel
theorem dX1_debtorsOf_48 : decode cX1_debtorsOf 48 = .ok (.goto (-35), 3) := by decide +kernel
theorem dX1_debtorsOf_51 : decode cX1_debtorsOf 51 = .ok (.iinc 3 1, 3) := by decide +kernel
theorem dX1_debtorsOf_54 : decode cX1_debtorsOf 54 = .ok (.goto (-50), 3) := by decide +kernel
theorem dX1_debtorsOf_57 : decode cX1_debtorsOf 57 = .ok (.iload_n 2, 1) := by decide +kernel
theorem dX1_debtorsOf_58 : decode cX1_debtorsOf 58 = .ok (.ireturn, 1) := by decide +kernel
theorem dX1_herdsReaching_0 : decode cX1_herdsReaching 0 = .ok (.aload_n 0, 1) := by decide +kernel
theorem dX1_herdsReaching_1 : decode cX1_herdsReaching 1 = .ok (.iconst 1, 1) := by decide +kernel
theorem dX1_herdsReaching_2 : decode cX1_herdsReaching 2 = .ok (.iload_n 1, 1) := by decide +kernel
theorem dX1_herdsReaching_3 : decode cX1_herdsReaching 3 = .ok (.ishl, 1) := by decide +kernel
theorem dX1_herdsReaching_4 : decode cX1_herdsReaching 4 = .ok (.invokevirtual 29, 3) := by decide +kernel
theorem dX1_herdsReaching_7 : decode cX1_herdsReaching 7 = .ok (.istore_n 2, 1) := by decide +kernel
theorem dX1_herdsReaching_8 : decode cX1_herdsReaching 8 = .ok (.iconst 2, 1) := by decide +kernel
theorem dX1_herdsReaching_9 : decode cX1_herdsReaching 9 = .ok (.istore_n 3, 1) := by decide +kernel
theorem dX1_herdsReaching_10 : decode cX1_herdsReaching 10 = .ok (.iload_n 3, 1) := by decide +kernel
theorem dX1_herdsReaching_11 : decode cX1_herdsReaching 11 = .ok (.bipush 8, 2) := by decide +kernel
theorem dX1_herdsReaching_13 : decode cX1_herdsReaching 13 = .ok (.if_icmp .gt 17, 3) := by decide +kernel
theorem dX1_herdsReaching_16 : decode cX1_herdsReaching 16 = .ok (.iload_n 2, 1) := by decide +kernel
theorem dX1_herdsReaching_17 : decode cX1_herdsReaching 17 = .ok (.aload_n 0, 1) := by decide +kernel
theorem dX1_herdsReaching_18 : decode cX1_herdsReaching 18 = .ok (.iload_n 2, 1) := by decide +kernel
theorem dX1_herdsReaching_19 : decode cX1_herdsReaching 19 = .ok (.invokevirtual 29, 3) := by decide +kernel
theorem dX1_herdsReaching_22 : decode cX1_herdsReaching 22 = .ok (.ior, 1) := by decide +kernel
theorem dX1_herdsReaching_23 : decode cX1_herdsReaching 23 = .ok (.istore_n 2, 1) := by decide +kernel
theorem dX1_herdsReaching_24 : decode cX1_herdsReaching 24 = .ok (.iinc 3 1, 3) := by decide +kernel
theorem dX1_herdsReaching_27 : decode cX1_herdsReaching 27 = .ok (.goto (-17), 3) := by decide +kernel
theorem dX1_herdsReaching_30 : decode cX1_herdsReaching 30 = .ok (.iload_n 2, 1) := by decide +kernel
theorem dX1_herdsReaching_31 : decode cX1_herdsReaching 31 = .ok (.ireturn, 1) := by decide +kernel
theorem dX1_herdsInCycles_0 : decode cX1_herdsInCycles 0 = .ok (.iconst 0, 1) := by decide +kernel
theorem dX1_herdsInCycles_1 : decode cX1_herdsInCycles 1 = .ok (.istore_n 1, 1) := by decide +kernel
theorem dX1_herdsInCycles_2 : decode cX1_herdsInCycles 2 = .ok (.iconst 0, 1) := by decide +kernel
theorem dX1_herdsInCycles_3 : decode cX1_herdsInCycles 3 = .ok (.istore_n 2, 1) := by decide +kernel
theorem dX1_herdsInCycles_4 : decode cX1_herdsInCycles 4 = .ok (.iload_n 2, 1) := by decide +kernel
theorem dX1_herdsInCycles_5 : decode cX1_herdsInCycles 5 = .ok (.bipush 8, 2) := by decide +kernel
theorem dX1_herdsInCycles_7 : decode cX1_herdsInCycles 7 = .ok (.if_icmp .ge 24, 3) := by decide +kernel
theorem dX1_herdsInCycles_10 : decode cX1_herdsInCycles 10 = .ok (.aload_n 0, 1) := by decide +kernel
theorem dX1_herdsInCycles_11 : decode cX1_herdsInCycles 11 = .ok (.iload_n 2, 1) := by decide +kernel
theorem dX1_herdsInCycles_12 : decode cX1_herdsInCycles 12 = .ok (.invokevirtual 33, 3) := by decide +kernel
theorem dX1_herdsInCycles_15 : decode cX1_herdsInCycles 15 = .ok (.iload_n 2, 1) := by decide +kernel
theorem dX1_herdsInCycles_16 : decode cX1_herdsInCycles 16 = .ok (.invokestatic 21, 3) := by decide +kernel
theorem dX1_herdsInCycles_19 : decode cX1_herdsInCycles 19 = .ok (.ifCond .eq 6, 3) := by decide +kernel
theorem dX1_herdsInCycles_22 : decode cX1_herdsInCycles 22 = .ok (.iinc 1 1, 3) := by decide +kernel
theorem dX1_herdsInCycles_25 : decode cX1_herdsInCycles 25 = .ok (.iinc 2 1, 3) := by decide +kernel
theorem dX1_herdsInCycles_28 : decode cX1_herdsInCycles 28 = .ok (.goto (-24), 3) := by decide +kernel
theorem dX1_herdsInCycles_31 : decode cX1_herdsInCycles 31 = .ok (.iload_n 1, 1) := by decide +kernel
theorem dX1_herdsInCycles_32 : decode cX1_herdsInCycles 32 = .ok (.ireturn, 1) := by decide +kernel
theorem dX1_cycleClosedBy_0 : decode cX1_cycleClosedBy 0 = .ok (.iconst 1, 1) := by decide +kernel
theorem dX1_cycleClosedBy_1 : decode cX1_cycleClosedBy 1 = .ok (.iload_n 2, 1) := by decide +kernel
theorem dX1_cycleClosedBy_2 : decode cX1_cycleClosedBy 2 = .ok (.ishl, 1) := by decide +kernel
theorem dX1_cycleClosedBy_3 : decode cX1_cycleClosedBy 3 = .ok (.istore_n 3, 1) := by decide +kernel
theorem dX1_cycleClosedBy_4 : decode cX1_cycleClosedBy 4 = .ok (.iconst 1, 1) := by decide +kernel
theorem dX1_cycleClosedBy_5 : decode cX1_cycleClosedBy 5 = .ok (.istore 4, 2) := by decide +kernel
theorem dX1_cycleClosedBy_7 : decode cX1_cycleClosedBy 7 = .ok (.iload 4, 2) := by decide +kernel
theorem dX1_cycleClosedBy_9 : decode cX1_cycleClosedBy 9 = .ok (.bipush 8, 2) := by decide +kernel
theorem dX1_cycleClosedBy_11 : decode cX1_cycleClosedBy 11 = .ok (.if_icmp .gt 26, 3) := by decide +kernel
theorem dX1_cycleClosedBy_14 : decode cX1_cycleClosedBy 14 = .ok (.iload_n 3, 1) := by decide +kernel
theorem dX1_cycleClosedBy_15 : decode cX1_cycleClosedBy 15 = .ok (.iload_n 1, 1) := by decide +kernel
theorem dX1_cycleClosedBy_16 : decode cX1_cycleClosedBy 16 = .ok (.invokestatic 21, 3) := by decide +kernel
theorem dX1_cycleClosedBy_19 : decode cX1_cycleClosedBy 19 = .ok (.ifCond .eq 6, 3) := by decide +kernel
theorem dX1_cycleClosedBy_22 : decode cX1_cycleClosedBy 22 = .ok (.iload 4, 2) := by decide +kernel
theorem dX1_cycleClosedBy_24 : decode cX1_cycleClosedBy 24 = .ok (.ireturn, 1) := by decide +kernel
theorem dX1_cycleClosedBy_25 : decode cX1_cycleClosedBy 25 = .ok (.aload_n 0, 1) := by decide +kernel
theorem dX1_cycleClosedBy_26 : decode cX1_cycleClosedBy 26 = .ok (.iload_n 3, 1) := by decide +kernel
theorem dX1_cycleClosedBy_27 : decode cX1_cycleClosedBy 27 = .ok (.invokevirtual 36, 3) := by decide +kernel
theorem dX1_cycleClosedBy_30 : decode cX1_cycleClosedBy 30 = .ok (.istore_n 3, 1) := by decide +kernel
theorem dX1_cycleClosedBy_31 : decode cX1_cycleClosedBy 31 = .ok (.iinc 4 1, 3) := by decide +kernel
theorem dX1_cycleClosedBy_34 : decode cX1_cycleClosedBy 34 = .ok (.goto (-27), 3) := by decide +kernel
theorem dX1_cycleClosedBy_37 : decode cX1_cycleClosedBy 37 = .ok (.iconst (-1), 1) := by decide +kernel
theorem dX1_cycleClosedBy_38 : decode cX1_cycleClosedBy 38 = .ok (.ireturn, 1) := by decide +kernel
theorem dX2_ofHerd_0 : decode cX2_ofHerd 0 = .ok (.aload_n 0, 1) := by decide +kernel
theorem dX2_ofHerd_1 : decode cX2_ofHerd 1 = .ok (.getfield 9, 3) := by decide +kernel
theorem dX2_ofHerd_4 : decode cX2_ofHerd 4 = .ok (.iload_n 1, 1) := by decide +kernel
theorem dX2_ofHerd_5 : decode cX2_ofHerd 5 = .ok (.invokevirtual 15, 3) := by decide +kernel
theorem dX2_ofHerd_8 : decode cX2_ofHerd 8 = .ok (.ifCond .eq 7, 3) := by decide +kernel
theorem dX2_ofHerd_11 : decode cX2_ofHerd 11 = .ok (.iconst 0, 1) := by decide +kernel
theorem dX2_ofHerd_12 : decode cX2_ofHerd 12 = .ok (.goto 4, 3) := by decide +kernel
theorem dX2_ofHerd_15 : decode cX2_ofHerd 15 = .ok (.iconst 1, 1) := by decide +kernel
theorem dX2_ofHerd_16 : decode cX2_ofHerd 16 = .ok (.ireturn, 1) := by decide +kernel
theorem dX2_ofPasture_0 : decode cX2_ofPasture 0 = .ok (.aload_n 0, 1) := by decide +kernel
theorem dX2_ofPasture_1 : decode cX2_ofPasture 1 = .ok (.getfield 21, 3) := by decide +kernel
theorem dX2_ofPasture_4 : decode cX2_ofPasture 4 = .ok (.iload_n 1, 1) := by decide +kernel
theorem dX2_ofPasture_5 : decode cX2_ofPasture 5 = .ok (.invokevirtual 15, 3) := by decide +kernel
theorem dX2_ofPasture_8 : decode cX2_ofPasture 8 = .ok (.ifCond .eq 7, 3) := by decide +kernel
theorem dX2_ofPasture_11 : decode cX2_ofPasture 11 = .ok (.iconst 0, 1) := by decide +kernel
theorem dX2_ofPasture_12 : decode cX2_ofPasture 12 = .ok (.goto 4, 3) := by decide +kernel
theorem dX2_ofPasture_15 : decode cX2_ofPasture 15 = .ok (.iconst 1, 1) := by decide +kernel
theorem dX2_ofPasture_16 : decode cX2_ofPasture 16 = .ok (.ireturn, 1) := by decide +kernel
theorem dX2_ofHerdOrPasture_0 : decode cX2_ofHerdOrPasture 0 = .ok (.aload_n 0, 1) := by decide +kernel
theorem dX2_ofHerdOrPasture_1 : decode cX2_ofHerdOrPasture 1 = .ok (.getfield 9, 3) := by decide +kernel
theorem dX2_ofHerdOrPasture_4 : decode cX2_ofHerdOrPasture 4 = .ok (.iload_n 1, 1) := by decide +kernel
theorem dX2_ofHerdOrPasture_5 : decode cX2_ofHerdOrPasture 5 = .ok (.invokevirtual 15, 3) := by decide +kernel
theorem dX2_ofHerdOrPasture_8 : decode cX2_ofHerdOrPasture 8 = .ok (.ifCond .eq 18, 3) := by decide +kernel
theorem dX2_ofHerdOrPasture_11 : decode cX2_ofHerdOrPasture 11 = .ok (.aload_n 0, 1) := by decide +kernel
theorem dX2_ofHerdOrPasture_12 : decode cX2_ofHerdOrPasture 12 = .ok (.getfield 21, 3) := by decide +kernel
theorem dX2_ofHerdOrPasture_15 : decode cX2_ofHerdOrPasture 15 = .ok (.iload_n 2, 1) := by decide +kernel
theorem dX2_ofHerdOrPasture_16 : decode cX2_ofHerdOrPasture 16 = .ok (.invokevirtual 15, 3) := by decide +kernel
theorem dX2_ofHerdOrPasture_19 : decode cX2_ofHerdOrPasture 19 = .ok (.ifCond .eq 7, 3) := by decide +kernel
theorem dX2_ofHerdOrPasture_22 : decode cX2_ofHerdOrPasture 22 = .ok (.iconst 0, 1) := by decide +kernel
theorem dX2_ofHerdOrPasture_23 : decode cX2_ofHerdOrPasture 23 = .ok (.goto 4, 3) := by decide +kernel
theorem dX2_ofHerdOrPasture_26 : decode cX2_ofHerdOrPasture 26 = .ok (.iconst 1, 1) := by decide +kernel
theorem dX2_ofHerdOrPasture_27 : decode cX2_ofHerdOrPasture 27 = .ok (.ireturn, 1) := by decide +kernel
theorem dX2_ofTwoHerds_0 : decode cX2_ofTwoHerds 0 = .ok (.aload_n 0, 1) := by decide +kernel
theorem dX2_ofTwoHerds_1 : decode cX2_ofTwoHerds 1 = .ok (.getfield 9, 3) := by decide +kernel
theorem dX2_ofTwoHerds_4 : decode cX2_ofTwoHerds 4 = .ok (.iload_n 1, 1) := by decide +kernel
theorem dX2_ofTwoHerds_5 : decode cX2_ofTwoHerds 5 = .ok (.invokevirtual 15, 3) := by decide +kernel
theorem dX2_ofTwoHerds_8 : decode cX2_ofTwoHerds 8 = .ok (.ifCond .eq 18, 3) := by decide +kernel
theorem dX2_ofTwoHerds_11 : decode cX2_ofTwoHerds 11 = .ok (.aload_n 0, 1) := by decide +kernel
theorem dX2_ofTwoHerds_12 : decode cX2_ofTwoHerds 12 = .ok (.getfield 9, 3) := by decide +kernel
theorem dX2_ofTwoHerds_15 : decode cX2_ofTwoHerds 15 = .ok (.iload_n 2, 1) := by decide +kernel
theorem dX2_ofTwoHerds_16 : decode cX2_ofTwoHerds 16 = .ok (.invokevirtual 15, 3) := by decide +kernel
theorem dX2_ofTwoHerds_19 : decode cX2_ofTwoHerds 19 = .ok (.ifCond .eq 7, 3) := by decide +kernel
theorem dX2_ofTwoHerds_22 : decode cX2_ofTwoHerds 22 = .ok (.iconst 0, 1) := by decide +kernel
theorem dX2_ofTwoHerds_23 : decode cX2_ofTwoHerds 23 = .ok (.goto 4, 3) := by decide +kernel
theorem dX2_ofTwoHerds_26 : decode cX2_ofTwoHerds 26 = .ok (.iconst 1, 1) := by decide +kernel
theorem dX2_ofTwoHerds_27 : decode cX2_ofTwoHerds 27 = .ok (.ireturn, 1) := by decide +kernel
theorem dX2_ofUnits_0 : decode cX2_ofUnits 0 = .ok (.aload_n 0, 1) := by decide +kernel
theorem dX2_ofUnits_1 : decode cX2_ofUnits 1 = .ok (.getfield 9, 3) := by decide +kernel
theorem dX2_ofUnits_4 : decode cX2_ofUnits 4 = .ok (.iload_n 1, 1) := by decide +kernel
theorem dX2_ofUnits_5 : decode cX2_ofUnits 5 = .ok (.invokevirtual 15, 3) := by decide +kernel
theorem dX2_ofUnits_8 : decode cX2_ofUnits 8 = .ok (.ifCond .eq 14, 3) := by decide +kernel
theorem dX2_ofUnits_11 : decode cX2_ofUnits 11 = .ok (.aload_n 0, 1) := by decide +kernel
theorem dX2_ofUnits_12 : decode cX2_ofUnits 12 = .ok (.getfield 21, 3) := by decide +kernel
theorem dX2_ofUnits_15 : decode cX2_ofUnits 15 = .ok (.iload_n 2, 1) := by decide +kernel
theorem dX2_ofUnits_16 : decode cX2_ofUnits 16 = .ok (.invokevirtual 15, 3) := by decide +kernel
theorem dX2_ofUnits_19 : decode cX2_ofUnits 19 = .ok (.ifCond .ne 5, 3) := by decide +kernel
theorem dX2_ofUnits_22 : decode cX2_ofUnits 22 = .ok (.iconst 1, 1) := by decide +kernel
theorem dX2_ofUnits_23 : decode cX2_ofUnits 23 = .ok (.ireturn, 1) := by decide +kernel
theorem dX2_ofUnits_24 : decode cX2_ofUnits 24 = .ok (.iload_n 3, 1) := by decide +kernel
theorem dX2_ofUnits_25 : decode cX2_ofUnits 25 = .ok (.iconst 1, 1) := by decide +kernel
theorem dX2_ofUnits_26 : decode cX2_ofUnits 26 = .ok (.if_icmp .lt 13, 3) := by decide +kernel
theorem dX2_ofUnits_29 : decode cX2_ofUnits 29 = .ok (.iload_n 3, 1) := by decide +kernel
theorem dX2_ofUnits_30 : decode cX2_ofUnits 30 = .ok (.bipush 50, 2) := by decide +kernel
theorem dX2_ofUnits_32 : decode cX2_ofUnits 32 = .ok (.if_icmp .gt 7, 3) := by decide +kernel
theorem dX2_ofUnits_35 : decode cX2_ofUnits 35 = .ok (.iconst 0, 1) := by decide +kernel
theorem dX2_ofUnits_36 : decode cX2_ofUnits 36 = .ok (.goto 4, 3) := by decide +kernel
theorem dX2_ofUnits_39 : decode cX2_ofUnits 39 = .ok (.iconst 2, 1) := by decide +kernel
theorem dX2_ofUnits_40 : decode cX2_ofUnits 40 = .ok (.ireturn, 1) := by decide +kernel
theorem dX2_ofRequest_0 : decode cX2_ofRequest 0 = .ok (.aload_n 0, 1) := by decide +kernel
theorem dX2_ofRequest_1 : decode cX2_ofRequest 1 = .ok (.iload_n 1, 1) := by decide +kernel
theorem dX2_ofRequest_2 : decode cX2_ofRequest 2 = .ok (.iload_n 2, 1) := by decide +kernel
theorem dX2_ofRequest_3 : decode cX2_ofRequest 3 = .ok (.iload_n 3, 1) := by decide +kernel
theorem dX2_ofRequest_4 : decode cX2_ofRequest 4 = .ok (.invokestatic 28, 3) := by decide +kernel
theorem dX2_ofRequest_7 : decode cX2_ofRequest 7 = .ok (.istore 4, 2) := by decide +kernel
theorem dX2_ofRequest_9 : decode cX2_ofRequest 9 = .ok (.iload 4, 2) := by decide +kernel
theorem dX2_ofRequest_11 : decode cX2_ofRequest 11 = .ok (.ifCond .eq 6, 3) := by decide +kernel
theorem dX2_ofRequest_14 : decode cX2_ofRequest 14 = .ok (.iload 4, 2) := by decide +kernel
theorem dX2_ofRequest_16 : decode cX2_ofRequest 16 = .ok (.ireturn, 1) := by decide +kernel
theorem dX2_ofRequest_17 : decode cX2_ofRequest 17 = .ok (.aload_n 0, 1) := by decide +kernel
theorem dX2_ofRequest_18 : decode cX2_ofRequest 18 = .ok (.iload_n 1, 1) := by decide +kernel
theorem dX2_ofRequest_19 : decode cX2_ofRequest 19 = .ok (.invokevirtual 34, 3) := by decide +kernel
theorem dX2_ofRequest_22 : decode cX2_ofRequest 22 = .ok (.ifCond .ne 13, 3) := by decide +kernel
theorem dX2_ofRequest_25 : decode cX2_ofRequest 25 = .ok (.iload_n 3, 1) := by decide +kernel
theorem dX2_ofRequest_26 : decode cX2_ofRequest 26 = .ok (.aload_n 0, 1) := by decide +kernel
theorem dX2_ofRequest_27 : decode cX2_ofRequest 27 = .ok (.iload_n 1, 1) := by decide +kernel
theorem dX2_ofRequest_28 : decode cX2_ofRequest 28 = .ok (.iload_n 2, 1) := by decide +kernel
theorem dX2_ofRequest_29 : decode cX2_ofRequest 29 = .ok (.invokevirtual 37, 3) := by decide +kernel
theorem dX2_ofRequest_32 : decode cX2_ofRequest 32 = .ok (.if_icmp .le 7, 3) := by decide +kernel
theorem dX2_ofRequest_35 : decode cX2_ofRequest 35 = .ok (.iconst 3, 1) := by decide +kernel
theorem dX2_ofRequest_36 : decode cX2_ofRequest 36 = .ok (.goto 4, 3) := by decide +kernel
theorem dX2_ofRequest_39 : decode cX2_ofRequest 39 = .ok (.iconst 0, 1) := by decide +kernel
theorem dX2_ofRequest_40 : decode cX2_ofRequest 40 = .ok (.ireturn, 1) := by decide +kernel
theorem dX2_ofRelease_0 : decode cX2_ofRelease 0 = .ok (.aload_n 0, 1) := by decide +kernel
theorem dX2_ofRelease_1 : decode cX2_ofRelease 1 = .ok (.iload_n 1, 1) := by decide +kernel
theorem dX2_ofRelease_2 : decode cX2_ofRelease 2 = .ok (.iload_n 2, 1) := by decide +kernel
theorem dX2_ofRelease_3 : decode cX2_ofRelease 3 = .ok (.iload_n 3, 1) := by decide +kernel
theorem dX2_ofRelease_4 : decode cX2_ofRelease 4 = .ok (.invokestatic 28, 3) := by decide +kernel
theorem dX2_ofRelease_7 : decode cX2_ofRelease 7 = .ok (.istore 4, 2) := by decide +kernel
theorem dX2_ofRelease_9 : decode cX2_ofRelease 9 = .ok (.iload 4, 2) := by decide +kernel
theorem dX2_ofRelease_11 : decode cX2_ofRelease 11 = .ok (.ifCond .eq 6, 3) := by decide +kernel
theorem dX2_ofRelease_14 : decode cX2_ofRelease 14 = .ok (.iload 4, 2) := by decide +kernel
theorem dX2_ofRelease_16 : decode cX2_ofRelease 16 = .ok (.ireturn, 1) := by decide +kernel
theorem dX2_ofRelease_17 : decode cX2_ofRelease 17 = .ok (.iload_n 3, 1) := by decide +kernel
theorem dX2_ofRelease_18 : decode cX2_ofRelease 18 = .ok (.aload_n 0, 1) := by decide +kernel
theorem dX2_ofRelease_19 : decode cX2_ofRelease 19 = .ok (.getfield 41, 3) := by decide +kernel
theorem dX2_ofRelease_22 : decode cX2_ofRelease 22 = .ok (.iload_n 1, 1) := by decide +kernel
theorem dX2_ofRelease_23 : decode cX2_ofRelease 23 = .ok (.iload_n 2, 1) := by decide +kernel
theorem dX2_ofRelease_24 : decode cX2_ofRelease 24 = .ok (.invokestatic 44, 3) := by decide +kernel
theorem dX2_ofRelease_27 : decode cX2_ofRelease 27 = .ok (.iaload, 1) := by decide +kernel
theorem dX2_ofRelease_28 : decode cX2_ofRelease 28 = .ok (.if_icmp .le 7, 3) := by decide +kernel
theorem dX2_ofRelease_31 : decode cX2_ofRelease 31 = .ok (.iconst 3, 1) := by decide +kernel
theorem dX2_ofRelease_32 : decode cX2_ofRelease 32 = .ok (.goto 4, 3) := by decide +kernel
theorem dX2_ofRelease_35 : decode cX2_ofRelease 35 = .ok (.iconst 0, 1) := by decide +kernel
theorem dX2_ofRelease_36 : decode cX2_ofRelease 36 = .ok (.ireturn, 1) := by decide +kernel
theorem dX2_ofCancel_0 : decode cX2_ofCancel 0 = .ok (.aload_n 0, 1) := by decide +kernel
theorem dX2_ofCancel_1 : decode cX2_ofCancel 1 = .ok (.getfield 9, 3) := by decide +kernel
theorem dX2_ofCancel_4 : decode cX2_ofCancel 4 = .ok (.iload_n 1, 1) := by decide +kernel
theorem dX2_ofCancel_5 : decode cX2_ofCancel 5 = .ok (.invokevirtual 15, 3) := by decide +kernel
theorem dX2_ofCancel_8 : decode cX2_ofCancel 8 = .ok (.ifCond .ne 5, 3) := by decide +kernel
theorem dX2_ofCancel_11 : decode cX2_ofCancel 11 = .ok (.iconst 1, 1) := by decide +kernel
theorem dX2_ofCancel_12 : decode cX2_ofCancel 12 = .ok (.ireturn, 1) := by decide +kernel
theorem dX2_ofCancel_13 : decode cX2_ofCancel 13 = .ok (.aload_n 0, 1) := by decide +kernel
theorem dX2_ofCancel_14 : decode cX2_ofCancel 14 = .ok (.iload_n 1, 1) := by decide +kernel
theorem dX2_ofCancel_15 : decode cX2_ofCancel 15 = .ok (.invokevirtual 34, 3) := by decide +kernel
theorem dX2_ofCancel_18 : decode cX2_ofCancel 18 = .ok (.ifCond .eq 7, 3) := by decide +kernel
theorem dX2_ofCancel_21 : decode cX2_ofCancel 21 = .ok (.iconst 0, 1) := by decide +kernel
theorem dX2_ofCancel_22 : decode cX2_ofCancel 22 = .ok (.goto 4, 3) := by decide +kernel
theorem dX2_ofCancel_25 : decode cX2_ofCancel 25 = .ok (.iconst 3, 1) := by decide +kernel
theorem dX2_ofCancel_26 : decode cX2_ofCancel 26 = .ok (.ireturn, 1) := by decide +kernel
theorem dX2_ofCapacity_0 : decode cX2_ofCapacity 0 = .ok (.aload_n 0, 1) := by decide +kernel
theorem dX2_ofCapacity_1 : decode cX2_ofCapacity 1 = .ok (.getfield 21, 3) := by decide +kernel
theorem dX2_ofCapacity_4 : decode cX2_ofCapacity 4 = .ok (.iload_n 1, 1) := by decide +kernel
theorem dX2_ofCapacity_5 : decode cX2_ofCapacity 5 = .ok (.invokevirtual 15, 3) := by decide +kernel
theorem dX2_ofCapacity_8 : decode cX2_ofCapacity 8 = .ok (.ifCond .ne 5, 3) := by decide +kernel
theorem dX2_ofCapacity_11 : decode cX2_ofCapacity 11 = .ok (.iconst 1, 1) := by decide +kernel
theorem dX2_ofCapacity_12 : decode cX2_ofCapacity 12 = .ok (.ireturn, 1) := by decide +kernel
theorem dX2_ofCapacity_13 : decode cX2_ofCapacity 13 = .ok (.iload_n 2, 1) := by decide +kernel
theorem dX2_ofCapacity_14 : decode cX2_ofCapacity 14 = .ok (.ifCond .lt 9, 3) := by decide +kernel
theorem dX2_ofCapacity_17 : decode cX2_ofCapacity 17 = .ok (.iload_n 2, 1) := by decide +kernel
theorem dX2_ofCapacity_18 : decode cX2_ofCapacity 18 = .ok (.bipush 50, 2) := by decide +kernel
theorem dX2_ofCapacity_20 : decode cX2_ofCapacity 20 = .ok (.if_icmp .le 5, 3) := by decide +kernel
theorem dX2_ofCapacity_23 : decode cX2_ofCapacity 23 = .ok (.iconst 2, 1) := by decide +kernel
theorem dX2_ofCapacity_24 : decode cX2_ofCapacity 24 = .ok (.ireturn, 1) := by decide +kernel
theorem dX2_ofCapacity_25 : decode cX2_ofCapacity 25 = .ok (.iload_n 2, 1) := by decide +kernel
theorem dX2_ofCapacity_26 : decode cX2_ofCapacity 26 = .ok (.aload_n 0, 1) := by decide +kernel
theorem dX2_ofCapacity_27 : decode cX2_ofCapacity 27 = .ok (.iload_n 1, 1) := by decide +kernel
theorem dX2_ofCapacity_28 : decode cX2_ofCapacity 28 = .ok (.invokevirtual 47, 3) := by decide +kernel
theorem dX2_ofCapacity_31 : decode cX2_ofCapacity 31 = .ok (.if_icmp .ge 7, 3) := by decide +kernel
theorem dX2_ofCapacity_34 : decode cX2_ofCapacity 34 = .ok (.iconst 3, 1) := by decide +kernel
theorem dX2_ofCapacity_35 : decode cX2_ofCapacity 35 = .ok (.goto 4, 3) := by decide +kernel
theorem dX2_ofCapacity_38 : decode cX2_ofCapacity 38 = .ok (.iconst 0, 1) := by decide +kernel
theorem dX2_ofCapacity_39 : decode cX2_ofCapacity 39 = .ok (.ireturn, 1) := by decide +kernel
theorem dX2_ofMaximum_0 : decode cX2_ofMaximum 0 = .ok (.aload_n 0, 1) := by decide +kernel
theorem dX2_ofMaximum_1 : decode cX2_ofMaximum 1 = .ok (.getfield 9, 3) := by decide +kernel
theorem dX2_ofMaximum_4 : decode cX2_ofMaximum 4 = .ok (.iload_n 1, 1) := by decide +kernel
theorem dX2_ofMaximum_5 : decode cX2_ofMaximum 5 = .ok (.invokevirtual 15, 3) := by decide +kernel
theorem dX2_ofMaximum_8 : decode cX2_ofMaximum 8 = .ok (.ifCond .eq 14, 3) := by decide +kernel
theorem dX2_ofMaximum_11 : decode cX2_ofMaximum 11 = .ok (.aload_n 0, 1) := by decide +kernel
theorem dX2_ofMaximum_12 : decode cX2_ofMaximum 12 = .ok (.getfield 21, 3) := by decide +kernel
theorem dX2_ofMaximum_15 : decode cX2_ofMaximum 15 = .ok (.iload_n 2, 1) := by decide +kernel
theorem dX2_ofMaximum_16 : decode cX2_ofMaximum 16 = .ok (.invokevirtual 15, 3) := by decide +kernel
theorem dX2_ofMaximum_19 : decode cX2_ofMaximum 19 = .ok (.ifCond .ne 5, 3) := by decide +kernel
theorem dX2_ofMaximum_22 : decode cX2_ofMaximum 22 = .ok (.iconst 1, 1) := by decide +kernel
theorem dX2_ofMaximum_23 : decode cX2_ofMaximum 23 = .ok (.ireturn, 1) := by decide +kernel
theorem dX2_ofMaximum_24 : decode cX2_ofMaximum 24 = .ok (.iload_n 3, 1) := by decide +kernel
theorem dX2_ofMaximum_25 : decode cX2_ofMaximum 25 = .ok (.ifCond .lt 9, 3) := by decide +kernel
theorem dX2_ofMaximum_28 : decode cX2_ofMaximum 28 = .ok (.iload_n 3, 1) := by decide +kernel
theorem dX2_ofMaximum_29 : decode cX2_ofMaximum 29 = .ok (.bipush 50, 2) := by decide +kernel
theorem dX2_ofMaximum_31 : decode cX2_ofMaximum 31 = .ok (.if_icmp .le 5, 3) := by decide +kernel
theorem dX2_ofMaximum_34 : decode cX2_ofMaximum 34 = .ok (.iconst 2, 1) := by decide +kernel
theorem dX2_ofMaximum_35 : decode cX2_ofMaximum 35 = .ok (.ireturn, 1) := by decide +kernel
theorem dX2_ofMaximum_36 : decode cX2_ofMaximum 36 = .ok (.aload_n 0, 1) := by decide +kernel
theorem dX2_ofMaximum_37 : decode cX2_ofMaximum 37 = .ok (.getfield 41, 3) := by decide +kernel
theorem dX2_ofMaximum_40 : decode cX2_ofMaximum 40 = .ok (.iload_n 1, 1) := by decide +kernel
theorem dX2_ofMaximum_41 : decode cX2_ofMaximum 41 = .ok (.iload_n 2, 1) := by decide +kernel
theorem dX2_ofMaximum_42 : decode cX2_ofMaximum 42 = .ok (.invokestatic 44, 3) := by decide +kernel
theorem dX2_ofMaximum_45 : decode cX2_ofMaximum 45 = .ok (.iaload, 1) := by decide +kernel
theorem dX2_ofMaximum_46 : decode cX2_ofMaximum 46 = .ok (.aload_n 0, 1) := by decide +kernel
theorem dX2_ofMaximum_47 : decode cX2_ofMaximum 47 = .ok (.iload_n 1, 1) := by decide +kernel
theorem dX2_ofMaximum_48 : decode cX2_ofMaximum 48 = .ok (.iload_n 2, 1) := by decide +kernel
theorem dX2_ofMaximum_49 : decode cX2_ofMaximum 49 = .ok (.invokevirtual 51, 3) := by decide +kernel
theorem dX2_ofMaximum_52 : decode cX2_ofMaximum 52 = .ok (.iadd, 1) := by decide +kernel
theorem dX2_ofMaximum_53 : decode cX2_ofMaximum 53 = .ok (.istore 4, 2) := by decide +kernel
theorem dX2_ofMaximum_55 : decode cX2_ofMaximum 55 = .ok (.iload_n 3, 1) := by decide +kernel
theorem dX2_ofMaximum_56 : decode cX2_ofMaximum 56 = .ok (.iload 4, 2) := by decide +kernel
theorem dX2_ofMaximum_58 : decode cX2_ofMaximum 58 = .ok (.if_icmp .ge 7, 3) := by decide +kernel
theorem dX2_ofMaximum_61 : decode cX2_ofMaximum 61 = .ok (.iconst 3, 1) := by decide +kernel
theorem dX2_ofMaximum_62 : decode cX2_ofMaximum 62 = .ok (.goto 4, 3) := by decide +kernel
theorem dX2_ofMaximum_65 : decode cX2_ofMaximum 65 = .ok (.iconst 0, 1) := by decide +kernel
theorem dX2_ofMaximum_66 : decode cX2_ofMaximum 66 = .ok (.ireturn, 1) := by decide +kernel
theorem dX2_ofCoins_0 : decode cX2_ofCoins 0 = .ok (.aload_n 0, 1) := by decide +kernel
theorem dX2_ofCoins_1 : decode cX2_ofCoins 1 = .ok (.getfield 9, 3) := by decide +kernel
theorem dX2_ofCoins_4 : decode cX2_ofCoins 4 = .ok (.iload_n 1, 1) := by decide +kernel
theorem dX2_ofCoins_5 : decode cX2_ofCoins 5 = .ok (.invokevirtual 15, 3) := by decide +kernel
theorem dX2_ofCoins_8 : decode cX2_ofCoins 8 = .ok (.ifCond .eq 14, 3) := by decide +kernel
theorem dX2_ofCoins_11 : decode cX2_ofCoins 11 = .ok (.aload_n 0, 1) := by decide +kernel
theorem dX2_ofCoins_12 : decode cX2_ofCoins 12 = .ok (.getfield 9, 3) := by decide +kernel
theorem dX2_ofCoins_15 : decode cX2_ofCoins 15 = .ok (.iload_n 2, 1) := by decide +kernel
theorem dX2_ofCoins_16 : decode cX2_ofCoins 16 = .ok (.invokevirtual 15, 3) := by decide +kernel
theorem dX2_ofCoins_19 : decode cX2_ofCoins 19 = .ok (.ifCond .ne 5, 3) := by decide +kernel
theorem dX2_ofCoins_22 : decode cX2_ofCoins 22 = .ok (.iconst 1, 1) := by decide +kernel
theorem dX2_ofCoins_23 : decode cX2_ofCoins 23 = .ok (.ireturn, 1) := by decide +kernel
theorem dX2_ofCoins_24 : decode cX2_ofCoins 24 = .ok (.iload_n 3, 1) := by decide +kernel
theorem dX2_ofCoins_25 : decode cX2_ofCoins 25 = .ok (.iconst 1, 1) := by decide +kernel
theorem dX2_ofCoins_26 : decode cX2_ofCoins 26 = .ok (.if_icmp .lt 14, 3) := by decide +kernel
theorem dX2_ofCoins_29 : decode cX2_ofCoins 29 = .ok (.iload_n 3, 1) := by decide +kernel
theorem dX2_ofCoins_30 : decode cX2_ofCoins 30 = .ok (.sipush 999, 3) := by decide +kernel
theorem dX2_ofCoins_33 : decode cX2_ofCoins 33 = .ok (.if_icmp .gt 7, 3) := by decide +kernel
theorem dX2_ofCoins_36 : decode cX2_ofCoins 36 = .ok (.iconst 0, 1) := by decide +kernel
theorem dX2_ofCoins_37 : decode cX2_ofCoins 37 = .ok (.goto 4, 3) := by decide +kernel
theorem dX2_ofCoins_40 : decode cX2_ofCoins 40 = .ok (.iconst 2, 1) := by decide +kernel
theorem dX2_ofCoins_41 : decode cX2_ofCoins 41 = .ok (.ireturn, 1) := by decide +kernel
theorem dX2_ofLoan_0 : decode cX2_ofLoan 0 = .ok (.aload_n 0, 1) := by decide +kernel
theorem dX2_ofLoan_1 : decode cX2_ofLoan 1 = .ok (.iload_n 1, 1) := by decide +kernel
theorem dX2_ofLoan_2 : decode cX2_ofLoan 2 = .ok (.iload_n 2, 1) := by decide +kernel
theorem dX2_ofLoan_3 : decode cX2_ofLoan 3 = .ok (.iload_n 3, 1) := by decide +kernel
theorem dX2_ofLoan_4 : decode cX2_ofLoan 4 = .ok (.invokestatic 54, 3) := by decide +kernel
theorem dX2_ofLoan_7 : decode cX2_ofLoan 7 = .ok (.istore 4, 2) := by decide +kernel
theorem dX2_ofLoan_9 : decode cX2_ofLoan 9 = .ok (.iload 4, 2) := by decide +kernel
theorem dX2_ofLoan_11 : decode cX2_ofLoan 11 = .ok (.ifCond .eq 6, 3) := by decide +kernel
theorem dX2_ofLoan_14 : decode cX2_ofLoan 14 = .ok (.iload 4, 2) := by decide +kernel
theorem dX2_ofLoan_16 : decode cX2_ofLoan 16 = .ok (.ireturn, 1) := by decide +kernel
theorem dX2_ofLoan_17 : decode cX2_ofLoan 17 = .ok (.aload_n 0, 1) := by decide +kernel
theorem dX2_ofLoan_18 : decode cX2_ofLoan 18 = .ok (.getfield 57, 3) := by decide +kernel
theorem dX2_ofLoan_21 : decode cX2_ofLoan 21 = .ok (.iload_n 2, 1) := by decide +kernel
theorem dX2_ofLoan_22 : decode cX2_ofLoan 22 = .ok (.iload_n 1, 1) := by decide +kernel
theorem dX2_ofLoan_23 : decode cX2_ofLoan 23 = .ok (.invokevirtual 61, 3) := by decide +kernel
theorem dX2_ofLoan_26 : decode cX2_ofLoan 26 = .ok (.iconst (-1), 1) := by decide +kernel
theorem dX2_ofLoan_27 : decode cX2_ofLoan 27 = .ok (.if_icmp .eq 5, 3) := by decide +kernel
theorem dX2_ofLoan_30 : decode cX2_ofLoan 30 = .ok (.iconst 3, 1) := by decide +kernel
theorem dX2_ofLoan_31 : decode cX2_ofLoan 31 = .ok (.ireturn, 1) := by decide +kernel
theorem dX2_ofLoan_32 : decode cX2_ofLoan 32 = .ok (.iload_n 3, 1) := by decide +kernel
theorem dX2_ofLoan_33 : decode cX2_ofLoan 33 = .ok (.sipush 999, 3) := by decide +kernel
theorem dX2_ofLoan_36 : decode cX2_ofLoan 36 = .ok (.aload_n 0, 1) := by decide +kernel
theorem dX2_ofLoan_37 : decode cX2_ofLoan 37 = .ok (.getfield 57, 3) := by decide +kernel
theorem dX2_ofLoan_40 : decode cX2_ofLoan 40 = .ok (.iload_n 2, 1) := by decide +kernel
theorem dX2_ofLoan_41 : decode cX2_ofLoan 41 = .ok (.iload_n 1, 1) := by decide +kernel
theorem dX2_ofLoan_42 : decode cX2_ofLoan 42 = .ok (.invokevirtual 66, 3) := by decide +kernel
theorem dX2_ofLoan_45 : decode cX2_ofLoan 45 = .ok (.isub, 1) := by decide +kernel
theorem dX2_ofLoan_46 : decode cX2_ofLoan 46 = .ok (.if_icmp .le 7, 3) := by decide +kernel
theorem dX2_ofLoan_49 : decode cX2_ofLoan 49 = .ok (.iconst 3, 1) := by decide +kernel
theorem dX2_ofLoan_50 : decode cX2_ofLoan 50 = .ok (.goto 4, 3) := by decide +kernel
theorem dX2_ofLoan_53 : decode cX2_ofLoan 53 = .ok (.iconst 0, 1) := by decide +kernel
theorem dX2_ofLoan_54 : decode cX2_ofLoan 54 = .ok (.ireturn, 1) := by decide +kernel
theorem dX2_ofRepayment_0 : decode cX2_ofRepayment 0 = .ok (.aload_n 0, 1) := by decide +kernel
theorem dX2_ofRepayment_1 : decode cX2_ofRepayment 1 = .ok (.iload_n 1, 1) := by decide +kernel
theorem dX2_ofRepayment_2 : decode cX2_ofRepayment 2 = .ok (.iload_n 2, 1) := by decide +kernel
theorem dX2_ofRepayment_3 : decode cX2_ofRepayment 3 = .ok (.iload_n 3, 1) := by decide +kernel
theorem dX2_ofRepayment_4 : decode cX2_ofRepayment 4 = .ok (.invokestatic 54, 3) := by decide +kernel
theorem dX2_ofRepayment_7 : decode cX2_ofRepayment 7 = .ok (.istore 4, 2) := by decide +kernel
theorem dX2_ofRepayment_9 : decode cX2_ofRepayment 9 = .ok (.iload 4, 2) := by decide +kernel
theorem dX2_ofRepayment_11 : decode cX2_ofRepayment 11 = .ok (.ifCond .eq 6, 3) := by decide +kernel
theorem dX2_ofRepayment_14 : decode cX2_ofRepayment 14 = .ok (.iload 4, 2) := by decide +kernel
theorem dX2_ofRepayment_16 : decode cX2_ofRepayment 16 = .ok (.ireturn, 1) := by decide +kernel
theorem dX2_ofRepayment_17 : decode cX2_ofRepayment 17 = .ok (.iload_n 3, 1) := by decide +kernel
theorem dX2_ofRepayment_18 : decode cX2_ofRepayment 18 = .ok (.aload_n 0, 1) := by decide +kernel
theorem dX2_ofRepayment_19 : decode cX2_ofRepayment 19 = .ok (.getfield 57, 3) := by decide +kernel
theorem dX2_ofRepayment_22 : decode cX2_ofRepayment 22 = .ok (.iload_n 1, 1) := by decide +kernel
theorem dX2_ofRepayment_23 : decode cX2_ofRepayment 23 = .ok (.iload_n 2, 1) := by decide +kernel
theorem dX2_ofRepayment_24 : decode cX2_ofRepayment 24 = .ok (.invokevirtual 66, 3) := by decide +kernel
theorem dX2_ofRepayment_27 : decode cX2_ofRepayment 27 = .ok (.if_icmp .le 7, 3) := by decide +kernel
theorem dX2_ofRepayment_30 : decode cX2_ofRepayment 30 = .ok (.iconst 3, 1) := by decide +kernel
theorem dX2_ofRepayment_31 : decode cX2_ofRepayment 31 = .ok (.goto 4, 3) := by decide +kernel
theorem dX2_ofRepayment_34 : decode cX2_ofRepayment 34 = .ok (.iconst 0, 1) := by decide +kernel
theorem dX2_ofRepayment_35 : decode cX2_ofRepayment 35 = .ok (.ireturn, 1) := by decide +kernel
theorem dX3_init_0 : decode cX3_init 0 = .ok (.aload_n 0, 1) := by decide +kernel
theorem dX3_init_1 : decode cX3_init 1 = .ok (.invokespecial 3, 3) := by decide +kernel
theorem dX3_init_4 : decode cX3_init 4 = .ok (.aload_n 0, 1) := by decide +kernel
theorem dX3_init_5 : decode cX3_init 5 = .ok (.bipush 6, 2) := by decide +kernel
theorem dX3_init_7 : decode cX3_init 7 = .ok (.anewarray 9, 3) := by decide +kernel
theorem dX3_init_10 : decode cX3_init 10 = .ok (.putfield 11, 3) := by decide +kernel
theorem dX3_init_13 : decode cX3_init 13 = .ok (.iconst 0, 1) := by decide +kernel
theorem dX3_init_14 : decode cX3_init 14 = .ok (.istore_n 1, 1) := by decide +kernel
theorem dX3_init_15 : decode cX3_init 15 = .ok (.iload_n 1, 1) := by decide +kernel
theorem dX3_init_16 : decode cX3_init 16 = .ok (.bipush 6, 2) := by decide +kernel
theorem dX3_init_18 : decode cX3_init 18 = .ok (.if_icmp .ge 22, 3) := by decide +kernel
theorem dX3_init_21 : decode cX3_init 21 = .ok (.aload_n 0, 1) := by decide +kernel
theorem dX3_init_22 : decode cX3_init 22 = .ok (.getfield 11, 3) := by decide +kernel
theorem dX3_init_25 : decode cX3_init 25 = .ok (.iload_n 1, 1) := by decide +kernel
theorem dX3_init_26 : decode cX3_init 26 = .ok (.new 9, 3) := by decide +kernel
theorem dX3_init_29 : decode cX3_init 29 = .ok (.dup, 1) := by decide +kernel
theorem dX3_init_30 : decode cX3_init 30 = .ok (.invokespecial 17, 3) := by decide +kernel
theorem dX3_init_33 : decode cX3_init 33 = .ok (.aastore, 1) := by decide +kernel
theorem dX3_init_34 : decode cX3_init 34 = .ok (.iinc 1 1, 3) := by decide +kernel
theorem dX3_init_37 : decode cX3_init 37 = .ok (.goto (-22), 3) := by decide +kernel
theorem dX3_init_40 : decode cX3_init 40 = .ok (.return_, 1) := by decide +kernel
theorem dX3_remember_0 : decode cX3_remember 0 = .ok (.aload_n 0, 1) := by decide +kernel
theorem dX3_remember_1 : decode cX3_remember 1 = .ok (.getfield 11, 3) := by decide +kernel
theorem dX3_remember_4 : decode cX3_remember 4 = .ok (.aload_n 0, 1) := by decide +kernel
theorem dX3_remember_5 : decode cX3_remember 5 = .ok (.getfield 18, 3) := by decide +kernel
theorem dX3_remember_8 : decode cX3_remember 8 = .ok (.aaload, 1) := by decide +kernel
theorem dX3_remember_9 : decode cX3_remember 9 = .ok (.aload_n 1, 1) := by decide +kernel
theorem dX3_remember_10 : decode cX3_remember 10 = .ok (.invokevirtual 22, 3) := by decide +kernel
theorem dX3_remember_13 : decode cX3_remember 13 = .ok (.aload_n 0, 1) := by decide +kernel
theorem dX3_remember_14 : decode cX3_remember 14 = .ok (.aload_n 0, 1) := by decide +kernel
theorem dX3_remember_15 : decode cX3_remember 15 = .ok (.getfield 18, 3) := by decide +kernel
theorem dX3_remember_18 : decode cX3_remember 18 = .ok (.iconst 1, 1) := by decide +kernel
theorem dX3_remember_19 : decode cX3_remember 19 = .ok (.iadd, 1) := by decide +kernel
theorem dX3_remember_20 : decode cX3_remember 20 = .ok (.bipush 6, 2) := by decide +kernel
theorem dX3_remember_22 : decode cX3_remember 22 = .ok (.if_icmp .ge 12, 3) := by decide +kernel
theorem dX3_remember_25 : decode cX3_remember 25 = .ok (.aload_n 0, 1) := by decide +kernel
theorem dX3_remember_26 : decode cX3_remember 26 = .ok (.getfield 18, 3) := by decide +kernel
theorem dX3_remember_29 : decode cX3_remember 29 = .ok (.iconst 1, 1) := by decide +kernel
theorem dX3_remember_30 : decode cX3_remember 30 = .ok (.iadd, 1) := by decide +kernel
theorem dX3_remember_31 : decode cX3_remember 31 = .ok (.goto 4, 3) := by decide +kernel
theorem dX3_remember_34 : decode cX3_remember 34 = .ok (.iconst 0, 1) := by decide +kernel
theorem dX3_remember_35 : decode cX3_remember 35 = .ok (.putfield 18, 3) := by decide +kernel
theorem dX3_remember_38 : decode cX3_remember 38 = .ok (.aload_n 0, 1) := by decide +kernel
theorem dX3_remember_39 : decode cX3_remember 39 = .ok (.aload_n 0, 1) := by decide +kernel
theorem dX3_remember_40 : decode cX3_remember 40 = .ok (.getfield 26, 3) := by decide +kernel
theorem dX3_remember_43 : decode cX3_remember 43 = .ok (.iconst 1, 1) := by decide +kernel
theorem dX3_remember_44 : decode cX3_remember 44 = .ok (.iadd, 1) := by decide +kernel
theorem dX3_remember_45 : decode cX3_remember 45 = .ok (.bipush 6, 2) := by decide +kernel
theorem dX3_remember_47 : decode cX3_remember 47 = .ok (.invokestatic 29, 3) := by decide +kernel
theorem dX3_remember_50 : decode cX3_remember 50 = .ok (.putfield 26, 3) := by decide +kernel
theorem dX3_remember_53 : decode cX3_remember 53 = .ok (.return_, 1) := by decide +kernel
theorem dX4_init_0 : decode cX4_init 0 = .ok (.aload_n 0, 1) := by decide +kernel
theorem dX4_init_1 : decode cX4_init 1 = .ok (.invokespecial 3, 3) := by decide +kernel
theorem dX4_init_4 : decode cX4_init 4 = .ok (.aload_n 0, 1) := by decide +kernel
theorem dX4_init_5 : decode cX4_init 5 = .ok (.sipush 600, 3) := by decide +kernel
theorem dX4_init_8 : decode cX4_init 8 = .ok (.newarray .byte, 2) := by decide +kernel
theorem dX4_init_10 : decode cX4_init 10 = .ok (.putfield 9, 3) := by decide +kernel
theorem dX4_init_13 : decode cX4_init 13 = .ok (.return_, 1) := by decide +kernel
theorem dX4_putText_0 : decode cX4_putText 0 = .ok (.iconst 0, 1) := by decide +kernel
theorem dX4_putText_1 : decode cX4_putText 1 = .ok (.istore_n 2, 1) := by decide +kernel
theorem dX4_putText_2 : decode cX4_putText 2 = .ok (.iload_n 2, 1) := by decide +kernel
theorem dX4_putText_3 : decode cX4_putText 3 = .ok (.aload_n 1, 1) := by decide +kernel
theorem dX4_putText_4 : decode cX4_putText 4 = .ok (.invokevirtual 15, 3) := by decide +kernel
theorem dX4_putText_7 : decode cX4_putText 7 = .ok (.if_icmp .ge 18, 3) := by decide +kernel
theorem dX4_putText_10 : decode cX4_putText 10 = .ok (.aload_n 0, 1) := by decide +kernel
theorem dX4_putText_11 : decode cX4_putText 11 = .ok (.aload_n 1, 1) := by decide +kernel
theorem dX4_putText_12 : decode cX4_putText 12 = .ok (.iload_n 2, 1) := by decide +kernel
theorem dX4_putText_13 : decode cX4_putText 13 = .ok (.invokevirtual 21, 3) := by decide +kernel
theorem dX4_putText_16 : decode cX4_putText 16 = .ok (.invokevirtual 25, 3) := by decide +kernel
theorem dX4_putText_19 : decode cX4_putText 19 = .ok (.iinc 2 1, 3) := by decide +kernel
theorem dX4_putText_22 : decode cX4_putText 22 = .ok (.goto (-20), 3) := by decide +kernel
theorem dX4_putText_25 : decode cX4_putText 25 = .ok (.return_, 1) := by decide +kernel
theorem dX4_putFourBytes_0 : decode cX4_putFourBytes 0 = .ok (.aload_n 0, 1) := by decide +kernel
theorem dX4_putFourBytes_1 : decode cX4_putFourBytes 1 = .ok (.iload_n 1, 1) := by decide +kernel
theorem dX4_putFourBytes_2 : decode cX4_putFourBytes 2 = .ok (.bipush 24, 2) := by decide +kernel
theorem dX4_putFourBytes_4 : decode cX4_putFourBytes 4 = .ok (.ishr, 1) := by decide +kernel
theorem dX4_putFourBytes_5 : decode cX4_putFourBytes 5 = .ok (.invokevirtual 25, 3) := by decide +kernel
theorem dX4_putFourBytes_8 : decode cX4_putFourBytes 8 = .ok (.aload_n 0, 1) := by decide +kernel
theorem dX4_putFourBytes_9 : decode cX4_putFourBytes 9 = .ok (.iload_n 1, 1) := by decide +kernel
theorem dX4_putFourBytes_10 : decode cX4_putFourBytes 10 = .ok (.bipush 16, 2) := by decide +kernel
theorem dX4_putFourBytes_12 : decode cX4_putFourBytes 12 = .ok (.ishr, 1) := by decide +kernel
theorem dX4_putFourBytes_13 : decode cX4_putFourBytes 13 = .ok (.invokevirtual 25, 3) := by decide +kernel
theorem dX4_putFourBytes_16 : decode cX4_putFourBytes 16 = .ok (.aload_n 0, 1) := by decide +kernel
theorem dX4_putFourBytes_17 : decode cX4_putFourBytes 17 = .ok (.iload_n 1, 1) := by decide +kernel
theorem dX4_putFourBytes_18 : decode cX4_putFourBytes 18 = .ok (.bipush 8, 2) := by decide +kernel
theorem dX4_putFourBytes_20 : decode cX4_putFourBytes 20 = .ok (.ishr, 1) := by decide +kernel
theorem dX4_putFourBytes_21 : decode cX4_putFourBytes 21 = .ok (.invokevirtual 25, 3) := by decide +kernel
theorem dX4_putFourBytes_24 : decode cX4_putFourBytes 24 = .ok (.aload_n 0, 1) := by decide +kernel
theorem dX4_putFourBytes_25 : decode cX4_putFourBytes 25 = .ok (.iload_n 1, 1) := by decide +kernel
theorem dX4_putFourBytes_26 : decode cX4_putFourBytes 26 = .ok (.invokevirtual 25, 3) := by decide +kernel
theorem dX4_putFourBytes_29 : decode cX4_putFourBytes 29 = .ok (.return_, 1) := by decide +kernel
theorem dX4_put_0 : decode cX4_put 0 = .ok (.aload_n 0, 1) := by decide +kernel
theorem dX4_put_1 : decode cX4_put 1 = .ok (.getfield 29, 3) := by decide +kernel
theorem dX4_put_4 : decode cX4_put 4 = .ok (.sipush 600, 3) := by decide +kernel
theorem dX4_put_7 : decode cX4_put 7 = .ok (.if_icmp .ge 24, 3) := by decide +kernel
theorem dX4_put_10 : decode cX4_put 10 = .ok (.aload_n 0, 1) := by decide +kernel
theorem dX4_put_11 : decode cX4_put 11 = .ok (.getfield 9, 3) := by decide +kernel
theorem dX4_put_14 : decode cX4_put 14 = .ok (.aload_n 0, 1) := by decide +kernel
theorem dX4_put_15 : decode cX4_put 15 = .ok (.getfield 29, 3) := by decide +kernel
theorem dX4_put_18 : decode cX4_put 18 = .ok (.iload_n 1, 1) := by decide +kernel
theorem dX4_put_19 : decode cX4_put 19 = .ok (.i2b, 1) := by decide +kernel
theorem dX4_put_20 : decode cX4_put 20 = .ok (.bastore, 1) := by decide +kernel
theorem dX4_put_21 : decode cX4_put 21 = .ok (.aload_n 0, 1) := by decide +kernel
theorem dX4_put_22 : decode cX4_put 22 = .ok (.dup, 1) := by decide +kernel
theorem dX4_put_23 : decode cX4_put 23 = .ok (.getfield 29, 3) := by decide +kernel
theorem dX4_put_26 : decode cX4_put 26 = .ok (.iconst 1, 1) := by decide +kernel
theorem dX4_put_27 : decode cX4_put 27 = .ok (.iadd, 1) := by decide +kernel
theorem dX4_put_28 : decode cX4_put 28 = .ok (.putfield 29, 3) := by decide +kernel
theorem dX4_put_31 : decode cX4_put 31 = .ok (.return_, 1) := by decide +kernel
theorem dX4_readFirst_0 : decode cX4_readFirst 0 = .ok (.aload_n 0, 1) := by decide +kernel
theorem dX4_readFirst_1 : decode cX4_readFirst 1 = .ok (.iconst 0, 1) := by decide +kernel
theorem dX4_readFirst_2 : decode cX4_readFirst 2 = .ok (.putfield 32, 3) := by decide +kernel
theorem dX4_readFirst_5 : decode cX4_readFirst 5 = .ok (.aload_n 0, 1) := by decide +kernel
theorem dX4_readFirst_6 : decode cX4_readFirst 6 = .ok (.invokevirtual 35, 3) := by decide +kernel
theorem dX4_readFirst_9 : decode cX4_readFirst 9 = .ok (.return_, 1) := by decide +kernel
theorem dX4_readNext_0 : decode cX4_readNext 0 = .ok (.aload_n 0, 1) := by decide +kernel
theorem dX4_readNext_1 : decode cX4_readNext 1 = .ok (.aload_n 0, 1) := by decide +kernel
theorem dX4_readNext_2 : decode cX4_readNext 2 = .ok (.getfield 32, 3) := by decide +kernel
theorem dX4_readNext_5 : decode cX4_readNext 5 = .ok (.putfield 38, 3) := by decide +kernel
theorem dX4_readNext_8 : decode cX4_readNext 8 = .ok (.aload_n 0, 1) := by decide +kernel
theorem dX4_readNext_9 : decode cX4_readNext 9 = .ok (.getfield 38, 3) := by decide +kernel
theorem dX4_readNext_12 : decode cX4_readNext 12 = .ok (.aload_n 0, 1) := by decide +kernel
theorem dX4_readNext_13 : decode cX4_readNext 13 = .ok (.getfield 29, 3) := by decide +kernel
theorem dX4_readNext_16 : decode cX4_readNext 16 = .ok (.if_icmp .ge 31, 3) := by decide +kernel
theorem dX4_readNext_19 : decode cX4_readNext 19 = .ok (.aload_n 0, 1) := by decide +kernel
theorem dX4_readNext_20 : decode cX4_readNext 20 = .ok (.getfield 9, 3) := by decide +kernel
theorem dX4_readNext_23 : decode cX4_readNext 23 = .ok (.aload_n 0, 1) := by decide +kernel
theorem dX4_readNext_24 : decode cX4_readNext 24 = .ok (.getfield 38, 3) := by decide +kernel
theorem dX4_readNext_27 : decode cX4_readNext 27 = .ok (.baload, 1) := by decide +kernel
theorem dX4_readNext_28 : decode cX4_readNext 28 = .ok (.invokestatic 41, 3) := by decide +kernel
theorem dX4_readNext_31 : decode cX4_readNext 31 = .ok (.ifCond .eq 16, 3) := by decide +kernel
theorem dX4_readNext_34 : decode cX4_readNext 34 = .ok (.aload_n 0, 1) := by decide +kernel
theorem dX4_readNext_35 : decode cX4_readNext 35 = .ok (.dup, 1) := by decide +kernel
theorem dX4_readNext_36 : decode cX4_readNext 36 = .ok (.getfield 38, 3) := by decide +kernel
theorem dX4_readNext_39 : decode cX4_readNext 39 = .ok (.iconst 1, 1) := by decide +kernel
theorem dX4_readNext_40 : decode cX4_readNext 40 = .ok (.iadd, 1) := by decide +kernel
theorem dX4_readNext_41 : decode cX4_readNext 41 = .ok (.putfield 38, 3) := by decide +kernel
theorem dX4_readNext_44 : decode cX4_readNext 44 = .ok (.goto (-36), 3) := by decide +kernel
theorem dX4_readNext_47 : decode cX4_readNext 47 = .ok (.aload_n 0, 1) := by decide +kernel
theorem dX4_readNext_48 : decode cX4_readNext 48 = .ok (.aload_n 0, 1) := by decide +kernel
theorem dX4_readNext_49 : decode cX4_readNext 49 = .ok (.getfield 38, 3) := by decide +kernel
theorem dX4_readNext_52 : decode cX4_readNext 52 = .ok (.putfield 32, 3) := by decide +kernel
theorem dX4_readNext_55 : decode cX4_readNext 55 = .ok (.aload_n 0, 1) := by decide +kernel
theorem dX4_readNext_56 : decode cX4_readNext 56 = .ok (.getfield 32, 3) := by decide +kernel
theorem dX4_readNext_59 : decode cX4_readNext 59 = .ok (.aload_n 0, 1) := by decide +kernel
theorem dX4_readNext_60 : decode cX4_readNext 60 = .ok (.getfield 29, 3) := by decide +kernel
theorem dX4_readNext_63 : decode cX4_readNext 63 = .ok (.if_icmp .ge 31, 3) := by decide +kernel
theorem dX4_readNext_66 : decode cX4_readNext 66 = .ok (.aload_n 0, 1) := by decide +kernel
theorem dX4_readNext_67 : decode cX4_readNext 67 = .ok (.getfield 9, 3) := by decide +kernel
theorem dX4_readNext_70 : decode cX4_readNext 70 = .ok (.aload_n 0, 1) := by decide +kernel
theorem dX4_readNext_71 : decode cX4_readNext 71 = .ok (.getfield 32, 3) := by decide +kernel
theorem dX4_readNext_74 : decode cX4_readNext 74 = .ok (.baload, 1) := by decide +kernel
theorem dX4_readNext_75 : decode cX4_readNext 75 = .ok (.invokestatic 45, 3) := by decide +kernel
theorem dX4_readNext_78 : decode cX4_readNext 78 = .ok (.ifCond .eq 16, 3) := by decide +kernel
theorem dX4_readNext_81 : decode cX4_readNext 81 = .ok (.aload_n 0, 1) := by decide +kernel
theorem dX4_readNext_82 : decode cX4_readNext 82 = .ok (.dup, 1) := by decide +kernel
theorem dX4_readNext_83 : decode cX4_readNext 83 = .ok (.getfield 32, 3) := by decide +kernel
theorem dX4_readNext_86 : decode cX4_readNext 86 = .ok (.iconst 1, 1) := by decide +kernel
theorem dX4_readNext_87 : decode cX4_readNext 87 = .ok (.iadd, 1) := by decide +kernel
theorem dX4_readNext_88 : decode cX4_readNext 88 = .ok (.putfield 32, 3) := by decide +kernel
theorem dX4_readNext_91 : decode cX4_readNext 91 = .ok (.goto (-36), 3) := by decide +kernel
theorem dX4_readNext_94 : decode cX4_readNext 94 = .ok (.aload_n 0, 1) := by decide +kernel
theorem dX4_readNext_95 : decode cX4_readNext 95 = .ok (.getfield 32, 3) := by decide +kernel
theorem dX4_readNext_98 : decode cX4_readNext 98 = .ok (.aload_n 0, 1) := by decide +kernel
theorem dX4_readNext_99 : decode cX4_readNext 99 = .ok (.getfield 38, 3) := by decide +kernel
theorem dX4_readNext_102 : decode cX4_readNext 102 = .ok (.if_icmp .le 27, 3) := by decide +kernel
theorem dX4_readNext_105 : decode cX4_readNext 105 = .ok (.aload_n 0, 1) := by decide +kernel
theorem dX4_readNext_106 : decode cX4_readNext 106 = .ok (.aload_n 0, 1) := by decide +kernel
theorem dX4_readNext_107 : decode cX4_readNext 107 = .ok (.getfield 32, 3) := by decide +kernel
theorem dX4_readNext_110 : decode cX4_readNext 110 = .ok (.aload_n 0, 1) := by decide +kernel
theorem dX4_readNext_111 : decode cX4_readNext 111 = .ok (.getfield 38, 3) := by decide +kernel
theorem dX4_readNext_114 : decode cX4_readNext 114 = .ok (.isub, 1) := by decide +kernel
theorem dX4_readNext_115 : decode cX4_readNext 115 = .ok (.bipush 8, 2) := by decide +kernel
theorem dX4_readNext_117 : decode cX4_readNext 117 = .ok (.if_icmp .gt 7, 3) := by decide +kernel
theorem dX4_readNext_120 : decode cX4_readNext 120 = .ok (.iconst 1, 1) := by decide +kernel
theorem dX4_readNext_121 : decode cX4_readNext 121 = .ok (.goto 4, 3) := by decide +kernel
theorem dX4_readNext_124 : decode cX4_readNext 124 = .ok (.iconst 4, 1) := by decide +kernel
theorem dX4_readNext_125 : decode cX4_readNext 125 = .ok (.putfield 48, 3) := by decide +kernel
theorem dX4_readNext_128 : decode cX4_readNext 128 = .ok (.return_, 1) := by decide +kernel
theorem dX4_readNext_129 : decode cX4_readNext 129 = .ok (.aload_n 0, 1) := by decide +kernel
theorem dX4_readNext_130 : decode cX4_readNext 130 = .ok (.iconst 0, 1) := by decide +kernel
theorem dX4_readNext_131 : decode cX4_readNext 131 = .ok (.putfield 51, 3) := by decide +kernel
theorem dX4_readNext_134 : decode cX4_readNext 134 = .ok (.aload_n 0, 1) := by decide +kernel
theorem dX4_readNext_135 : decode cX4_readNext 135 = .ok (.getfield 32, 3) := by decide +kernel
theorem dX4_readNext_138 : decode cX4_readNext 138 = .ok (.aload_n 0, 1) := by decide +kernel
theorem dX4_readNext_139 : decode cX4_readNext 139 = .ok (.getfield 29, 3) := by decide +kernel
theorem dX4_readNext_142 : decode cX4_readNext 142 = .ok (.if_icmp .ge 55, 3) := by decide +kernel
theorem dX4_readNext_145 : decode cX4_readNext 145 = .ok (.aload_n 0, 1) := by decide +kernel
theorem dX4_readNext_146 : decode cX4_readNext 146 = .ok (.getfield 9, 3) := by decide +kernel
theorem dX4_readNext_149 : decode cX4_readNext 149 = .ok (.aload_n 0, 1) := by decide +kernel
theorem dX4_readNext_150 : decode cX4_readNext 150 = .ok (.getfield 32, 3) := by decide +kernel
theorem dX4_readNext_153 : decode cX4_readNext 153 = .ok (.baload, 1) := by decide +kernel
theorem dX4_readNext_154 : decode cX4_readNext 154 = .ok (.invokestatic 54, 3) := by decide +kernel
theorem dX4_readNext_157 : decode cX4_readNext 157 = .ok (.ifCond .eq 40, 3) := by decide +kernel
theorem dX4_readNext_160 : decode cX4_readNext 160 = .ok (.aload_n 0, 1) := by decide +kernel
theorem dX4_readNext_161 : decode cX4_readNext 161 = .ok (.aload_n 0, 1) := by decide +kernel
theorem dX4_readNext_162 : decode cX4_readNext 162 = .ok (.getfield 51, 3) := by decide +kernel
theorem dX4_readNext_165 : decode cX4_readNext 165 = .ok (.bipush 10, 2) := by decide +kernel
theorem dX4_readNext_167 : decode cX4_readNext 167 = .ok (.imul, 1) := by decide +kernel
theorem dX4_readNext_168 : decode cX4_readNext 168 = .ok (.aload_n 0, 1) := by decide +kernel
theorem dX4_readNext_169 : decode cX4_readNext 169 = .ok (.getfield 9, 3) := by decide +kernel
theorem dX4_readNext_172 : decode cX4_readNext 172 = .ok (.aload_n 0, 1) := by decide +kernel
theorem dX4_readNext_173 : decode cX4_readNext 173 = .ok (.getfield 32, 3) := by decide +kernel
theorem dX4_readNext_176 : decode cX4_readNext 176 = .ok (.baload, 1) := by decide +kernel
theorem dX4_readNext_177 : decode cX4_readNext 177 = .ok (.iadd, 1) := by decide +kernel
theorem dX4_readNext_178 : decode cX4_readNext 178 = .ok (.bipush 48, 2) := by decide +kernel
theorem dX4_readNext_180 : decode cX4_readNext 180 = .ok (.isub, 1) := by decide +kernel
theorem dX4_readNext_181 : decode cX4_readNext 181 = .ok (.putfield 51, 3) := by decide +kernel
theorem dX4_readNext_184 : decode cX4_readNext 184 = .ok (.aload_n 0, 1) := by decide +kernel
theorem dX4_readNext_185 : decode cX4_readNext 185 = .ok (.dup, 1) := by decide +kernel
theorem dX4_readNext_186 : decode cX4_readNext 186 = .ok (.getfield 32, 3) := by decide +kernel
theorem dX4_readNext_189 : decode cX4_readNext 189 = .ok (.iconst 1, 1) := by decide +kernel
theorem dX4_readNext_190 : decode cX4_readNext 190 = .ok (.iadd, 1) := by decide +kernel
theorem dX4_readNext_191 : decode cX4_readNext 191 = .ok (.putfield 32, 3) := by decide +kernel
theorem dX4_readNext_194 : decode cX4_readNext 194 = .ok (.goto (-60), 3) := by decide +kernel
theorem dX4_readNext_197 : decode cX4_readNext 197 = .ok (.aload_n 0, 1) := by decide +kernel
theorem dX4_readNext_198 : decode cX4_readNext 198 = .ok (.getfield 32, 3) := by decide +kernel
theorem dX4_readNext_201 : decode cX4_readNext 201 = .ok (.aload_n 0, 1) := by decide +kernel
theorem dX4_readNext_202 : decode cX4_readNext 202 = .ok (.getfield 38, 3) := by decide +kernel
theorem dX4_readNext_205 : decode cX4_readNext 205 = .ok (.if_icmp .le 26, 3) := by decide +kernel
theorem dX4_readNext_208 : decode cX4_readNext 208 = .ok (.aload_n 0, 1) := by decide +kernel
theorem dX4_readNext_209 : decode cX4_readNext 209 = .ok (.aload_n 0, 1) := by decide +kernel
theorem dX4_readNext_210 : decode cX4_readNext 210 = .ok (.getfield 32, 3) := by decide +kernel
theorem dX4_readNext_213 : decode cX4_readNext 213 = .ok (.aload_n 0, 1) := by decide +kernel
theorem dX4_readNext_214 : decode cX4_readNext 214 = .ok (.getfield 38, 3) := by decide +kernel
theorem dX4_readNext_217 : decode cX4_readNext 217 = .ok (.isub, 1) := by decide +kernel
theorem dX4_readNext_218 : decode cX4_readNext 218 = .ok (.iconst 3, 1) := by decide +kernel
theorem dX4_readNext_219 : decode cX4_readNext 219 = .ok (.if_icmp .gt 7, 3) := by decide +kernel
theorem dX4_readNext_222 : decode cX4_readNext 222 = .ok (.iconst 2, 1) := by decide +kernel
theorem dX4_readNext_223 : decode cX4_readNext 223 = .ok (.goto 4, 3) := by decide +kernel
theorem dX4_readNext_226 : decode cX4_readNext 226 = .ok (.iconst 4, 1) := by decide +kernel
theorem dX4_readNext_227 : decode cX4_readNext 227 = .ok (.putfield 48, 3) := by decide +kernel
theorem dX4_readNext_230 : decode cX4_readNext 230 = .ok (.return_, 1) := by decide +kernel
theorem dX4_readNext_231 : decode cX4_readNext 231 = .ok (.aload_n 0, 1) := by decide +kernel
theorem dX4_readNext_232 : decode cX4_readNext 232 = .ok (.invokevirtual 57, 3) := by decide +kernel
theorem dX4_readNext_235 : decode cX4_readNext 235 = .ok (.return_, 1) := by decide +kernel
theorem dX4_readSign_0 : decode cX4_readSign 0 = .ok (.aload_n 0, 1) := by decide +kernel
theorem dX4_readSign_1 : decode cX4_readSign 1 = .ok (.getfield 38, 3) := by decide +kernel
theorem dX4_readSign_4 : decode cX4_readSign 4 = .ok (.aload_n 0, 1) := by decide +kernel
theorem dX4_readSign_5 : decode cX4_readSign 5 = .ok (.getfield 29, 3) := by decide +kernel
theorem dX4_readSign_8 : decode cX4_readSign 8 = .ok (.if_icmp .lt 9, 3) := by decide +kernel
theorem dX4_readSign_11 : decode cX4_readSign 11 = .ok (.aload_n 0, 1) := by decide +kernel
theorem dX4_readSign_12 : decode cX4_readSign 12 = .ok (.iconst 0, 1) := by decide +kernel
theorem dX4_readSign_13 : decode cX4_readSign 13 = .ok (.putfield 48, 3) := by decide +kernel
theorem dX4_readSign_16 : decode cX4_readSign 16 = .ok (.return_, 1) := by decide +kernel
theorem dX4_readSign_17 : decode cX4_readSign 17 = .ok (.aload_n 0, 1) := by decide +kernel
theorem dX4_readSign_18 : decode cX4_readSign 18 = .ok (.aload_n 0, 1) := by decide +kernel
theorem dX4_readSign_19 : decode cX4_readSign 19 = .ok (.getfield 9, 3) := by decide +kernel
theorem dX4_readSign_22 : decode cX4_readSign 22 = .ok (.aload_n 0, 1) := by decide +kernel
theorem dX4_readSign_23 : decode cX4_readSign 23 = .ok (.getfield 38, 3) := by decide +kernel
theorem dX4_readSign_26 : decode cX4_readSign 26 = .ok (.baload, 1) := by decide +kernel
theorem dX4_readSign_27 : decode cX4_readSign 27 = .ok (.bipush 59, 2) := by decide +kernel
theorem dX4_readSign_29 : decode cX4_readSign 29 = .ok (.if_icmp .ne 7, 3) := by decide +kernel
theorem dX4_readSign_32 : decode cX4_readSign 32 = .ok (.iconst 3, 1) := by decide +kernel
theorem dX4_readSign_33 : decode cX4_readSign 33 = .ok (.goto 4, 3) := by decide +kernel
theorem dX4_readSign_36 : decode cX4_readSign 36 = .ok (.iconst 4, 1) := by decide +kernel
theorem dX4_readSign_37 : decode cX4_readSign 37 = .ok (.putfield 48, 3) := by decide +kernel
theorem dX4_readSign_40 : decode cX4_readSign 40 = .ok (.aload_n 0, 1) := by decide +kernel
theorem dX4_readSign_41 : decode cX4_readSign 41 = .ok (.aload_n 0, 1) := by decide +kernel
theorem dX4_readSign_42 : decode cX4_readSign 42 = .ok (.getfield 38, 3) := by decide +kernel
theorem dX4_readSign_45 : decode cX4_readSign 45 = .ok (.iconst 1, 1) := by decide +kernel
theorem dX4_readSign_46 : decode cX4_readSign 46 = .ok (.iadd, 1) := by decide +kernel
theorem dX4_readSign_47 : decode cX4_readSign 47 = .ok (.putfield 32, 3) := by decide +kernel
theorem dX4_readSign_50 : decode cX4_readSign 50 = .ok (.return_, 1) := by decide +kernel
theorem dX4_isWord_0 : decode cX4_isWord 0 = .ok (.aload_n 0, 1) := by decide +kernel
theorem dX4_isWord_1 : decode cX4_isWord 1 = .ok (.getfield 48, 3) := by decide +kernel
theorem dX4_isWord_4 : decode cX4_isWord 4 = .ok (.iconst 1, 1) := by decide +kernel
theorem dX4_isWord_5 : decode cX4_isWord 5 = .ok (.if_icmp .ne 19, 3) := by decide +kernel
theorem dX4_isWord_8 : decode cX4_isWord 8 = .ok (.aload_n 0, 1) := by decide +kernel
theorem dX4_isWord_9 : decode cX4_isWord 9 = .ok (.getfield 32, 3) := by decide +kernel
theorem dX4_isWord_12 : decode cX4_isWord 12 = .ok (.aload_n 0, 1) := by decide +kernel
theorem dX4_isWord_13 : decode cX4_isWord 13 = .ok (.getfield 38, 3) := by decide +kernel
theorem dX4_isWord_16 : decode cX4_isWord 16 = .ok (.isub, 1) := by decide +kernel
theorem dX4_isWord_17 : decode cX4_isWord 17 = .ok (.aload_n 1, 1) := by decide +kernel
theorem dX4_isWord_18 : decode cX4_isWord 18 = .ok (.invokevirtual 15, 3) := by decide +kernel
theorem dX4_isWord_21 : decode cX4_isWord 21 = .ok (.if_icmp .eq 5, 3) := by decide +kernel
theorem dX4_isWord_24 : decode cX4_isWord 24 = .ok (.iconst 0, 1) := by decide +kernel
theorem dX4_isWord_25 : decode cX4_isWord 25 = .ok (.ireturn, 1) := by decide +kernel
theorem dX4_isWord_26 : decode cX4_isWord 26 = .ok (.iconst 0, 1) := by decide +kernel
theorem dX4_isWord_27 : decode cX4_isWord 27 = .ok (.istore_n 2, 1) := by decide +kernel
theorem dX4_isWord_28 : decode cX4_isWord 28 = .ok (.iload_n 2, 1) := by decide +kernel
theorem dX4_isWord_29 : decode cX4_isWord 29 = .ok (.aload_n 1, 1) := by decide +kernel
theorem dX4_isWord_30 : decode cX4_isWord 30 = .ok (.invokevirtual 15, 3) := by decide +kernel
theorem dX4_isWord_33 : decode cX4_isWord 33 = .ok (.if_icmp .ge 30, 3) := by decide +kernel
theorem dX4_isWord_36 : decode cX4_isWord 36 = .ok (.aload_n 0, 1) := by decide +kernel
theorem dX4_isWord_37 : decode cX4_isWord 37 = .ok (.getfield 9, 3) := by decide +kernel
theorem dX4_isWord_40 : decode cX4_isWord 40 = .ok (.aload_n 0, 1) := by decide +kernel
theorem dX4_isWord_41 : decode cX4_isWord 41 = .ok (.getfield 38, 3) := by decide +kernel
theorem dX4_isWord_44 : decode cX4_isWord 44 = .ok (.iload_n 2, 1) := by decide +kernel
theorem dX4_isWord_45 : decode cX4_isWord 45 = .ok (.iadd, 1) := by decide +kernel
theorem dX4_isWord_46 : decode cX4_isWord 46 = .ok (.baload, 1) := by decide +kernel
theorem dX4_isWord_47 : decode cX4_isWord 47 = .ok (.aload_n 1, 1) := by decide +kernel
theorem dX4_isWord_48 : decode cX4_isWord 48 = .ok (.iload_n 2, 1) := by decide +kernel
theorem dX4_isWord_49 : decode cX4_isWord 49 = .ok (.invokevirtual 21, 3) := by decide +kernel
theorem dX4_isWord_52 : decode cX4_isWord 52 = .ok (.if_icmp .eq 5, 3) := by decide +kernel
theorem dX4_isWord_55 : decode cX4_isWord 55 = .ok (.iconst 0, 1) := by decide +kernel
theorem dX4_isWord_56 : decode cX4_isWord 56 = .ok (.ireturn, 1) := by decide +kernel
theorem dX4_isWord_57 : decode cX4_isWord 57 = .ok (.iinc 2 1, 3) := by decide +kernel
theorem dX4_isWord_60 : decode cX4_isWord 60 = .ok (.goto (-32), 3) := by decide +kernel
theorem dX4_isWord_63 : decode cX4_isWord 63 = .ok (.iconst 1, 1) := by decide +kernel
theorem dX4_isWord_64 : decode cX4_isWord 64 = .ok (.ireturn, 1) := by decide +kernel
theorem dX4_isSeparator_0 : decode cX4_isSeparator 0 = .ok (.iload_n 0, 1) := by decide +kernel
theorem dX4_isSeparator_1 : decode cX4_isSeparator 1 = .ok (.bipush 32, 2) := by decide +kernel
theorem dX4_isSeparator_3 : decode cX4_isSeparator 3 = .ok (.if_icmp .eq 9, 3) := by decide +kernel
theorem dX4_isSeparator_6 : decode cX4_isSeparator 6 = .ok (.iload_n 0, 1) := by decide +kernel
theorem dX4_isSeparator_7 : decode cX4_isSeparator 7 = .ok (.bipush 10, 2) := by decide +kernel
theorem dX4_isSeparator_9 : decode cX4_isSeparator 9 = .ok (.if_icmp .ne 7, 3) := by decide +kernel
theorem dX4_isSeparator_12 : decode cX4_isSeparator 12 = .ok (.iconst 1, 1) := by decide +kernel
theorem dX4_isSeparator_13 : decode cX4_isSeparator 13 = .ok (.goto 4, 3) := by decide +kernel
theorem dX4_isSeparator_16 : decode cX4_isSeparator 16 = .ok (.iconst 0, 1) := by decide +kernel
theorem dX4_isSeparator_17 : decode cX4_isSeparator 17 = .ok (.ireturn, 1) := by decide +kernel
theorem dX4_isLetter_0 : decode cX4_isLetter 0 = .ok (.iload_n 0, 1) := by decide +kernel
theorem dX4_isLetter_1 : decode cX4_isLetter 1 = .ok (.bipush 97, 2) := by decide +kernel
theorem dX4_isLetter_3 : decode cX4_isLetter 3 = .ok (.if_icmp .lt 13, 3) := by decide +kernel
theorem dX4_isLetter_6 : decode cX4_isLetter 6 = .ok (.iload_n 0, 1) := by decide +kernel
theorem dX4_isLetter_7 : decode cX4_isLetter 7 = .ok (.bipush 122, 2) := by decide +kernel
theorem dX4_isLetter_9 : decode cX4_isLetter 9 = .ok (.if_icmp .gt 7, 3) := by decide +kernel
theorem dX4_isLetter_12 : decode cX4_isLetter 12 = .ok (.iconst 1, 1) := by decide +kernel
theorem dX4_isLetter_13 : decode cX4_isLetter 13 = .ok (.goto 4, 3) := by decide +kernel
theorem dX4_isLetter_16 : decode cX4_isLetter 16 = .ok (.iconst 0, 1) := by decide +kernel
theorem dX4_isLetter_17 : decode cX4_isLetter 17 = .ok (.ireturn, 1) := by decide +kernel
theorem dX4_isDigit_0 : decode cX4_isDigit 0 = .ok (.iload_n 0, 1) := by decide +kernel
theorem dX4_isDigit_1 : decode cX4_isDigit 1 = .ok (.bipush 48, 2) := by decide +kernel
theorem dX4_isDigit_3 : decode cX4_isDigit 3 = .ok (.if_icmp .lt 13, 3) := by decide +kernel
theorem dX4_isDigit_6 : decode cX4_isDigit 6 = .ok (.iload_n 0, 1) := by decide +kernel
theorem dX4_isDigit_7 : decode cX4_isDigit 7 = .ok (.bipush 57, 2) := by decide +kernel
theorem dX4_isDigit_9 : decode cX4_isDigit 9 = .ok (.if_icmp .gt 7, 3) := by decide +kernel
theorem dX4_isDigit_12 : decode cX4_isDigit 12 = .ok (.iconst 1, 1) := by decide +kernel
theorem dX4_isDigit_13 : decode cX4_isDigit 13 = .ok (.goto 4, 3) := by decide +kernel
theorem dX4_isDigit_16 : decode cX4_isDigit 16 = .ok (.iconst 0, 1) := by decide +kernel
theorem dX4_isDigit_17 : decode cX4_isDigit 17 = .ok (.ireturn, 1) := by decide +kernel
theorem dX5_init_0 : decode cX5_init 0 = .ok (.aload_n 0, 1) := by decide +kernel
theorem dX5_init_1 : decode cX5_init 1 = .ok (.invokespecial 3, 3) := by decide +kernel
theorem dX5_init_4 : decode cX5_init 4 = .ok (.aload_n 0, 1) := by decide +kernel
theorem dX5_init_5 : decode cX5_init 5 = .ok (.bipush 48, 2) := by decide +kernel
theorem dX5_init_7 : decode cX5_init 7 = .ok (.newarray .byte, 2) := by decide +kernel
theorem dX5_init_9 : decode cX5_init 9 = .ok (.putfield 9, 3) := by decide +kernel
theorem dX5_init_12 : decode cX5_init 12 = .ok (.aload_n 0, 1) := by decide +kernel
theorem dX5_init_13 : decode cX5_init 13 = .ok (.bipush 8, 2) := by decide +kernel
theorem dX5_init_15 : decode cX5_init 15 = .ok (.newarray .int, 2) := by decide +kernel
theorem dX5_init_17 : decode cX5_init 17 = .ok (.putfield 15, 3) := by decide +kernel
theorem dX5_init_20 : decode cX5_init 20 = .ok (.return_, 1) := by decide +kernel
theorem dX5_copyFrom_0 : decode cX5_copyFrom 0 = .ok (.aload_n 1, 1) := by decide +kernel
theorem dX5_copyFrom_1 : decode cX5_copyFrom 1 = .ok (.getfield 9, 3) := by decide +kernel
theorem dX5_copyFrom_4 : decode cX5_copyFrom 4 = .ok (.iconst 0, 1) := by decide +kernel
theorem dX5_copyFrom_5 : decode cX5_copyFrom 5 = .ok (.aload_n 0, 1) := by decide +kernel
theorem dX5_copyFrom_6 : decode cX5_copyFrom 6 = .ok (.getfield 9, 3) := by decide +kernel
theorem dX5_copyFrom_9 : decode cX5_copyFrom 9 = .ok (.iconst 0, 1) := by decide +kernel
theorem dX5_copyFrom_10 : decode cX5_copyFrom 10 = .ok (.aload_n 0, 1) := by decide +kernel
theorem dX5_copyFrom_11 : decode cX5_copyFrom 11 = .ok (.getfield 9, 3) := by decide +kernel
theorem dX5_copyFrom_14 : decode cX5_copyFrom 14 = .ok (.arraylength, 1) := by decide +kernel
theorem dX5_copyFrom_15 : decode cX5_copyFrom 15 = .ok (.invokestatic 19, 3) := by decide +kernel
theorem dX5_copyFrom_18 : decode cX5_copyFrom 18 = .ok (.aload_n 1, 1) := by decide +kernel
theorem dX5_copyFrom_19 : decode cX5_copyFrom 19 = .ok (.getfield 15, 3) := by decide +kernel
theorem dX5_copyFrom_22 : decode cX5_copyFrom 22 = .ok (.iconst 0, 1) := by decide +kernel
theorem dX5_copyFrom_23 : decode cX5_copyFrom 23 = .ok (.aload_n 0, 1) := by decide +kernel
theorem dX5_copyFrom_24 : decode cX5_copyFrom 24 = .ok (.getfield 15, 3) := by decide +kernel
theorem dX5_copyFrom_27 : decode cX5_copyFrom 27 = .ok (.iconst 0, 1) := by decide +kernel
theorem dX5_copyFrom_28 : decode cX5_copyFrom 28 = .ok (.aload_n 0, 1) := by decide +kernel
theorem dX5_copyFrom_29 : decode cX5_copyFrom 29 = .ok (.getfield 15, 3) := by decide +kernel
theorem dX5_copyFrom_32 : decode cX5_copyFrom 32 = .ok (.arraylength, 1) := by decide +kernel
theorem dX5_copyFrom_33 : decode cX5_copyFrom 33 = .ok (.invokestatic 19, 3) := by decide +kernel
theorem dX5_copyFrom_36 : decode cX5_copyFrom 36 = .ok (.aload_n 0, 1) := by decide +kernel
theorem dX5_copyFrom_37 : decode cX5_copyFrom 37 = .ok (.aload_n 1, 1) := by decide +kernel
theorem dX5_copyFrom_38 : decode cX5_copyFrom 38 = .ok (.getfield 25, 3) := by decide +kernel
theorem dX5_copyFrom_41 : decode cX5_copyFrom 41 = .ok (.putfield 25, 3) := by decide +kernel
theorem dX5_copyFrom_44 : decode cX5_copyFrom 44 = .ok (.return_, 1) := by decide +kernel
theorem dX5_has_0 : decode cX5_has 0 = .ok (.iload_n 1, 1) := by decide +kernel
theorem dX5_has_1 : decode cX5_has 1 = .ok (.ifCond .lt 15, 3) := by decide +kernel
theorem dX5_has_4 : decode cX5_has 4 = .ok (.iload_n 1, 1) := by decide +kernel
theorem dX5_has_5 : decode cX5_has 5 = .ok (.aload_n 0, 1) := by decide +kernel
theorem dX5_has_6 : decode cX5_has 6 = .ok (.getfield 25, 3) := by decide +kernel
theorem dX5_has_9 : decode cX5_has 9 = .ok (.if_icmp .ge 7, 3) := by decide +kernel
theorem dX5_has_12 : decode cX5_has 12 = .ok (.iconst 1, 1) := by decide +kernel
theorem dX5_has_13 : decode cX5_has 13 = .ok (.goto 4, 3) := by decide +kernel
theorem dX5_has_16 : decode cX5_has 16 = .ok (.iconst 0, 1) := by decide +kernel
theorem dX5_has_17 : decode cX5_has 17 = .ok (.ireturn, 1) := by decide +kernel
theorem dX5_add_0 : decode cX5_add 0 = .ok (.aload_n 0, 1) := by decide +kernel
theorem dX5_add_1 : decode cX5_add 1 = .ok (.getfield 25, 3) := by decide +kernel
theorem dX5_add_4 : decode cX5_add 4 = .ok (.bipush 8, 2) := by decide +kernel
theorem dX5_add_6 : decode cX5_add 6 = .ok (.if_icmp .ge 9, 3) := by decide +kernel
theorem dX5_add_9 : decode cX5_add 9 = .ok (.iload_n 3, 1) := by decide +kernel
theorem dX5_add_10 : decode cX5_add 10 = .ok (.bipush 6, 2) := by decide +kernel
theorem dX5_add_12 : decode cX5_add 12 = .ok (.if_icmp .le 4, 3) := by decide +kernel
theorem dX5_add_15 : decode cX5_add 15 = .ok (.return_, 1) := by decide +kernel
theorem dX5_add_16 : decode cX5_add 16 = .ok (.aload_n 1, 1) := by decide +kernel
theorem dX5_add_17 : decode cX5_add 17 = .ok (.iload_n 2, 1) := by decide +kernel
theorem dX5_add_18 : decode cX5_add 18 = .ok (.aload_n 0, 1) := by decide +kernel
theorem dX5_add_19 : decode cX5_add 19 = .ok (.getfield 9, 3) := by decide +kernel
theorem dX5_add_22 : decode cX5_add 22 = .ok (.aload_n 0, 1) := by decide +kernel
theorem dX5_add_23 : decode cX5_add 23 = .ok (.getfield 25, 3) := by decide +kernel
theorem dX5_add_26 : decode cX5_add 26 = .ok (.bipush 6, 2) := by decide +kernel
theorem dX5_add_28 : decode cX5_add 28 = .ok (.imul, 1) := by decide +kernel
theorem dX5_add_29 : decode cX5_add 29 = .ok (.iload_n 3, 1) := by decide +kernel
theorem dX5_add_30 : decode cX5_add 30 = .ok (.invokestatic 19, 3) := by decide +kernel
theorem dX5_add_33 : decode cX5_add 33 = .ok (.aload_n 0, 1) := by decide +kernel
theorem dX5_add_34 : decode cX5_add 34 = .ok (.getfield 15, 3) := by decide +kernel
theorem dX5_add_37 : decode cX5_add 37 = .ok (.aload_n 0, 1) := by decide +kernel
theorem dX5_add_38 : decode cX5_add 38 = .ok (.getfield 25, 3) := by decide +kernel
theorem dX5_add_41 : decode cX5_add 41 = .ok (.iload_n 3, 1) := by decide +kernel
theorem dX5_add_42 : decode cX5_add 42 = .ok (.iastore, 1) := by decide +kernel
theorem dX5_add_43 : decode cX5_add 43 = .ok (.aload_n 0, 1) := by decide +kernel
theorem dX5_add_44 : decode cX5_add 44 = .ok (.dup, 1) := by decide +kernel
theorem dX5_add_45 : decode cX5_add 45 = .ok (.getfield 25, 3) := by decide +kernel
theorem dX5_add_48 : decode cX5_add 48 = .ok (.iconst 1, 1) := by decide +kernel
theorem dX5_add_49 : decode cX5_add 49 = .ok (.iadd, 1) := by decide +kernel
theorem dX5_add_50 : decode cX5_add 50 = .ok (.putfield 25, 3) := by decide +kernel
theorem dX5_add_53 : decode cX5_add 53 = .ok (.return_, 1) := by decide +kernel
theorem dX5_find_0 : decode cX5_find 0 = .ok (.iconst 0, 1) := by decide +kernel
theorem dX5_find_1 : decode cX5_find 1 = .ok (.istore 4, 2) := by decide +kernel
theorem dX5_find_3 : decode cX5_find 3 = .ok (.iload 4, 2) := by decide +kernel
theorem dX5_find_5 : decode cX5_find 5 = .ok (.aload_n 0, 1) := by decide +kernel
theorem dX5_find_6 : decode cX5_find 6 = .ok (.getfield 25, 3) := by decide +kernel
theorem dX5_find_9 : decode cX5_find 9 = .ok (.if_icmp .ge 34, 3) := by decide +kernel
theorem dX5_find_12 : decode cX5_find 12 = .ok (.aload_n 0, 1) := by decide +kernel
theorem dX5_find_13 : decode cX5_find 13 = .ok (.getfield 15, 3) := by decide +kernel
theorem dX5_find_16 : decode cX5_find 16 = .ok (.iload 4, 2) := by decide +kernel
theorem dX5_find_18 : decode cX5_find 18 = .ok (.iaload, 1) := by decide +kernel
theorem dX5_find_19 : decode cX5_find 19 = .ok (.iload_n 3, 1) := by decide +kernel
theorem dX5_find_20 : decode cX5_find 20 = .ok (.if_icmp .ne 17, 3) := by decide +kernel
theorem dX5_find_23 : decode cX5_find 23 = .ok (.aload_n 0, 1) := by decide +kernel
theorem dX5_find_24 : decode cX5_find 24 = .ok (.iload 4, 2) := by decide +kernel
theorem dX5_find_26 : decode cX5_find 26 = .ok (.aload_n 1, 1) := by decide +kernel
theorem dX5_find_27 : decode cX5_find 27 = .ok (.iload_n 2, 1) := by decide +kernel
theorem dX5_find_28 : decode cX5_find 28 = .ok (.invokevirtual 29, 3) := by decide +kernel
theorem dX5_find_31 : decode cX5_find 31 = .ok (.ifCond .eq 6, 3) := by decide +kernel
theorem dX5_find_34 : decode cX5_find 34 = .ok (.iload 4, 2) := by decide +kernel
theorem dX5_find_36 : decode cX5_find 36 = .ok (.ireturn, 1) := by decide +kernel
theorem dX5_find_37 : decode cX5_find 37 = .ok (.iinc 4 1, 3) := by decide +kernel
theorem dX5_find_40 : decode cX5_find 40 = .ok (.goto (-37), 3) := by decide +kernel
theorem dX5_find_43 : decode cX5_find 43 = .ok (.iconst (-1), 1) := by decide +kernel
theorem dX5_find_44 : decode cX5_find 44 = .ok (.ireturn, 1) := by decide +kernel
theorem dX5_isAt_0 : decode cX5_isAt 0 = .ok (.iconst 0, 1) := by decide +kernel
theorem dX5_isAt_1 : decode cX5_isAt 1 = .ok (.istore 4, 2) := by decide +kernel
theorem dX5_isAt_3 : decode cX5_isAt 3 = .ok (.iload 4, 2) := by decide +kernel
theorem dX5_isAt_5 : decode cX5_isAt 5 = .ok (.aload_n 0, 1) := by decide +kernel
theorem dX5_isAt_6 : decode cX5_isAt 6 = .ok (.getfield 15, 3) := by decide +kernel
theorem dX5_isAt_9 : decode cX5_isAt 9 = .ok (.iload_n 1, 1) := by decide +kernel
theorem dX5_isAt_10 : decode cX5_isAt 10 = .ok (.iaload, 1) := by decide +kernel
theorem dX5_isAt_11 : decode cX5_isAt 11 = .ok (.if_icmp .ge 32, 3) := by decide +kernel
theorem dX5_isAt_14 : decode cX5_isAt 14 = .ok (.aload_n 0, 1) := by decide +kernel
theorem dX5_isAt_15 : decode cX5_isAt 15 = .ok (.getfield 9, 3) := by decide +kernel
theorem dX5_isAt_18 : decode cX5_isAt 18 = .ok (.iload_n 1, 1) := by decide +kernel
theorem dX5_isAt_19 : decode cX5_isAt 19 = .ok (.bipush 6, 2) := by decide +kernel
theorem dX5_isAt_21 : decode cX5_isAt 21 = .ok (.imul, 1) := by decide +kernel
theorem dX5_isAt_22 : decode cX5_isAt 22 = .ok (.iload 4, 2) := by decide +kernel
theorem dX5_isAt_24 : decode cX5_isAt 24 = .ok (.iadd, 1) := by decide +kernel
theorem dX5_isAt_25 : decode cX5_isAt 25 = .ok (.baload, 1) := by decide +kernel
theorem dX5_isAt_26 : decode cX5_isAt 26 = .ok (.aload_n 2, 1) := by decide +kernel
theorem dX5_isAt_27 : decode cX5_isAt 27 = .ok (.iload_n 3, 1) := by decide +kernel
theorem dX5_isAt_28 : decode cX5_isAt 28 = .ok (.iload 4, 2) := by decide +kernel
theorem dX5_isAt_30 : decode cX5_isAt 30 = .ok (.iadd, 1) := by decide +kernel
theorem dX5_isAt_31 : decode cX5_isAt 31 = .ok (.baload, 1) := by decide +kernel
theorem dX5_isAt_32 : decode cX5_isAt 32 = .ok (.if_icmp .eq 5, 3) := by decide +kernel
theorem dX5_isAt_35 : decode cX5_isAt 35 = .ok (.iconst 0, 1) := by decide +kernel
theorem dX5_isAt_36 : decode cX5_isAt 36 = .ok (.ireturn, 1) := by decide +kernel
theorem dX5_isAt_37 : decode cX5_isAt 37 = .ok (.iinc 4 1, 3) := by decide +kernel
theorem dX5_isAt_40 : decode cX5_isAt 40 = .ok (.goto (-37), 3) := by decide +kernel
theorem dX5_isAt_43 : decode cX5_isAt 43 = .ok (.iconst 1, 1) := by decide +kernel
theorem dX5_isAt_44 : decode cX5_isAt 44 = .ok (.ireturn, 1) := by decide +kernel
theorem dX6_init_0 : decode cX6_init 0 = .ok (.aload_n 0, 1) := by decide +kernel
theorem dX6_init_1 : decode cX6_init 1 = .ok (.invokespecial 3, 3) := by decide +kernel
theorem dX6_init_4 : decode cX6_init 4 = .ok (.aload_n 0, 1) := by decide +kernel
theorem dX6_init_5 : decode cX6_init 5 = .ok (.sipush 200, 3) := by decide +kernel
theorem dX6_init_8 : decode cX6_init 8 = .ok (.newarray .byte, 2) := by decide +kernel
theorem dX6_init_10 : decode cX6_init 10 = .ok (.putfield 9, 3) := by decide +kernel
theorem dX6_init_13 : decode cX6_init 13 = .ok (.return_, 1) := by decide +kernel
theorem dX8_init_0 : decode cX8_init 0 = .ok (.aload_n 0, 1) := by decide +kernel
theorem dX8_init_1 : decode cX8_init 1 = .ok (.invokespecial 3, 3) := by decide +kernel
theorem dX8_init_4 : decode cX8_init 4 = .ok (.aload_n 0, 1) := by decide +kernel
theorem dX8_init_5 : decode cX8_init 5 = .ok (.bipush 30, 2) := by decide +kernel
theorem dX8_init_7 : decode cX8_init 7 = .ok (.newarray .int, 2) := by decide +kernel
theorem dX8_init_9 : decode cX8_init 9 = .ok (.putfield 9, 3) := by decide +kernel
theorem dX8_init_12 : decode cX8_init 12 = .ok (.aload_n 0, 1) := by decide +kernel
theorem dX8_init_13 : decode cX8_init 13 = .ok (.bipush 90, 2) := by decide +kernel
theorem dX8_init_15 : decode cX8_init 15 = .ok (.newarray .int, 2) := by decide +kernel
theorem dX8_init_17 : decode cX8_init 17 = .ok (.putfield 15, 3) := by decide +kernel
theorem dX8_init_20 : decode cX8_init 20 = .ok (.return_, 1) := by decide +kernel
theorem dX9_init_0 : decode cX9_init 0 = .ok (.aload_n 0, 1) := by decide +kernel
theorem dX9_init_1 : decode cX9_init 1 = .ok (.invokespecial 3, 3) := by decide +kernel
theorem dX9_init_4 : decode cX9_init 4 = .ok (.aload_n 0, 1) := by decide +kernel
theorem dX9_init_5 : decode cX9_init 5 = .ok (.new 9, 3) := by decide +kernel
theorem dX9_init_8 : decode cX9_init 8 = .ok (.dup, 1) := by decide +kernel
theorem dX9_init_9 : decode cX9_init 9 = .ok (.invokespecial 11, 3) := by decide +kernel
theorem dX9_init_12 : decode cX9_init 12 = .ok (.putfield 12, 3) := by decide +kernel
theorem dX9_init_15 : decode cX9_init 15 = .ok (.aload_n 0, 1) := by decide +kernel
theorem dX9_init_16 : decode cX9_init 16 = .ok (.new 9, 3) := by decide +kernel
theorem dX9_init_19 : decode cX9_init 19 = .ok (.dup, 1) := by decide +kernel
theorem dX9_init_20 : decode cX9_init 20 = .ok (.invokespecial 11, 3) := by decide +kernel
theorem dX9_init_23 : decode cX9_init 23 = .ok (.putfield 18, 3) := by decide +kernel
theorem dX9_init_26 : decode cX9_init 26 = .ok (.aload_n 0, 1) := by decide +kernel
theorem dX9_init_27 : decode cX9_init 27 = .ok (.iconst 5, 1) := by decide +kernel
theorem dX9_init_28 : decode cX9_init 28 = .ok (.newarray .int, 2) := by decide +kernel
theorem dX9_init_30 : decode cX9_init 30 = .ok (.putfield 21, 3) := by decide +kernel
theorem dX9_init_33 : decode cX9_init 33 = .ok (.aload_n 0, 1) := by decide +kernel
theorem dX9_init_34 : decode cX9_init 34 = .ok (.bipush 40, 2) := by decide +kernel
theorem dX9_init_36 : decode cX9_init 36 = .ok (.newarray .int, 2) := by decide +kernel
theorem dX9_init_38 : decode cX9_init 38 = .ok (.putfield 25, 3) := by decide +kernel
theorem dX9_init_41 : decode cX9_init 41 = .ok (.aload_n 0, 1) := by decide +kernel
theorem dX9_init_42 : decode cX9_init 42 = .ok (.bipush 40, 2) := by decide +kernel
theorem dX9_init_44 : decode cX9_init 44 = .ok (.newarray .int, 2) := by decide +kernel
theorem dX9_init_46 : decode cX9_init 46 = .ok (.putfield 28, 3) := by decide +kernel
theorem dX9_init_49 : decode cX9_init 49 = .ok (.aload_n 0, 1) := by decide +kernel
theorem dX9_init_50 : decode cX9_init 50 = .ok (.bipush 8, 2) := by decide +kernel
theorem dX9_init_52 : decode cX9_init 52 = .ok (.newarray .int, 2) := by decide +kernel
theorem dX9_init_54 : decode cX9_init 54 = .ok (.putfield 31, 3) := by decide +kernel
theorem dX9_init_57 : decode cX9_init 57 = .ok (.aload_n 0, 1) := by decide +kernel
theorem dX9_init_58 : decode cX9_init 58 = .ok (.bipush 8, 2) := by decide +kernel
theorem dX9_init_60 : decode cX9_init 60 = .ok (.newarray .int, 2) := by decide +kernel
theorem dX9_init_62 : decode cX9_init 62 = .ok (.putfield 34, 3) := by decide +kernel
theorem dX9_init_65 : decode cX9_init 65 = .ok (.aload_n 0, 1) := by decide +kernel
theorem dX9_init_66 : decode cX9_init 66 = .ok (.bipush 8, 2) := by decide +kernel
theorem dX9_init_68 : decode cX9_init 68 = .ok (.newarray .int, 2) := by decide +kernel
theorem dX9_init_70 : decode cX9_init 70 = .ok (.putfield 37, 3) := by decide +kernel
theorem dX9_init_73 : decode cX9_init 73 = .ok (.aload_n 0, 1) := by decide +kernel
theorem dX9_init_74 : decode cX9_init 74 = .ok (.new 40, 3) := by decide +kernel
theorem dX9_init_77 : decode cX9_init 77 = .ok (.dup, 1) := by decide +kernel
theorem dX9_init_78 : decode cX9_init 78 = .ok (.invokespecial 42, 3) := by decide +kernel
theorem dX9_init_81 : decode cX9_init 81 = .ok (.putfield 43, 3) := by decide +kernel
theorem dX9_init_84 : decode cX9_init 84 = .ok (.return_, 1) := by decide +kernel
theorem dX9_cell_0 : decode cX9_cell 0 = .ok (.iload_n 0, 1) := by decide +kernel
theorem dX9_cell_1 : decode cX9_cell 1 = .ok (.iconst 5, 1) := by decide +kernel
theorem dX9_cell_2 : decode cX9_cell 2 = .ok (.imul, 1) := by decide +kernel
theorem dX9_cell_3 : decode cX9_cell 3 = .ok (.iload_n 1, 1) := by decide +kernel
theorem dX9_cell_4 : decode cX9_cell 4 = .ok (.iadd, 1) := by decide +kernel
theorem dX9_cell_5 : decode cX9_cell 5 = .ok (.ireturn, 1) := by decide +kernel
theorem dX9_copyFrom_0 : decode cX9_copyFrom 0 = .ok (.aload_n 0, 1) := by decide +kernel
theorem dX9_copyFrom_1 : decode cX9_copyFrom 1 = .ok (.getfield 12, 3) := by decide +kernel
theorem dX9_copyFrom_4 : decode cX9_copyFrom 4 = .ok (.aload_n 1, 1) := by decide +kernel
theorem dX9_copyFrom_5 : decode cX9_copyFrom 5 = .ok (.getfield 12, 3) := by decide +kernel
theorem dX9_copyFrom_8 : decode cX9_copyFrom 8 = .ok (.invokevirtual 47, 3) := by decide +kernel
theorem dX9_copyFrom_11 : decode cX9_copyFrom 11 = .ok (.aload_n 0, 1) := by decide +kernel
theorem dX9_copyFrom_12 : decode cX9_copyFrom 12 = .ok (.getfield 18, 3) := by decide +kernel
theorem dX9_copyFrom_15 : decode cX9_copyFrom 15 = .ok (.aload_n 1, 1) := by decide +kernel
theorem dX9_copyFrom_16 : decode cX9_copyFrom 16 = .ok (.getfield 18, 3) := by decide +kernel
theorem dX9_copyFrom_19 : decode cX9_copyFrom 19 = .ok (.invokevirtual 47, 3) := by decide +kernel
theorem dX9_copyFrom_22 : decode cX9_copyFrom 22 = .ok (.aload_n 1, 1) := by decide +kernel
theorem dX9_copyFrom_23 : decode cX9_copyFrom 23 = .ok (.getfield 21, 3) := by decide +kernel
theorem dX9_copyFrom_26 : decode cX9_copyFrom 26 = .ok (.iconst 0, 1) := by decide +kernel
theorem dX9_copyFrom_27 : decode cX9_copyFrom 27 = .ok (.aload_n 0, 1) := by decide +kernel
theorem dX9_copyFrom_28 : decode cX9_copyFrom 28 = .ok (.getfield 21, 3) := by decide +kernel
theorem dX9_copyFrom_31 : decode cX9_copyFrom 31 = .ok (.iconst 0, 1) := by decide +kernel
theorem dX9_copyFrom_32 : decode cX9_copyFrom 32 = .ok (.aload_n 0, 1) := by decide +kernel
theorem dX9_copyFrom_33 : decode cX9_copyFrom 33 = .ok (.getfield 21, 3) := by decide +kernel
theorem dX9_copyFrom_36 : decode cX9_copyFrom 36 = .ok (.arraylength, 1) := by decide +kernel
theorem dX9_copyFrom_37 : decode cX9_copyFrom 37 = .ok (.invokestatic 51, 3) := by decide +kernel
theorem dX9_copyFrom_40 : decode cX9_copyFrom 40 = .ok (.aload_n 1, 1) := by decide +kernel
theorem dX9_copyFrom_41 : decode cX9_copyFrom 41 = .ok (.getfield 25, 3) := by decide +kernel
theorem dX9_copyFrom_44 : decode cX9_copyFrom 44 = .ok (.iconst 0, 1) := by decide +kernel
theorem dX9_copyFrom_45 : decode cX9_copyFrom 45 = .ok (.aload_n 0, 1) := by decide +kernel
theorem dX9_copyFrom_46 : decode cX9_copyFrom 46 = .ok (.getfield 25, 3) := by decide +kernel
theorem dX9_copyFrom_49 : decode cX9_copyFrom 49 = .ok (.iconst 0, 1) := by decide +kernel
theorem dX9_copyFrom_50 : decode cX9_copyFrom 50 = .ok (.aload_n 0, 1) := by decide +kernel
theorem dX9_copyFrom_51 : decode cX9_copyFrom 51 = .ok (.getfield 25, 3) := by decide +kernel
theorem dX9_copyFrom_54 : decode cX9_copyFrom 54 = .ok (.arraylength, 1) := by decide +kernel
theorem dX9_copyFrom_55 : decode cX9_copyFrom 55 = .ok (.invokestatic 51, 3) := by decide +kernel
theorem dX9_copyFrom_58 : decode cX9_copyFrom 58 = .ok (.aload_n 1, 1) := by decide +kernel
theorem dX9_copyFrom_59 : decode cX9_copyFrom 59 = .ok (.getfield 28, 3) := by decide +kernel
theorem dX9_copyFrom_62 : decode cX9_copyFrom 62 = .ok (.iconst 0, 1) := by decide +kernel
theorem dX9_copyFrom_63 : decode cX9_copyFrom 63 = .ok (.aload_n 0, 1) := by decide +kernel
theorem dX9_copyFrom_64 : decode cX9_copyFrom 64 = .ok (.getfield 28, 3) := by decide +kernel
theorem dX9_copyFrom_67 : decode cX9_copyFrom 67 = .ok (.iconst 0, 1) := by decide +kernel
theorem dX9_copyFrom_68 : decode cX9_copyFrom 68 = .ok (.aload_n 0, 1) := by decide +kernel
theorem dX9_copyFrom_69 : decode cX9_copyFrom 69 = .ok (.getfield 28, 3) := by decide +kernel
theorem dX9_copyFrom_72 : decode cX9_copyFrom 72 = .ok (.arraylength, 1) := by decide +kernel
theorem dX9_copyFrom_73 : decode cX9_copyFrom 73 = .ok (.invokestatic 51, 3) := by decide +kernel
theorem dX9_copyFrom_76 : decode cX9_copyFrom 76 = .ok (.aload_n 1, 1) := by decide +kernel
theorem dX9_copyFrom_77 : decode cX9_copyFrom 77 = .ok (.getfield 31, 3) := by decide +kernel
theorem dX9_copyFrom_80 : decode cX9_copyFrom 80 = .ok (.iconst 0, 1) := by decide +kernel
theorem dX9_copyFrom_81 : decode cX9_copyFrom 81 = .ok (.aload_n 0, 1) := by decide +kernel
theorem dX9_copyFrom_82 : decode cX9_copyFrom 82 = .ok (.getfield 31, 3) := by decide +kernel
theorem dX9_copyFrom_85 : decode cX9_copyFrom 85 = .ok (.iconst 0, 1) := by decide +kernel
theorem dX9_copyFrom_86 : decode cX9_copyFrom 86 = .ok (.aload_n 0, 1) := by decide +kernel
theorem dX9_copyFrom_87 : decode cX9_copyFrom 87 = .ok (.getfield 31, 3) := by decide +kernel
theorem dX9_copyFrom_90 : decode cX9_copyFrom 90 = .ok (.arraylength, 1) := by decide +kernel
theorem dX9_copyFrom_91 : decode cX9_copyFrom 91 = .ok (.invokestatic 51, 3) := by decide +kernel
theorem dX9_copyFrom_94 : decode cX9_copyFrom 94 = .ok (.aload_n 1, 1) := by decide +kernel
theorem dX9_copyFrom_95 : decode cX9_copyFrom 95 = .ok (.getfield 34, 3) := by decide +kernel
theorem dX9_copyFrom_98 : decode cX9_copyFrom 98 = .ok (.iconst 0, 1) := by decide +kernel
theorem dX9_copyFrom_99 : decode cX9_copyFrom 99 = .ok (.aload_n 0, 1) := by decide +kernel
theorem dX9_copyFrom_100 : decode cX9_copyFrom 100 = .ok (.getfield 34, 3) := by decide +kernel
theorem dX9_copyFrom_103 : decode cX9_copyFrom 103 = .ok (.iconst 0, 1) := by decide +kernel
theorem dX9_copyFrom_104 : decode cX9_copyFrom 104 = .ok (.aload_n 0, 1) := by decide +kernel
theorem dX9_copyFrom_105 : decode cX9_copyFrom 105 = .ok (.getfield 34, 3) := by decide +kernel
theorem dX9_copyFrom_108 : decode cX9_copyFrom 108 = .ok (.arraylength, 1) := by decide +kernel
theorem dX9_copyFrom_109 : decode cX9_copyFrom 109 = .ok (.invokestatic 51, 3) := by decide +kernel
theorem dX9_copyFrom_112 : decode cX9_copyFrom 112 = .ok (.aload_n 1, 1) := by decide +kernel
theorem dX9_copyFrom_113 : decode cX9_copyFrom 113 = .ok (.getfield 37, 3) := by decide +kernel
theorem dX9_copyFrom_116 : decode cX9_copyFrom 116 = .ok (.iconst 0, 1) := by decide +kernel
theorem dX9_copyFrom_117 : decode cX9_copyFrom 117 = .ok (.aload_n 0, 1) := by decide +kernel
theorem dX9_copyFrom_118 : decode cX9_copyFrom 118 = .ok (.getfield 37, 3) := by decide +kernel
theorem dX9_copyFrom_121 : decode cX9_copyFrom 121 = .ok (.iconst 0, 1) := by decide +kernel
theorem dX9_copyFrom_122 : decode cX9_copyFrom 122 = .ok (.aload_n 0, 1) := by decide +kernel
theorem dX9_copyFrom_123 : decode cX9_copyFrom 123 = .ok (.getfield 37, 3) := by decide +kernel
theorem dX9_copyFrom_126 : decode cX9_copyFrom 126 = .ok (.arraylength, 1) := by decide +kernel
theorem dX9_copyFrom_127 : decode cX9_copyFrom 127 = .ok (.invokestatic 51, 3) := by decide +kernel
theorem dX9_copyFrom_130 : decode cX9_copyFrom 130 = .ok (.aload_n 0, 1) := by decide +kernel
theorem dX9_copyFrom_131 : decode cX9_copyFrom 131 = .ok (.aload_n 1, 1) := by decide +kernel
theorem dX9_copyFrom_132 : decode cX9_copyFrom 132 = .ok (.getfield 57, 3) := by decide +kernel
theorem dX9_copyFrom_135 : decode cX9_copyFrom 135 = .ok (.putfield 57, 3) := by decide +kernel
theorem dX9_copyFrom_138 : decode cX9_copyFrom 138 = .ok (.aload_n 0, 1) := by decide +kernel
theorem dX9_copyFrom_139 : decode cX9_copyFrom 139 = .ok (.getfield 43, 3) := by decide +kernel
theorem dX9_copyFrom_142 : decode cX9_copyFrom 142 = .ok (.aload_n 1, 1) := by decide +kernel
theorem dX9_copyFrom_143 : decode cX9_copyFrom 143 = .ok (.getfield 43, 3) := by decide +kernel
theorem dX9_copyFrom_146 : decode cX9_copyFrom 146 = .ok (.invokevirtual 61, 3) := by decide +kernel
theorem dX9_copyFrom_149 : decode cX9_copyFrom 149 = .ok (.aload_n 0, 1) := by decide +kernel
theorem dX9_copyFrom_150 : decode cX9_copyFrom 150 = .ok (.aload_n 1, 1) := by decide +kernel
theorem dX9_copyFrom_151 : decode cX9_copyFrom 151 = .ok (.getfield 64, 3) := by decide +kernel
theorem dX9_copyFrom_154 : decode cX9_copyFrom 154 = .ok (.putfield 64, 3) := by decide +kernel
theorem dX9_copyFrom_157 : decode cX9_copyFrom 157 = .ok (.aload_n 0, 1) := by decide +kernel
theorem dX9_copyFrom_158 : decode cX9_copyFrom 158 = .ok (.aload_n 1, 1) := by decide +kernel
theorem dX9_copyFrom_159 : decode cX9_copyFrom 159 = .ok (.getfield 67, 3) := by decide +kernel
theorem dX9_copyFrom_162 : decode cX9_copyFrom 162 = .ok (.putfield 67, 3) := by decide +kernel
theorem dX9_copyFrom_165 : decode cX9_copyFrom 165 = .ok (.aload_n 0, 1) := by decide +kernel
theorem dX9_copyFrom_166 : decode cX9_copyFrom 166 = .ok (.aload_n 1, 1) := by decide +kernel
theorem dX9_copyFrom_167 : decode cX9_copyFrom 167 = .ok (.getfield 70, 3) := by decide +kernel
theorem dX9_copyFrom_170 : decode cX9_copyFrom 170 = .ok (.putfield 70, 3) := by decide +kernel
theorem dX9_copyFrom_173 : decode cX9_copyFrom 173 = .ok (.aload_n 0, 1) := by decide +kernel
theorem dX9_copyFrom_174 : decode cX9_copyFrom 174 = .ok (.aload_n 1, 1) := by decide +kernel
theorem dX9_copyFrom_175 : decode cX9_copyFrom 175 = .ok (.getfield 73, 3) := by decide +kernel
theorem dX9_copyFrom_178 : decode cX9_copyFrom 178 = .ok (.putfield 73, 3) := by decide +kernel
theorem dX9_copyFrom_181 : decode cX9_copyFrom 181 = .ok (.return_, 1) := by decide +kernel
theorem dX9_clear_0 : decode cX9_clear 0 = .ok (.aload_n 0, 1) := by decide +kernel
theorem dX9_clear_1 : decode cX9_clear 1 = .ok (.getfield 12, 3) := by decide +kernel
theorem dX9_clear_4 : decode cX9_clear 4 = .ok (.iconst 0, 1) := by decide +kernel
theorem dX9_clear_5 : decode cX9_clear 5 = .ok (.putfield 76, 3) := by decide +kernel
theorem dX9_clear_8 : decode cX9_clear 8 = .ok (.aload_n 0, 1) := by decide +kernel
theorem dX9_clear_9 : decode cX9_clear 9 = .ok (.getfield 18, 3) := by decide +kernel
theorem dX9_clear_12 : decode cX9_clear 12 = .ok (.iconst 0, 1) := by decide +kernel
theorem dX9_clear_13 : decode cX9_clear 13 = .ok (.putfield 76, 3) := by decide +kernel
theorem dX9_clear_16 : decode cX9_clear 16 = .ok (.iconst 0, 1) := by decide +kernel
theorem dX9_clear_17 : decode cX9_clear 17 = .ok (.istore_n 1, 1) := by decide +kernel
theorem dX9_clear_18 : decode cX9_clear 18 = .ok (.iload_n 1, 1) := by decide +kernel
theorem dX9_clear_19 : decode cX9_clear 19 = .ok (.bipush 8, 2) := by decide +kernel
theorem dX9_clear_21 : decode cX9_clear 21 = .ok (.if_icmp .ge 40, 3) := by decide +kernel
theorem dX9_clear_24 : decode cX9_clear 24 = .ok (.aload_n 0, 1) := by decide +kernel
theorem dX9_clear_25 : decode cX9_clear 25 = .ok (.getfield 34, 3) := by decide +kernel
theorem dX9_clear_28 : decode cX9_clear 28 = .ok (.iload_n 1, 1) := by decide +kernel
theorem dX9_clear_29 : decode cX9_clear 29 = .ok (.iconst 0, 1) := by decide +kernel
theorem dX9_clear_30 : decode cX9_clear 30 = .ok (.iastore, 1) := by decide +kernel
theorem dX9_clear_31 : decode cX9_clear 31 = .ok (.iconst 0, 1) := by decide +kernel
theorem dX9_clear_32 : decode cX9_clear 32 = .ok (.istore_n 2, 1) := by decide +kernel
theorem dX9_clear_33 : decode cX9_clear 33 = .ok (.iload_n 2, 1) := by decide +kernel
theorem dX9_clear_34 : decode cX9_clear 34 = .ok (.iconst 5, 1) := by decide +kernel
theorem dX9_clear_35 : decode cX9_clear 35 = .ok (.if_icmp .ge 20, 3) := by decide +kernel
theorem dX9_clear_38 : decode cX9_clear 38 = .ok (.aload_n 0, 1) := by decide +kernel
theorem dX9_clear_39 : decode cX9_clear 39 = .ok (.getfield 28, 3) := by decide +kernel
theorem dX9_clear_42 : decode cX9_clear 42 = .ok (.iload_n 1, 1) := by decide +kernel
theorem dX9_clear_43 : decode cX9_clear 43 = .ok (.iload_n 2, 1) := by decide +kernel
theorem dX9_clear_44 : decode cX9_clear 44 = .ok (.invokestatic 79, 3) := by decide +kernel
theorem dX9_clear_47 : decode cX9_clear 47 = .ok (.iconst 0, 1) := by decide +kernel
theorem dX9_clear_48 : decode cX9_clear 48 = .ok (.iastore, 1) := by decide +kernel
theorem dX9_clear_49 : decode cX9_clear 49 = .ok (.iinc 2 1, 3) := by decide +kernel
theorem dX9_clear_52 : decode cX9_clear 52 = .ok (.goto (-19), 3) := by decide +kernel
theorem dX9_clear_55 : decode cX9_clear 55 = .ok (.iinc 1 1, 3) := by decide +kernel
theorem dX9_clear_58 : decode cX9_clear 58 = .ok (.goto (-40), 3) := by decide +kernel
theorem dX9_clear_61 : decode cX9_clear 61 = .ok (.aload_n 0, 1) := by decide +kernel
theorem dX9_clear_62 : decode cX9_clear 62 = .ok (.iconst 0, 1) := by decide +kernel
theorem dX9_clear_63 : decode cX9_clear 63 = .ok (.putfield 57, 3) := by decide +kernel
theorem dX9_clear_66 : decode cX9_clear 66 = .ok (.aload_n 0, 1) := by decide +kernel
theorem dX9_clear_67 : decode cX9_clear 67 = .ok (.getfield 43, 3) := by decide +kernel
theorem dX9_clear_70 : decode cX9_clear 70 = .ok (.invokevirtual 83, 3) := by decide +kernel
theorem dX9_clear_73 : decode cX9_clear 73 = .ok (.aload_n 0, 1) := by decide +kernel
theorem dX9_clear_74 : decode cX9_clear 74 = .ok (.iconst 0, 1) := by decide +kernel
theorem dX9_clear_75 : decode cX9_clear 75 = .ok (.putfield 64, 3) := by decide +kernel
theorem dX9_clear_78 : decode cX9_clear 78 = .ok (.aload_n 0, 1) := by decide +kernel
theorem dX9_clear_79 : decode cX9_clear 79 = .ok (.iconst 0, 1) := by decide +kernel
theorem dX9_clear_80 : decode cX9_clear 80 = .ok (.putfield 67, 3) := by decide +kernel
theorem dX9_clear_83 : decode cX9_clear 83 = .ok (.aload_n 0, 1) := by decide +kernel
theorem dX9_clear_84 : decode cX9_clear 84 = .ok (.iconst 0, 1) := by decide +kernel
theorem dX9_clear_85 : decode cX9_clear 85 = .ok (.putfield 70, 3) := by decide +kernel
theorem dX9_clear_88 : decode cX9_clear 88 = .ok (.aload_n 0, 1) := by decide +kernel
theorem dX9_clear_89 : decode cX9_clear 89 = .ok (.iconst 0, 1) := by decide +kernel
theorem dX9_clear_90 : decode cX9_clear 90 = .ok (.putfield 73, 3) := by decide +kernel
theorem dX9_clear_93 : decode cX9_clear 93 = .ok (.return_, 1) := by decide +kernel
theorem dX9_heldUnits_0 : decode cX9_heldUnits 0 = .ok (.iconst 0, 1) := by decide +kernel
theorem dX9_heldUnits_1 : decode cX9_heldUnits 1 = .ok (.istore_n 2, 1) := by decide +kernel
theorem dX9_heldUnits_2 : decode cX9_heldUnits 2 = .ok (.iconst 0, 1) := by decide +kernel
theorem dX9_heldUnits_3 : decode cX9_heldUnits 3 = .ok (.istore_n 3, 1) := by decide +kernel
theorem dX9_heldUnits_4 : decode cX9_heldUnits 4 = .ok (.iload_n 3, 1) := by decide +kernel
theorem dX9_heldUnits_5 : decode cX9_heldUnits 5 = .ok (.aload_n 0, 1) := by decide +kernel
theorem dX9_heldUnits_6 : decode cX9_heldUnits 6 = .ok (.getfield 18, 3) := by decide +kernel
theorem dX9_heldUnits_9 : decode cX9_heldUnits 9 = .ok (.getfield 76, 3) := by decide +kernel
theorem dX9_heldUnits_12 : decode cX9_heldUnits 12 = .ok (.if_icmp .ge 22, 3) := by decide +kernel
theorem dX9_heldUnits_15 : decode cX9_heldUnits 15 = .ok (.iload_n 2, 1) := by decide +kernel
theorem dX9_heldUnits_16 : decode cX9_heldUnits 16 = .ok (.aload_n 0, 1) := by decide +kernel
theorem dX9_heldUnits_17 : decode cX9_heldUnits 17 = .ok (.getfield 28, 3) := by decide +kernel
theorem dX9_heldUnits_20 : decode cX9_heldUnits 20 = .ok (.iload_n 3, 1) := by decide +kernel
theorem dX9_heldUnits_21 : decode cX9_heldUnits 21 = .ok (.iconst 5, 1) := by decide +kernel
theorem dX9_heldUnits_22 : decode cX9_heldUnits 22 = .ok (.imul, 1) := by decide +kernel
theorem dX9_heldUnits_23 : decode cX9_heldUnits 23 = .ok (.iload_n 1, 1) := by decide +kernel
theorem dX9_heldUnits_24 : decode cX9_heldUnits 24 = .ok (.iadd, 1) := by decide +kernel
theorem dX9_heldUnits_25 : decode cX9_heldUnits 25 = .ok (.iaload, 1) := by decide +kernel
theorem dX9_heldUnits_26 : decode cX9_heldUnits 26 = .ok (.iadd, 1) := by decide +kernel
theorem dX9_heldUnits_27 : decode cX9_heldUnits 27 = .ok (.istore_n 2, 1) := by decide +kernel
theorem dX9_heldUnits_28 : decode cX9_heldUnits 28 = .ok (.iinc 3 1, 3) := by decide +kernel
theorem dX9_heldUnits_31 : decode cX9_heldUnits 31 = .ok (.goto (-27), 3) := by decide +kernel
theorem dX9_heldUnits_34 : decode cX9_heldUnits 34 = .ok (.iload_n 2, 1) := by decide +kernel
theorem dX9_heldUnits_35 : decode cX9_heldUnits 35 = .ok (.ireturn, 1) := by decide +kernel
theorem dX9_freeUnits_0 : decode cX9_freeUnits 0 = .ok (.aload_n 0, 1) := by decide +kernel
theorem dX9_freeUnits_1 : decode cX9_freeUnits 1 = .ok (.getfield 21, 3) := by decide +kernel
theorem dX9_freeUnits_4 : decode cX9_freeUnits 4 = .ok (.iload_n 1, 1) := by decide +kernel
theorem dX9_freeUnits_5 : decode cX9_freeUnits 5 = .ok (.iaload, 1) := by decide +kernel
theorem dX9_freeUnits_6 : decode cX9_freeUnits 6 = .ok (.aload_n 0, 1) := by decide +kernel
theorem dX9_freeUnits_7 : decode cX9_freeUnits 7 = .ok (.iload_n 1, 1) := by decide +kernel
theorem dX9_freeUnits_8 : decode cX9_freeUnits 8 = .ok (.invokevirtual 86, 3) := by decide +kernel
theorem dX9_freeUnits_11 : decode cX9_freeUnits 11 = .ok (.isub, 1) := by decide +kernel
theorem dX9_freeUnits_12 : decode cX9_freeUnits 12 = .ok (.ireturn, 1) := by decide +kernel
theorem dX9_openClaim_0 : decode cX9_openClaim 0 = .ok (.aload_n 0, 1) := by decide +kernel
theorem dX9_openClaim_1 : decode cX9_openClaim 1 = .ok (.getfield 25, 3) := by decide +kernel
theorem dX9_openClaim_4 : decode cX9_openClaim 4 = .ok (.iload_n 1, 1) := by decide +kernel
theorem dX9_openClaim_5 : decode cX9_openClaim 5 = .ok (.iload_n 2, 1) := by decide +kernel
theorem dX9_openClaim_6 : decode cX9_openClaim 6 = .ok (.invokestatic 79, 3) := by decide +kernel
theorem dX9_openClaim_9 : decode cX9_openClaim 9 = .ok (.iaload, 1) := by decide +kernel
theorem dX9_openClaim_10 : decode cX9_openClaim 10 = .ok (.aload_n 0, 1) := by decide +kernel
theorem dX9_openClaim_11 : decode cX9_openClaim 11 = .ok (.getfield 28, 3) := by decide +kernel
theorem dX9_openClaim_14 : decode cX9_openClaim 14 = .ok (.iload_n 1, 1) := by decide +kernel
theorem dX9_openClaim_15 : decode cX9_openClaim 15 = .ok (.iload_n 2, 1) := by decide +kernel
theorem dX9_openClaim_16 : decode cX9_openClaim 16 = .ok (.invokestatic 79, 3) := by decide +kernel
theorem dX9_openClaim_19 : decode cX9_openClaim 19 = .ok (.iaload, 1) := by decide +kernel
theorem dX9_openClaim_20 : decode cX9_openClaim 20 = .ok (.isub, 1) := by decide +kernel
theorem dX9_openClaim_21 : decode cX9_openClaim 21 = .ok (.ireturn, 1) := by decide +kernel
theorem dX9_waits_0 : decode cX9_waits 0 = .ok (.aload_n 0, 1) := by decide +kernel
theorem dX9_waits_1 : decode cX9_waits 1 = .ok (.getfield 34, 3) := by decide +kernel
theorem dX9_waits_4 : decode cX9_waits 4 = .ok (.iload_n 1, 1) := by decide +kernel
theorem dX9_waits_5 : decode cX9_waits 5 = .ok (.iaload, 1) := by decide +kernel
theorem dX9_waits_6 : decode cX9_waits 6 = .ok (.ifCond .le 7, 3) := by decide +kernel
theorem dX9_waits_9 : decode cX9_waits 9 = .ok (.iconst 1, 1) := by decide +kernel
theorem dX9_waits_10 : decode cX9_waits 10 = .ok (.goto 4, 3) := by decide +kernel
theorem dX9_waits_13 : decode cX9_waits 13 = .ok (.iconst 0, 1) := by decide +kernel
theorem dX9_waits_14 : decode cX9_waits 14 = .ok (.ireturn, 1) := by decide +kernel
theorem dX9_wanted_0 : decode cX9_wanted 0 = .ok (.aload_n 0, 1) := by decide +kernel
theorem dX9_wanted_1 : decode cX9_wanted 1 = .ok (.iload_n 1, 1) := by decide +kernel
theorem dX9_wanted_2 : decode cX9_wanted 2 = .ok (.invokevirtual 90, 3) := by decide +kernel
theorem dX9_wanted_5 : decode cX9_wanted 5 = .ok (.ifCond .eq 22, 3) := by decide +kernel
theorem dX9_wanted_8 : decode cX9_wanted 8 = .ok (.aload_n 0, 1) := by decide +kernel
theorem dX9_wanted_9 : decode cX9_wanted 9 = .ok (.getfield 31, 3) := by decide +kernel
theorem dX9_wanted_12 : decode cX9_wanted 12 = .ok (.iload_n 1, 1) := by decide +kernel
theorem dX9_wanted_13 : decode cX9_wanted 13 = .ok (.iaload, 1) := by decide +kernel
theorem dX9_wanted_14 : decode cX9_wanted 14 = .ok (.iload_n 2, 1) := by decide +kernel
theorem dX9_wanted_15 : decode cX9_wanted 15 = .ok (.if_icmp .ne 12, 3) := by decide +kernel
theorem dX9_wanted_18 : decode cX9_wanted 18 = .ok (.aload_n 0, 1) := by decide +kernel
theorem dX9_wanted_19 : decode cX9_wanted 19 = .ok (.getfield 34, 3) := by decide +kernel
theorem dX9_wanted_22 : decode cX9_wanted 22 = .ok (.iload_n 1, 1) := by decide +kernel
theorem dX9_wanted_23 : decode cX9_wanted 23 = .ok (.iaload, 1) := by decide +kernel
theorem dX9_wanted_24 : decode cX9_wanted 24 = .ok (.goto 4, 3) := by decide +kernel
theorem dX9_wanted_27 : decode cX9_wanted 27 = .ok (.iconst 0, 1) := by decide +kernel
theorem dX9_wanted_28 : decode cX9_wanted 28 = .ok (.ireturn, 1) := by decide +kernel
theorem dX9_joinQueue_0 : decode cX9_joinQueue 0 = .ok (.aload_n 0, 1) := by decide +kernel
theorem dX9_joinQueue_1 : decode cX9_joinQueue 1 = .ok (.getfield 57, 3) := by decide +kernel
theorem dX9_joinQueue_4 : decode cX9_joinQueue 4 = .ok (.bipush 8, 2) := by decide +kernel
theorem dX9_joinQueue_6 : decode cX9_joinQueue 6 = .ok (.if_icmp .lt 4, 3) := by decide +kernel
theorem dX9_joinQueue_9 : decode cX9_joinQueue 9 = .ok (.return_, 1) := by decide +kernel
theorem dX9_joinQueue_10 : decode cX9_joinQueue 10 = .ok (.aload_n 0, 1) := by decide +kernel
theorem dX9_joinQueue_11 : decode cX9_joinQueue 11 = .ok (.getfield 37, 3) := by decide +kernel
theorem dX9_joinQueue_14 : decode cX9_joinQueue 14 = .ok (.aload_n 0, 1) := by decide +kernel
theorem dX9_joinQueue_15 : decode cX9_joinQueue 15 = .ok (.getfield 57, 3) := by decide +kernel
theorem dX9_joinQueue_18 : decode cX9_joinQueue 18 = .ok (.iload_n 1, 1) := by decide +kernel
theorem dX9_joinQueue_19 : decode cX9_joinQueue 19 = .ok (.iastore, 1) := by decide +kernel
theorem dX9_joinQueue_20 : decode cX9_joinQueue 20 = .ok (.aload_n 0, 1) := by decide +kernel
theorem dX9_joinQueue_21 : decode cX9_joinQueue 21 = .ok (.dup, 1) := by decide +kernel
theorem dX9_joinQueue_22 : decode cX9_joinQueue 22 = .ok (.getfield 57, 3) := by decide +kernel
theorem dX9_joinQueue_25 : decode cX9_joinQueue 25 = .ok (.iconst 1, 1) := by decide +kernel
theorem dX9_joinQueue_26 : decode cX9_joinQueue 26 = .ok (.iadd, 1) := by decide +kernel
theorem dX9_joinQueue_27 : decode cX9_joinQueue 27 = .ok (.putfield 57, 3) := by decide +kernel
theorem dX9_joinQueue_30 : decode cX9_joinQueue 30 = .ok (.aload_n 0, 1) := by decide +kernel
theorem dX9_joinQueue_31 : decode cX9_joinQueue 31 = .ok (.getfield 31, 3) := by decide +kernel
theorem dX9_joinQueue_34 : decode cX9_joinQueue 34 = .ok (.iload_n 1, 1) := by decide +kernel
theorem dX9_joinQueue_35 : decode cX9_joinQueue 35 = .ok (.iload_n 2, 1) := by decide +kernel
theorem dX9_joinQueue_36 : decode cX9_joinQueue 36 = .ok (.iastore, 1) := by decide +kernel
theorem dX9_joinQueue_37 : decode cX9_joinQueue 37 = .ok (.aload_n 0, 1) := by decide +kernel
theorem dX9_joinQueue_38 : decode cX9_joinQueue 38 = .ok (.getfield 34, 3) := by decide +kernel
theorem dX9_joinQueue_41 : decode cX9_joinQueue 41 = .ok (.iload_n 1, 1) := by decide +kernel
theorem dX9_joinQueue_42 : decode cX9_joinQueue 42 = .ok (.iload_n 3, 1) := by decide +kernel
theorem dX9_joinQueue_43 : decode cX9_joinQueue 43 = .ok (.iastore, 1) := by decide +kernel
theorem dX9_joinQueue_44 : decode cX9_joinQueue 44 = .ok (.return_, 1) := by decide +kernel
theorem dX9_leaveQueue_0 : decode cX9_leaveQueue 0 = .ok (.iconst 0, 1) := by decide +kernel
theorem dX9_leaveQueue_1 : decode cX9_leaveQueue 1 = .ok (.istore_n 2, 1) := by decide +kernel
theorem dX9_leaveQueue_2 : decode cX9_leaveQueue 2 = .ok (.iconst 0, 1) := by decide +kernel
theorem dX9_leaveQueue_3 : decode cX9_leaveQueue 3 = .ok (.istore_n 3, 1) := by decide +kernel
theorem dX9_leaveQueue_4 : decode cX9_leaveQueue 4 = .ok (.iload_n 3, 1) := by decide +kernel
theorem dX9_leaveQueue_5 : decode cX9_leaveQueue 5 = .ok (.aload_n 0, 1) := by decide +kernel
theorem dX9_leaveQueue_6 : decode cX9_leaveQueue 6 = .ok (.getfield 57, 3) := by decide +kernel
theorem dX9_leaveQueue_9 : decode cX9_leaveQueue 9 = .ok (.if_icmp .ge 34, 3) := by decide +kernel
theorem dX9_leaveQueue_12 : decode cX9_leaveQueue 12 = .ok (.aload_n 0, 1) := by decide +kernel
theorem dX9_leaveQueue_13 : decode cX9_leaveQueue 13 = .ok (.getfield 37, 3) := by decide +kernel
theorem dX9_leaveQueue_16 : decode cX9_leaveQueue 16 = .ok (.iload_n 3, 1) := by decide +kernel
theorem dX9_leaveQueue_17 : decode cX9_leaveQueue 17 = .ok (.iaload, 1) := by decide +kernel
theorem dX9_leaveQueue_18 : decode cX9_leaveQueue 18 = .ok (.iload_n 1, 1) := by decide +kernel
theorem dX9_leaveQueue_19 : decode cX9_leaveQueue 19 = .ok (.if_icmp .eq 18, 3) := by decide +kernel
theorem dX9_leaveQueue_22 : decode cX9_leaveQueue 22 = .ok (.aload_n 0, 1) := by decide +kernel
theorem dX9_leaveQueue_23 : decode cX9_leaveQueue 23 = .ok (.getfield 37, 3) := by decide +kernel
theorem dX9_leaveQueue_26 : decode cX9_leaveQueue 26 = .ok (.iload_n 2, 1) := by decide +kernel
theorem dX9_leaveQueue_27 : decode cX9_leaveQueue 27 = .ok (.aload_n 0, 1) := by decide +kernel
theorem dX9_leaveQueue_28 : decode cX9_leaveQueue 28 = .ok (.getfield 37, 3) := by decide +kernel
theorem dX9_leaveQueue_31 : decode cX9_leaveQueue 31 = .ok (.iload_n 3, 1) := by decide +kernel
theorem dX9_leaveQueue_32 : decode cX9_leaveQueue 32 = .ok (.iaload, 1) := by decide +kernel
theorem dX9_leaveQueue_33 : decode cX9_leaveQueue 33 = .ok (.iastore, 1) := by decide +kernel
theorem dX9_leaveQueue_34 : decode cX9_leaveQueue 34 = .ok (.iinc 2 1, 3) := by decide +kernel
theorem dX9_leaveQueue_37 : decode cX9_leaveQueue 37 = .ok (.iinc 3 1, 3) := by decide +kernel
theorem dX9_leaveQueue_40 : decode cX9_leaveQueue 40 = .ok (.goto (-36), 3) := by decide +kernel
theorem dX9_leaveQueue_43 : decode cX9_leaveQueue 43 = .ok (.aload_n 0, 1) := by decide +kernel
theorem dX9_leaveQueue_44 : decode cX9_leaveQueue 44 = .ok (.iload_n 2, 1) := by decide +kernel
theorem dX9_leaveQueue_45 : decode cX9_leaveQueue 45 = .ok (.putfield 57, 3) := by decide +kernel
theorem dX9_leaveQueue_48 : decode cX9_leaveQueue 48 = .ok (.aload_n 0, 1) := by decide +kernel
theorem dX9_leaveQueue_49 : decode cX9_leaveQueue 49 = .ok (.getfield 34, 3) := by decide +kernel
theorem dX9_leaveQueue_52 : decode cX9_leaveQueue 52 = .ok (.iload_n 1, 1) := by decide +kernel
theorem dX9_leaveQueue_53 : decode cX9_leaveQueue 53 = .ok (.iconst 0, 1) := by decide +kernel
theorem dX9_leaveQueue_54 : decode cX9_leaveQueue 54 = .ok (.iastore, 1) := by decide +kernel
theorem dX9_leaveQueue_55 : decode cX9_leaveQueue 55 = .ok (.return_, 1) := by decide +kernel
theorem dX9_excessiveAllocations_0 : decode cX9_excessiveAllocations 0 = .ok (.iconst 0, 1) := by decide +kernel
theorem dX9_excessiveAllocations_1 : decode cX9_excessiveAllocations 1 = .ok (.istore_n 1, 1) := by decide +kernel
theorem dX9_excessiveAllocations_2 : decode cX9_excessiveAllocations 2 = .ok (.iconst 0, 1) := by decide +kernel
theorem dX9_excessiveAllocations_3 : decode cX9_excessiveAllocations 3 = .ok (.istore_n 2, 1) := by decide +kernel
theorem dX9_excessiveAllocations_4 : decode cX9_excessiveAllocations 4 = .ok (.iload_n 2, 1) := by decide +kernel
theorem dX9_excessiveAllocations_5 : decode cX9_excessiveAllocations 5 = .ok (.aload_n 0, 1) := by decide +kernel
theorem dX9_excessiveAllocations_6 : decode cX9_excessiveAllocations 6 = .ok (.getfield 18, 3) := by decide +kernel
theorem dX9_excessiveAllocations_9 : decode cX9_excessiveAllocations 9 = .ok (.getfield 76, 3) := by decide +kernel
theorem dX9_excessiveAllocations_12 : decode cX9_excessiveAllocations 12 = .ok (.if_icmp .ge 40, 3) := by decide +kernel
theorem dX9_excessiveAllocations_15 : decode cX9_excessiveAllocations 15 = .ok (.iconst 0, 1) := by decide +kernel
theorem dX9_excessiveAllocations_16 : decode cX9_excessiveAllocations 16 = .ok (.istore_n 3, 1) := by decide +kernel
theorem dX9_excessiveAllocations_17 : decode cX9_excessiveAllocations 17 = .ok (.iload_n 3, 1) := by decide +kernel
theorem dX9_excessiveAllocations_18 : decode cX9_excessiveAllocations 18 = .ok (.aload_n 0, 1) := by decide +kernel
theorem dX9_excessiveAllocations_19 : decode cX9_excessiveAllocations 19 = .ok (.getfield 12, 3) := by decide +kernel
theorem dX9_excessiveAllocations_22 : decode cX9_excessiveAllocations 22 = .ok (.getfield 76, 3) := by decide +kernel
theorem dX9_excessiveAllocations_25 : decode cX9_excessiveAllocations 25 = .ok (.if_icmp .ge 21, 3) := by decide +kernel
theorem dX9_excessiveAllocations_28 : decode cX9_excessiveAllocations 28 = .ok (.aload_n 0, 1) := by decide +kernel
theorem dX9_excessiveAllocations_29 : decode cX9_excessiveAllocations 29 = .ok (.iload_n 2, 1) := by decide +kernel
theorem dX9_excessiveAllocations_30 : decode cX9_excessiveAllocations 30 = .ok (.iload_n 3, 1) := by decide +kernel
theorem dX9_excessiveAllocations_31 : decode cX9_excessiveAllocations 31 = .ok (.invokevirtual 97, 3) := by decide +kernel
theorem dX9_excessiveAllocations_34 : decode cX9_excessiveAllocations 34 = .ok (.ifCond .ge 6, 3) := by decide +kernel
theorem dX9_excessiveAllocations_37 : decode cX9_excessiveAllocations 37 = .ok (.iinc 1 1, 3) := by decide +kernel
theorem dX9_excessiveAllocations_40 : decode cX9_excessiveAllocations 40 = .ok (.iinc 3 1, 3) := by decide +kernel
theorem dX9_excessiveAllocations_43 : decode cX9_excessiveAllocations 43 = .ok (.goto (-26), 3) := by decide +kernel
theorem dX9_excessiveAllocations_46 : decode cX9_excessiveAllocations 46 = .ok (.iinc 2 1, 3) := by decide +kernel
theorem dX9_excessiveAllocations_49 : decode cX9_excessiveAllocations 49 = .ok (.goto (-45), 3) := by decide +kernel
theorem dX9_excessiveAllocations_52 : decode cX9_excessiveAllocations 52 = .ok (.iload_n 1, 1) := by decide +kernel
theorem dX9_excessiveAllocations_53 : decode cX9_excessiveAllocations 53 = .ok (.ireturn, 1) := by decide +kernel
