theorem dX7_init_0 : decode cX7_init 0 = .ok (.aload_n 0, 1) := by decide +kernel
theorem dX7_init_1 : decode cX7_init 1 = .ok (.invokespecial 3, 3) := by decide +kernel
theorem dX7_init_4 : decode cX7_init 4 = .ok (.aload_n 0, 1) := by decide +kernel
theorem dX7_init_5 : decode cX7_init 5 = .ok (.new 9, 3) := by decide +kernel
theorem dX7_init_8 : decode cX7_init 8 = .ok (.dup, 1) := by decide +kernel
theorem dX7_init_9 : decode cX7_init 9 = .ok (.invokespecial 11, 3) := by decide +kernel
theorem dX7_init_12 : decode cX7_init 12 = .ok (.putfield 12, 3) := by decide +kernel
theorem dX7_init_15 : decode cX7_init 15 = .ok (.aload_n 0, 1) := by decide +kernel
theorem dX7_init_16 : decode cX7_init 16 = .ok (.iconst (-1), 1) := by decide +kernel
theorem dX7_init_17 : decode cX7_init 17 = .ok (.putfield 18, 3) := by decide +kernel
theorem dX7_init_20 : decode cX7_init 20 = .ok (.return_, 1) := by decide +kernel
theorem dX7_start_0 : decode cX7_start 0 = .ok (.aload_n 0, 1) := by decide +kernel
theorem dX7_start_1 : decode cX7_start 1 = .ok (.iconst 0, 1) := by decide +kernel
theorem dX7_start_2 : decode cX7_start 2 = .ok (.putfield 22, 3) := by decide +kernel
theorem dX7_start_5 : decode cX7_start 5 = .ok (.aload_n 0, 1) := by decide +kernel
theorem dX7_start_6 : decode cX7_start 6 = .ok (.iconst (-1), 1) := by decide +kernel
theorem dX7_start_7 : decode cX7_start 7 = .ok (.putfield 18, 3) := by decide +kernel
theorem dX7_start_10 : decode cX7_start 10 = .ok (.aload_n 0, 1) := by decide +kernel
theorem dX7_start_11 : decode cX7_start 11 = .ok (.getfield 12, 3) := by decide +kernel
theorem dX7_start_14 : decode cX7_start 14 = .ok (.invokevirtual 25, 3) := by decide +kernel
theorem dX7_start_17 : decode cX7_start 17 = .ok (.return_, 1) := by decide +kernel
theorem dX7_fail_0 : decode cX7_fail 0 = .ok (.aload_n 0, 1) := by decide +kernel
theorem dX7_fail_1 : decode cX7_fail 1 = .ok (.iload_n 1, 1) := by decide +kernel
theorem dX7_fail_2 : decode cX7_fail 2 = .ok (.putfield 22, 3) := by decide +kernel
theorem dX7_fail_5 : decode cX7_fail 5 = .ok (.aload_n 0, 1) := by decide +kernel
theorem dX7_fail_6 : decode cX7_fail 6 = .ok (.aload_n 0, 1) := by decide +kernel
theorem dX7_fail_7 : decode cX7_fail 7 = .ok (.getfield 12, 3) := by decide +kernel
theorem dX7_fail_10 : decode cX7_fail 10 = .ok (.getfield 28, 3) := by decide +kernel
theorem dX7_fail_13 : decode cX7_fail 13 = .ok (.putfield 18, 3) := by decide +kernel
theorem dX7_fail_16 : decode cX7_fail 16 = .ok (.iconst 0, 1) := by decide +kernel
theorem dX7_fail_17 : decode cX7_fail 17 = .ok (.ireturn, 1) := by decide +kernel
theorem dX7_readSetup_0 : decode cX7_readSetup 0 = .ok (.aload_n 0, 1) := by decide +kernel
theorem dX7_readSetup_1 : decode cX7_readSetup 1 = .ok (.invokevirtual 31, 3) := by decide +kernel
theorem dX7_readSetup_4 : decode cX7_readSetup 4 = .ok (.aload_n 1, 1) := by decide +kernel
theorem dX7_readSetup_5 : decode cX7_readSetup 5 = .ok (.invokevirtual 33, 3) := by decide +kernel
theorem dX7_readSetup_8 : decode cX7_readSetup 8 = .ok (.aload_n 0, 1) := by decide +kernel
theorem dX7_readSetup_9 : decode cX7_readSetup 9 = .ok (.ldc 38, 2) := by decide +kernel
theorem dX7_readSetup_11 : decode cX7_readSetup 11 = .ok (.invokevirtual 40, 3) := by decide +kernel
theorem dX7_readSetup_14 : decode cX7_readSetup 14 = .ok (.ifCond .eq 30, 3) := by decide +kernel
theorem dX7_readSetup_17 : decode cX7_readSetup 17 = .ok (.aload_n 0, 1) := by decide +kernel
theorem dX7_readSetup_18 : decode cX7_readSetup 18 = .ok (.invokevirtual 44, 3) := by decide +kernel
theorem dX7_readSetup_21 : decode cX7_readSetup 21 = .ok (.ifCond .eq 23, 3) := by decide +kernel
theorem dX7_readSetup_24 : decode cX7_readSetup 24 = .ok (.aload_n 0, 1) := by decide +kernel
theorem dX7_readSetup_25 : decode cX7_readSetup 25 = .ok (.aload_n 1, 1) := by decide +kernel
theorem dX7_readSetup_26 : decode cX7_readSetup 26 = .ok (.invokevirtual 48, 3) := by decide +kernel
theorem dX7_readSetup_29 : decode cX7_readSetup 29 = .ok (.ifCond .eq 15, 3) := by decide +kernel
theorem dX7_readSetup_32 : decode cX7_readSetup 32 = .ok (.aload_n 0, 1) := by decide +kernel
theorem dX7_readSetup_33 : decode cX7_readSetup 33 = .ok (.aload_n 1, 1) := by decide +kernel
theorem dX7_readSetup_34 : decode cX7_readSetup 34 = .ok (.invokevirtual 52, 3) := by decide +kernel
theorem dX7_readSetup_37 : decode cX7_readSetup 37 = .ok (.ifCond .eq 7, 3) := by decide +kernel
theorem dX7_readSetup_40 : decode cX7_readSetup 40 = .ok (.iconst 1, 1) := by decide +kernel
theorem dX7_readSetup_41 : decode cX7_readSetup 41 = .ok (.goto 4, 3) := by decide +kernel
theorem dX7_readSetup_44 : decode cX7_readSetup 44 = .ok (.iconst 0, 1) := by decide +kernel
theorem dX7_readSetup_45 : decode cX7_readSetup 45 = .ok (.ireturn, 1) := by decide +kernel
theorem dX7_pastures_0 : decode cX7_pastures 0 = .ok (.aload_n 0, 1) := by decide +kernel
theorem dX7_pastures_1 : decode cX7_pastures 1 = .ok (.aload_n 1, 1) := by decide +kernel
theorem dX7_pastures_2 : decode cX7_pastures 2 = .ok (.invokevirtual 55, 3) := by decide +kernel
theorem dX7_pastures_5 : decode cX7_pastures 5 = .ok (.ifCond .ne 5, 3) := by decide +kernel
theorem dX7_pastures_8 : decode cX7_pastures 8 = .ok (.iconst 0, 1) := by decide +kernel
theorem dX7_pastures_9 : decode cX7_pastures 9 = .ok (.ireturn, 1) := by decide +kernel
theorem dX7_pastures_10 : decode cX7_pastures 10 = .ok (.iconst 1, 1) := by decide +kernel
theorem dX7_pastures_11 : decode cX7_pastures 11 = .ok (.istore_n 2, 1) := by decide +kernel
theorem dX7_pastures_12 : decode cX7_pastures 12 = .ok (.iload_n 2, 1) := by decide +kernel
theorem dX7_pastures_13 : decode cX7_pastures 13 = .ok (.iconst 5, 1) := by decide +kernel
theorem dX7_pastures_14 : decode cX7_pastures 14 = .ok (.if_icmp .ge 31, 3) := by decide +kernel
theorem dX7_pastures_17 : decode cX7_pastures 17 = .ok (.aload_n 0, 1) := by decide +kernel
theorem dX7_pastures_18 : decode cX7_pastures 18 = .ok (.getfield 12, 3) := by decide +kernel
theorem dX7_pastures_21 : decode cX7_pastures 21 = .ok (.ldc 58, 2) := by decide +kernel
theorem dX7_pastures_23 : decode cX7_pastures 23 = .ok (.invokevirtual 59, 3) := by decide +kernel
theorem dX7_pastures_26 : decode cX7_pastures 26 = .ok (.ifCond .eq 19, 3) := by decide +kernel
theorem dX7_pastures_29 : decode cX7_pastures 29 = .ok (.aload_n 0, 1) := by decide +kernel
theorem dX7_pastures_30 : decode cX7_pastures 30 = .ok (.aload_n 1, 1) := by decide +kernel
theorem dX7_pastures_31 : decode cX7_pastures 31 = .ok (.invokevirtual 55, 3) := by decide +kernel
theorem dX7_pastures_34 : decode cX7_pastures 34 = .ok (.ifCond .ne 5, 3) := by decide +kernel
theorem dX7_pastures_37 : decode cX7_pastures 37 = .ok (.iconst 0, 1) := by decide +kernel
theorem dX7_pastures_38 : decode cX7_pastures 38 = .ok (.ireturn, 1) := by decide +kernel
theorem dX7_pastures_39 : decode cX7_pastures 39 = .ok (.iinc 2 1, 3) := by decide +kernel
theorem dX7_pastures_42 : decode cX7_pastures 42 = .ok (.goto (-30), 3) := by decide +kernel
theorem dX7_pastures_45 : decode cX7_pastures 45 = .ok (.aload_n 0, 1) := by decide +kernel
theorem dX7_pastures_46 : decode cX7_pastures 46 = .ok (.getfield 12, 3) := by decide +kernel
theorem dX7_pastures_49 : decode cX7_pastures 49 = .ok (.ldc 58, 2) := by decide +kernel
theorem dX7_pastures_51 : decode cX7_pastures 51 = .ok (.invokevirtual 59, 3) := by decide +kernel
theorem dX7_pastures_54 : decode cX7_pastures 54 = .ok (.ifCond .eq 11, 3) := by decide +kernel
theorem dX7_pastures_57 : decode cX7_pastures 57 = .ok (.aload_n 0, 1) := by decide +kernel
theorem dX7_pastures_58 : decode cX7_pastures 58 = .ok (.iconst 4, 1) := by decide +kernel
theorem dX7_pastures_59 : decode cX7_pastures 59 = .ok (.invokevirtual 62, 3) := by decide +kernel
theorem dX7_pastures_62 : decode cX7_pastures 62 = .ok (.ifCond .eq 7, 3) := by decide +kernel
theorem dX7_pastures_65 : decode cX7_pastures 65 = .ok (.iconst 1, 1) := by decide +kernel
theorem dX7_pastures_66 : decode cX7_pastures 66 = .ok (.goto 4, 3) := by decide +kernel
theorem dX7_pastures_69 : decode cX7_pastures 69 = .ok (.iconst 0, 1) := by decide +kernel
theorem dX7_pastures_70 : decode cX7_pastures 70 = .ok (.ireturn, 1) := by decide +kernel
theorem dX7_pasture_0 : decode cX7_pasture 0 = .ok (.aload_n 1, 1) := by decide +kernel
theorem dX7_pasture_1 : decode cX7_pasture 1 = .ok (.getfield 66, 3) := by decide +kernel
theorem dX7_pasture_4 : decode cX7_pasture 4 = .ok (.getfield 69, 3) := by decide +kernel
theorem dX7_pasture_7 : decode cX7_pasture 7 = .ok (.istore_n 2, 1) := by decide +kernel
theorem dX7_pasture_8 : decode cX7_pasture 8 = .ok (.iload_n 2, 1) := by decide +kernel
theorem dX7_pasture_9 : decode cX7_pasture 9 = .ok (.iconst 5, 1) := by decide +kernel
theorem dX7_pasture_10 : decode cX7_pasture 10 = .ok (.if_icmp .ge 32, 3) := by decide +kernel
theorem dX7_pasture_13 : decode cX7_pasture 13 = .ok (.aload_n 0, 1) := by decide +kernel
theorem dX7_pasture_14 : decode cX7_pasture 14 = .ok (.ldc 58, 2) := by decide +kernel
theorem dX7_pasture_16 : decode cX7_pasture 16 = .ok (.invokevirtual 40, 3) := by decide +kernel
theorem dX7_pasture_19 : decode cX7_pasture 19 = .ok (.ifCond .eq 23, 3) := by decide +kernel
theorem dX7_pasture_22 : decode cX7_pasture 22 = .ok (.aload_n 0, 1) := by decide +kernel
theorem dX7_pasture_23 : decode cX7_pasture 23 = .ok (.aload_n 1, 1) := by decide +kernel
theorem dX7_pasture_24 : decode cX7_pasture 24 = .ok (.getfield 66, 3) := by decide +kernel
theorem dX7_pasture_27 : decode cX7_pasture 27 = .ok (.invokevirtual 74, 3) := by decide +kernel
theorem dX7_pasture_30 : decode cX7_pasture 30 = .ok (.ifCond .eq 12, 3) := by decide +kernel
theorem dX7_pasture_33 : decode cX7_pasture 33 = .ok (.aload_n 0, 1) := by decide +kernel
theorem dX7_pasture_34 : decode cX7_pasture 34 = .ok (.bipush 50, 2) := by decide +kernel
theorem dX7_pasture_36 : decode cX7_pasture 36 = .ok (.invokevirtual 78, 3) := by decide +kernel
theorem dX7_pasture_39 : decode cX7_pasture 39 = .ok (.ifCond .ne 5, 3) := by decide +kernel
theorem dX7_pasture_42 : decode cX7_pasture 42 = .ok (.iconst 0, 1) := by decide +kernel
theorem dX7_pasture_43 : decode cX7_pasture 43 = .ok (.ireturn, 1) := by decide +kernel
theorem dX7_pasture_44 : decode cX7_pasture 44 = .ok (.aload_n 1, 1) := by decide +kernel
theorem dX7_pasture_45 : decode cX7_pasture 45 = .ok (.getfield 81, 3) := by decide +kernel
theorem dX7_pasture_48 : decode cX7_pasture 48 = .ok (.iload_n 2, 1) := by decide +kernel
theorem dX7_pasture_49 : decode cX7_pasture 49 = .ok (.aload_n 0, 1) := by decide +kernel
theorem dX7_pasture_50 : decode cX7_pasture 50 = .ok (.getfield 12, 3) := by decide +kernel
theorem dX7_pasture_53 : decode cX7_pasture 53 = .ok (.getfield 85, 3) := by decide +kernel
theorem dX7_pasture_56 : decode cX7_pasture 56 = .ok (.iastore, 1) := by decide +kernel
theorem dX7_pasture_57 : decode cX7_pasture 57 = .ok (.aload_n 0, 1) := by decide +kernel
theorem dX7_pasture_58 : decode cX7_pasture 58 = .ok (.getfield 12, 3) := by decide +kernel
theorem dX7_pasture_61 : decode cX7_pasture 61 = .ok (.invokevirtual 88, 3) := by decide +kernel
theorem dX7_pasture_64 : decode cX7_pasture 64 = .ok (.aload_n 0, 1) := by decide +kernel
theorem dX7_pasture_65 : decode cX7_pasture 65 = .ok (.invokevirtual 44, 3) := by decide +kernel
theorem dX7_pasture_68 : decode cX7_pasture 68 = .ok (.ireturn, 1) := by decide +kernel
theorem dX7_herds_0 : decode cX7_herds 0 = .ok (.aload_n 0, 1) := by decide +kernel
theorem dX7_herds_1 : decode cX7_herds 1 = .ok (.aload_n 1, 1) := by decide +kernel
theorem dX7_herds_2 : decode cX7_herds 2 = .ok (.invokevirtual 91, 3) := by decide +kernel
theorem dX7_herds_5 : decode cX7_herds 5 = .ok (.ifCond .ne 5, 3) := by decide +kernel
theorem dX7_herds_8 : decode cX7_herds 8 = .ok (.iconst 0, 1) := by decide +kernel
theorem dX7_herds_9 : decode cX7_herds 9 = .ok (.ireturn, 1) := by decide +kernel
theorem dX7_herds_10 : decode cX7_herds 10 = .ok (.iconst 1, 1) := by decide +kernel
theorem dX7_herds_11 : decode cX7_herds 11 = .ok (.istore_n 2, 1) := by decide +kernel
theorem dX7_herds_12 : decode cX7_herds 12 = .ok (.iload_n 2, 1) := by decide +kernel
theorem dX7_herds_13 : decode cX7_herds 13 = .ok (.bipush 8, 2) := by decide +kernel
theorem dX7_herds_15 : decode cX7_herds 15 = .ok (.if_icmp .ge 29, 3) := by decide +kernel
theorem dX7_herds_18 : decode cX7_herds 18 = .ok (.aload_n 0, 1) := by decide +kernel
theorem dX7_herds_19 : decode cX7_herds 19 = .ok (.getfield 12, 3) := by decide +kernel
theorem dX7_herds_22 : decode cX7_herds 22 = .ok (.getfield 94, 3) := by decide +kernel
theorem dX7_herds_25 : decode cX7_herds 25 = .ok (.ifCond .eq 19, 3) := by decide +kernel
theorem dX7_herds_28 : decode cX7_herds 28 = .ok (.aload_n 0, 1) := by decide +kernel
theorem dX7_herds_29 : decode cX7_herds 29 = .ok (.aload_n 1, 1) := by decide +kernel
theorem dX7_herds_30 : decode cX7_herds 30 = .ok (.invokevirtual 91, 3) := by decide +kernel
theorem dX7_herds_33 : decode cX7_herds 33 = .ok (.ifCond .ne 5, 3) := by decide +kernel
theorem dX7_herds_36 : decode cX7_herds 36 = .ok (.iconst 0, 1) := by decide +kernel
theorem dX7_herds_37 : decode cX7_herds 37 = .ok (.ireturn, 1) := by decide +kernel
theorem dX7_herds_38 : decode cX7_herds 38 = .ok (.iinc 2 1, 3) := by decide +kernel
theorem dX7_herds_41 : decode cX7_herds 41 = .ok (.goto (-29), 3) := by decide +kernel
theorem dX7_herds_44 : decode cX7_herds 44 = .ok (.aload_n 0, 1) := by decide +kernel
theorem dX7_herds_45 : decode cX7_herds 45 = .ok (.getfield 12, 3) := by decide +kernel
theorem dX7_herds_48 : decode cX7_herds 48 = .ok (.getfield 94, 3) := by decide +kernel
theorem dX7_herds_51 : decode cX7_herds 51 = .ok (.ifCond .ne 5, 3) := by decide +kernel
theorem dX7_herds_54 : decode cX7_herds 54 = .ok (.iconst 1, 1) := by decide +kernel
theorem dX7_herds_55 : decode cX7_herds 55 = .ok (.ireturn, 1) := by decide +kernel
theorem dX7_herds_56 : decode cX7_herds 56 = .ok (.aload_n 0, 1) := by decide +kernel
theorem dX7_herds_57 : decode cX7_herds 57 = .ok (.aload_n 0, 1) := by decide +kernel
theorem dX7_herds_58 : decode cX7_herds 58 = .ok (.getfield 12, 3) := by decide +kernel
theorem dX7_herds_61 : decode cX7_herds 61 = .ok (.ldc 97, 2) := by decide +kernel
theorem dX7_herds_63 : decode cX7_herds 63 = .ok (.invokevirtual 59, 3) := by decide +kernel
theorem dX7_herds_66 : decode cX7_herds 66 = .ok (.ifCond .eq 7, 3) := by decide +kernel
theorem dX7_herds_69 : decode cX7_herds 69 = .ok (.iconst 4, 1) := by decide +kernel
theorem dX7_herds_70 : decode cX7_herds 70 = .ok (.goto 4, 3) := by decide +kernel
theorem dX7_herds_73 : decode cX7_herds 73 = .ok (.iconst 1, 1) := by decide +kernel
theorem dX7_herds_74 : decode cX7_herds 74 = .ok (.invokevirtual 62, 3) := by decide +kernel
theorem dX7_herds_77 : decode cX7_herds 77 = .ok (.ireturn, 1) := by decide +kernel
theorem dX7_herd_0 : decode cX7_herd 0 = .ok (.aload_n 1, 1) := by decide +kernel
theorem dX7_herd_1 : decode cX7_herd 1 = .ok (.getfield 98, 3) := by decide +kernel
theorem dX7_herd_4 : decode cX7_herd 4 = .ok (.getfield 69, 3) := by decide +kernel
theorem dX7_herd_7 : decode cX7_herd 7 = .ok (.istore_n 2, 1) := by decide +kernel
theorem dX7_herd_8 : decode cX7_herd 8 = .ok (.iload_n 2, 1) := by decide +kernel
theorem dX7_herd_9 : decode cX7_herd 9 = .ok (.bipush 8, 2) := by decide +kernel
theorem dX7_herd_11 : decode cX7_herd 11 = .ok (.if_icmp .ge 23, 3) := by decide +kernel
theorem dX7_herd_14 : decode cX7_herd 14 = .ok (.aload_n 0, 1) := by decide +kernel
theorem dX7_herd_15 : decode cX7_herd 15 = .ok (.ldc 97, 2) := by decide +kernel
theorem dX7_herd_17 : decode cX7_herd 17 = .ok (.invokevirtual 40, 3) := by decide +kernel
theorem dX7_herd_20 : decode cX7_herd 20 = .ok (.ifCond .eq 14, 3) := by decide +kernel
theorem dX7_herd_23 : decode cX7_herd 23 = .ok (.aload_n 0, 1) := by decide +kernel
theorem dX7_herd_24 : decode cX7_herd 24 = .ok (.aload_n 1, 1) := by decide +kernel
theorem dX7_herd_25 : decode cX7_herd 25 = .ok (.getfield 98, 3) := by decide +kernel
theorem dX7_herd_28 : decode cX7_herd 28 = .ok (.invokevirtual 74, 3) := by decide +kernel
theorem dX7_herd_31 : decode cX7_herd 31 = .ok (.ifCond .ne 5, 3) := by decide +kernel
theorem dX7_herd_34 : decode cX7_herd 34 = .ok (.iconst 0, 1) := by decide +kernel
theorem dX7_herd_35 : decode cX7_herd 35 = .ok (.ireturn, 1) := by decide +kernel
theorem dX7_herd_36 : decode cX7_herd 36 = .ok (.iconst 0, 1) := by decide +kernel
theorem dX7_herd_37 : decode cX7_herd 37 = .ok (.istore_n 3, 1) := by decide +kernel
theorem dX7_herd_38 : decode cX7_herd 38 = .ok (.iload_n 3, 1) := by decide +kernel
theorem dX7_herd_39 : decode cX7_herd 39 = .ok (.aload_n 1, 1) := by decide +kernel
theorem dX7_herd_40 : decode cX7_herd 40 = .ok (.getfield 66, 3) := by decide +kernel
theorem dX7_herd_43 : decode cX7_herd 43 = .ok (.getfield 69, 3) := by decide +kernel
theorem dX7_herd_46 : decode cX7_herd 46 = .ok (.if_icmp .ge 48, 3) := by decide +kernel
theorem dX7_herd_49 : decode cX7_herd 49 = .ok (.aload_n 0, 1) := by decide +kernel
theorem dX7_herd_50 : decode cX7_herd 50 = .ok (.aload_n 1, 1) := by decide +kernel
theorem dX7_herd_51 : decode cX7_herd 51 = .ok (.getfield 81, 3) := by decide +kernel
theorem dX7_herd_54 : decode cX7_herd 54 = .ok (.iload_n 3, 1) := by decide +kernel
theorem dX7_herd_55 : decode cX7_herd 55 = .ok (.iaload, 1) := by decide +kernel
theorem dX7_herd_56 : decode cX7_herd 56 = .ok (.invokevirtual 78, 3) := by decide +kernel
theorem dX7_herd_59 : decode cX7_herd 59 = .ok (.ifCond .ne 5, 3) := by decide +kernel
theorem dX7_herd_62 : decode cX7_herd 62 = .ok (.iconst 0, 1) := by decide +kernel
theorem dX7_herd_63 : decode cX7_herd 63 = .ok (.ireturn, 1) := by decide +kernel
theorem dX7_herd_64 : decode cX7_herd 64 = .ok (.aload_n 1, 1) := by decide +kernel
theorem dX7_herd_65 : decode cX7_herd 65 = .ok (.getfield 100, 3) := by decide +kernel
theorem dX7_herd_68 : decode cX7_herd 68 = .ok (.iload_n 2, 1) := by decide +kernel
theorem dX7_herd_69 : decode cX7_herd 69 = .ok (.iload_n 3, 1) := by decide +kernel
theorem dX7_herd_70 : decode cX7_herd 70 = .ok (.invokestatic 103, 3) := by decide +kernel
theorem dX7_herd_73 : decode cX7_herd 73 = .ok (.aload_n 0, 1) := by decide +kernel
theorem dX7_herd_74 : decode cX7_herd 74 = .ok (.getfield 12, 3) := by decide +kernel
theorem dX7_herd_77 : decode cX7_herd 77 = .ok (.getfield 85, 3) := by decide +kernel
theorem dX7_herd_80 : decode cX7_herd 80 = .ok (.iastore, 1) := by decide +kernel
theorem dX7_herd_81 : decode cX7_herd 81 = .ok (.aload_n 0, 1) := by decide +kernel
theorem dX7_herd_82 : decode cX7_herd 82 = .ok (.getfield 12, 3) := by decide +kernel
theorem dX7_herd_85 : decode cX7_herd 85 = .ok (.invokevirtual 88, 3) := by decide +kernel
theorem dX7_herd_88 : decode cX7_herd 88 = .ok (.iinc 3 1, 3) := by decide +kernel
theorem dX7_herd_91 : decode cX7_herd 91 = .ok (.goto (-53), 3) := by decide +kernel
theorem dX7_herd_94 : decode cX7_herd 94 = .ok (.aload_n 0, 1) := by decide +kernel
theorem dX7_herd_95 : decode cX7_herd 95 = .ok (.invokevirtual 44, 3) := by decide +kernel
theorem dX7_herd_98 : decode cX7_herd 98 = .ok (.ireturn, 1) := by decide +kernel
theorem dX7_keyword_0 : decode cX7_keyword 0 = .ok (.aload_n 0, 1) := by decide +kernel
theorem dX7_keyword_1 : decode cX7_keyword 1 = .ok (.getfield 12, 3) := by decide +kernel
theorem dX7_keyword_4 : decode cX7_keyword 4 = .ok (.aload_n 1, 1) := by decide +kernel
theorem dX7_keyword_5 : decode cX7_keyword 5 = .ok (.invokevirtual 59, 3) := by decide +kernel
theorem dX7_keyword_8 : decode cX7_keyword 8 = .ok (.ifCond .ne 9, 3) := by decide +kernel
theorem dX7_keyword_11 : decode cX7_keyword 11 = .ok (.aload_n 0, 1) := by decide +kernel
theorem dX7_keyword_12 : decode cX7_keyword 12 = .ok (.iconst 1, 1) := by decide +kernel
theorem dX7_keyword_13 : decode cX7_keyword 13 = .ok (.invokevirtual 62, 3) := by decide +kernel
theorem dX7_keyword_16 : decode cX7_keyword 16 = .ok (.ireturn, 1) := by decide +kernel
theorem dX7_keyword_17 : decode cX7_keyword 17 = .ok (.aload_n 0, 1) := by decide +kernel
theorem dX7_keyword_18 : decode cX7_keyword 18 = .ok (.getfield 12, 3) := by decide +kernel
theorem dX7_keyword_21 : decode cX7_keyword 21 = .ok (.invokevirtual 88, 3) := by decide +kernel
theorem dX7_keyword_24 : decode cX7_keyword 24 = .ok (.iconst 1, 1) := by decide +kernel
theorem dX7_keyword_25 : decode cX7_keyword 25 = .ok (.ireturn, 1) := by decide +kernel
theorem dX7_semicolon_0 : decode cX7_semicolon 0 = .ok (.aload_n 0, 1) := by decide +kernel
theorem dX7_semicolon_1 : decode cX7_semicolon 1 = .ok (.getfield 12, 3) := by decide +kernel
theorem dX7_semicolon_4 : decode cX7_semicolon 4 = .ok (.getfield 94, 3) := by decide +kernel
theorem dX7_semicolon_7 : decode cX7_semicolon 7 = .ok (.iconst 3, 1) := by decide +kernel
theorem dX7_semicolon_8 : decode cX7_semicolon 8 = .ok (.if_icmp .eq 9, 3) := by decide +kernel
theorem dX7_semicolon_11 : decode cX7_semicolon 11 = .ok (.aload_n 0, 1) := by decide +kernel
theorem dX7_semicolon_12 : decode cX7_semicolon 12 = .ok (.iconst 1, 1) := by decide +kernel
theorem dX7_semicolon_13 : decode cX7_semicolon 13 = .ok (.invokevirtual 62, 3) := by decide +kernel
theorem dX7_semicolon_16 : decode cX7_semicolon 16 = .ok (.ireturn, 1) := by decide +kernel
theorem dX7_semicolon_17 : decode cX7_semicolon 17 = .ok (.aload_n 0, 1) := by decide +kernel
theorem dX7_semicolon_18 : decode cX7_semicolon 18 = .ok (.getfield 12, 3) := by decide +kernel
theorem dX7_semicolon_21 : decode cX7_semicolon 21 = .ok (.invokevirtual 88, 3) := by decide +kernel
theorem dX7_semicolon_24 : decode cX7_semicolon 24 = .ok (.iconst 1, 1) := by decide +kernel
theorem dX7_semicolon_25 : decode cX7_semicolon 25 = .ok (.ireturn, 1) := by decide +kernel
theorem dX7_numberUpTo_0 : decode cX7_numberUpTo 0 = .ok (.aload_n 0, 1) := by decide +kernel
theorem dX7_numberUpTo_1 : decode cX7_numberUpTo 1 = .ok (.getfield 12, 3) := by decide +kernel
theorem dX7_numberUpTo_4 : decode cX7_numberUpTo 4 = .ok (.getfield 94, 3) := by decide +kernel
theorem dX7_numberUpTo_7 : decode cX7_numberUpTo 7 = .ok (.iconst 2, 1) := by decide +kernel
theorem dX7_numberUpTo_8 : decode cX7_numberUpTo 8 = .ok (.if_icmp .eq 9, 3) := by decide +kernel
theorem dX7_numberUpTo_11 : decode cX7_numberUpTo 11 = .ok (.aload_n 0, 1) := by decide +kernel
theorem dX7_numberUpTo_12 : decode cX7_numberUpTo 12 = .ok (.iconst 1, 1) := by decide +kernel
theorem dX7_numberUpTo_13 : decode cX7_numberUpTo 13 = .ok (.invokevirtual 62, 3) := by decide +kernel
theorem dX7_numberUpTo_16 : decode cX7_numberUpTo 16 = .ok (.ireturn, 1) := by decide +kernel
theorem dX7_numberUpTo_17 : decode cX7_numberUpTo 17 = .ok (.aload_n 0, 1) := by decide +kernel
theorem dX7_numberUpTo_18 : decode cX7_numberUpTo 18 = .ok (.getfield 12, 3) := by decide +kernel
theorem dX7_numberUpTo_21 : decode cX7_numberUpTo 21 = .ok (.getfield 85, 3) := by decide +kernel
theorem dX7_numberUpTo_24 : decode cX7_numberUpTo 24 = .ok (.iload_n 1, 1) := by decide +kernel
theorem dX7_numberUpTo_25 : decode cX7_numberUpTo 25 = .ok (.if_icmp .le 11, 3) := by decide +kernel
theorem dX7_numberUpTo_28 : decode cX7_numberUpTo 28 = .ok (.aload_n 0, 1) := by decide +kernel
theorem dX7_numberUpTo_29 : decode cX7_numberUpTo 29 = .ok (.iconst 2, 1) := by decide +kernel
theorem dX7_numberUpTo_30 : decode cX7_numberUpTo 30 = .ok (.invokevirtual 62, 3) := by decide +kernel
theorem dX7_numberUpTo_33 : decode cX7_numberUpTo 33 = .ok (.ifCond .eq 7, 3) := by decide +kernel
theorem dX7_numberUpTo_36 : decode cX7_numberUpTo 36 = .ok (.iconst 1, 1) := by decide +kernel
theorem dX7_numberUpTo_37 : decode cX7_numberUpTo 37 = .ok (.goto 4, 3) := by decide +kernel
theorem dX7_numberUpTo_40 : decode cX7_numberUpTo 40 = .ok (.iconst 0, 1) := by decide +kernel
theorem dX7_numberUpTo_41 : decode cX7_numberUpTo 41 = .ok (.ireturn, 1) := by decide +kernel
theorem dX7_newName_0 : decode cX7_newName 0 = .ok (.aload_n 0, 1) := by decide +kernel
theorem dX7_newName_1 : decode cX7_newName 1 = .ok (.getfield 12, 3) := by decide +kernel
theorem dX7_newName_4 : decode cX7_newName 4 = .ok (.getfield 94, 3) := by decide +kernel
theorem dX7_newName_7 : decode cX7_newName 7 = .ok (.iconst 1, 1) := by decide +kernel
theorem dX7_newName_8 : decode cX7_newName 8 = .ok (.if_icmp .eq 9, 3) := by decide +kernel
theorem dX7_newName_11 : decode cX7_newName 11 = .ok (.aload_n 0, 1) := by decide +kernel
theorem dX7_newName_12 : decode cX7_newName 12 = .ok (.iconst 1, 1) := by decide +kernel
theorem dX7_newName_13 : decode cX7_newName 13 = .ok (.invokevirtual 62, 3) := by decide +kernel
theorem dX7_newName_16 : decode cX7_newName 16 = .ok (.ireturn, 1) := by decide +kernel
theorem dX7_newName_17 : decode cX7_newName 17 = .ok (.aload_n 0, 1) := by decide +kernel
theorem dX7_newName_18 : decode cX7_newName 18 = .ok (.getfield 12, 3) := by decide +kernel
theorem dX7_newName_21 : decode cX7_newName 21 = .ok (.getfield 136, 3) := by decide +kernel
theorem dX7_newName_24 : decode cX7_newName 24 = .ok (.aload_n 0, 1) := by decide +kernel
theorem dX7_newName_25 : decode cX7_newName 25 = .ok (.getfield 12, 3) := by decide +kernel
theorem dX7_newName_28 : decode cX7_newName 28 = .ok (.getfield 28, 3) := by decide +kernel
theorem dX7_newName_31 : decode cX7_newName 31 = .ok (.isub, 1) := by decide +kernel
theorem dX7_newName_32 : decode cX7_newName 32 = .ok (.istore_n 2, 1) := by decide +kernel
theorem dX7_newName_33 : decode cX7_newName 33 = .ok (.iload_n 2, 1) := by decide +kernel
theorem dX7_newName_34 : decode cX7_newName 34 = .ok (.bipush 6, 2) := by decide +kernel
theorem dX7_newName_36 : decode cX7_newName 36 = .ok (.if_icmp .gt 26, 3) := by decide +kernel
theorem dX7_newName_39 : decode cX7_newName 39 = .ok (.aload_n 1, 1) := by decide +kernel
theorem dX7_newName_40 : decode cX7_newName 40 = .ok (.aload_n 0, 1) := by decide +kernel
theorem dX7_newName_41 : decode cX7_newName 41 = .ok (.getfield 12, 3) := by decide +kernel
theorem dX7_newName_44 : decode cX7_newName 44 = .ok (.getfield 139, 3) := by decide +kernel
theorem dX7_newName_47 : decode cX7_newName 47 = .ok (.aload_n 0, 1) := by decide +kernel
theorem dX7_newName_48 : decode cX7_newName 48 = .ok (.getfield 12, 3) := by decide +kernel
theorem dX7_newName_51 : decode cX7_newName 51 = .ok (.getfield 28, 3) := by decide +kernel
theorem dX7_newName_54 : decode cX7_newName 54 = .ok (.iload_n 2, 1) := by decide +kernel
theorem dX7_newName_55 : decode cX7_newName 55 = .ok (.invokevirtual 143, 3) := by decide +kernel
theorem dX7_newName_58 : decode cX7_newName 58 = .ok (.iconst (-1), 1) := by decide +kernel
theorem dX7_newName_59 : decode cX7_newName 59 = .ok (.if_icmp .eq 9, 3) := by decide +kernel
theorem dX7_newName_62 : decode cX7_newName 62 = .ok (.aload_n 0, 1) := by decide +kernel
theorem dX7_newName_63 : decode cX7_newName 63 = .ok (.iconst 3, 1) := by decide +kernel
theorem dX7_newName_64 : decode cX7_newName 64 = .ok (.invokevirtual 62, 3) := by decide +kernel
theorem dX7_newName_67 : decode cX7_newName 67 = .ok (.ireturn, 1) := by decide +kernel
theorem dX7_newName_68 : decode cX7_newName 68 = .ok (.aload_n 1, 1) := by decide +kernel
theorem dX7_newName_69 : decode cX7_newName 69 = .ok (.aload_n 0, 1) := by decide +kernel
theorem dX7_newName_70 : decode cX7_newName 70 = .ok (.getfield 12, 3) := by decide +kernel
theorem dX7_newName_73 : decode cX7_newName 73 = .ok (.getfield 139, 3) := by decide +kernel
theorem dX7_newName_76 : decode cX7_newName 76 = .ok (.aload_n 0, 1) := by decide +kernel
theorem dX7_newName_77 : decode cX7_newName 77 = .ok (.getfield 12, 3) := by decide +kernel
theorem dX7_newName_80 : decode cX7_newName 80 = .ok (.getfield 28, 3) := by decide +kernel
theorem dX7_newName_83 : decode cX7_newName 83 = .ok (.iload_n 2, 1) := by decide +kernel
theorem dX7_newName_84 : decode cX7_newName 84 = .ok (.invokevirtual 147, 3) := by decide +kernel
theorem dX7_newName_87 : decode cX7_newName 87 = .ok (.aload_n 0, 1) := by decide +kernel
theorem dX7_newName_88 : decode cX7_newName 88 = .ok (.getfield 12, 3) := by decide +kernel
theorem dX7_newName_91 : decode cX7_newName 91 = .ok (.invokevirtual 88, 3) := by decide +kernel
theorem dX7_newName_94 : decode cX7_newName 94 = .ok (.iconst 1, 1) := by decide +kernel
theorem dX7_newName_95 : decode cX7_newName 95 = .ok (.ireturn, 1) := by decide +kernel
theorem dX10_init_0 : decode cX10_init 0 = .ok (.aload_n 0, 1) := by decide +kernel
theorem dX10_init_1 : decode cX10_init 1 = .ok (.invokespecial 1, 3) := by decide +kernel
theorem dX10_init_4 : decode cX10_init 4 = .ok (.aload_n 0, 1) := by decide +kernel
theorem dX10_init_5 : decode cX10_init 5 = .ok (.new 7, 3) := by decide +kernel
theorem dX10_init_8 : decode cX10_init 8 = .ok (.dup, 1) := by decide +kernel
theorem dX10_init_9 : decode cX10_init 9 = .ok (.invokespecial 9, 3) := by decide +kernel
theorem dX10_init_12 : decode cX10_init 12 = .ok (.putfield 10, 3) := by decide +kernel
theorem dX10_init_15 : decode cX10_init 15 = .ok (.aload_n 0, 1) := by decide +kernel
theorem dX10_init_16 : decode cX10_init 16 = .ok (.aload_n 0, 1) := by decide +kernel
theorem dX10_init_17 : decode cX10_init 17 = .ok (.getfield 10, 3) := by decide +kernel
theorem dX10_init_20 : decode cX10_init 20 = .ok (.getfield 16, 3) := by decide +kernel
theorem dX10_init_23 : decode cX10_init 23 = .ok (.putfield 20, 3) := by decide +kernel
theorem dX10_init_26 : decode cX10_init 26 = .ok (.aload_n 0, 1) := by decide +kernel
theorem dX10_init_27 : decode cX10_init 27 = .ok (.new 21, 3) := by decide +kernel
theorem dX10_init_30 : decode cX10_init 30 = .ok (.dup, 1) := by decide +kernel
theorem dX10_init_31 : decode cX10_init 31 = .ok (.invokespecial 23, 3) := by decide +kernel
theorem dX10_init_34 : decode cX10_init 34 = .ok (.putfield 24, 3) := by decide +kernel
theorem dX10_init_37 : decode cX10_init 37 = .ok (.aload_n 0, 1) := by decide +kernel
theorem dX10_init_38 : decode cX10_init 38 = .ok (.new 28, 3) := by decide +kernel
theorem dX10_init_41 : decode cX10_init 41 = .ok (.dup, 1) := by decide +kernel
theorem dX10_init_42 : decode cX10_init 42 = .ok (.invokespecial 30, 3) := by decide +kernel
theorem dX10_init_45 : decode cX10_init 45 = .ok (.putfield 31, 3) := by decide +kernel
theorem dX10_init_48 : decode cX10_init 48 = .ok (.aload_n 0, 1) := by decide +kernel
theorem dX10_init_49 : decode cX10_init 49 = .ok (.new 35, 3) := by decide +kernel
theorem dX10_init_52 : decode cX10_init 52 = .ok (.dup, 1) := by decide +kernel
theorem dX10_init_53 : decode cX10_init 53 = .ok (.invokespecial 37, 3) := by decide +kernel
theorem dX10_init_56 : decode cX10_init 56 = .ok (.putfield 38, 3) := by decide +kernel
theorem dX10_init_59 : decode cX10_init 59 = .ok (.aload_n 0, 1) := by decide +kernel
theorem dX10_init_60 : decode cX10_init 60 = .ok (.new 42, 3) := by decide +kernel
theorem dX10_init_63 : decode cX10_init 63 = .ok (.dup, 1) := by decide +kernel
theorem dX10_init_64 : decode cX10_init 64 = .ok (.invokespecial 44, 3) := by decide +kernel
theorem dX10_init_67 : decode cX10_init 67 = .ok (.putfield 45, 3) := by decide +kernel
theorem dX10_init_70 : decode cX10_init 70 = .ok (.aload_n 0, 1) := by decide +kernel
theorem dX10_init_71 : decode cX10_init 71 = .ok (.new 42, 3) := by decide +kernel
theorem dX10_init_74 : decode cX10_init 74 = .ok (.dup, 1) := by decide +kernel
theorem dX10_init_75 : decode cX10_init 75 = .ok (.invokespecial 44, 3) := by decide +kernel
theorem dX10_init_78 : decode cX10_init 78 = .ok (.putfield 49, 3) := by decide +kernel
theorem dX10_init_81 : decode cX10_init 81 = .ok (.aload_n 0, 1) := by decide +kernel
theorem dX10_init_82 : decode cX10_init 82 = .ok (.new 52, 3) := by decide +kernel
theorem dX10_init_85 : decode cX10_init 85 = .ok (.dup, 1) := by decide +kernel
theorem dX10_init_86 : decode cX10_init 86 = .ok (.invokespecial 54, 3) := by decide +kernel
theorem dX10_init_89 : decode cX10_init 89 = .ok (.putfield 55, 3) := by decide +kernel
theorem dX10_init_92 : decode cX10_init 92 = .ok (.aload_n 0, 1) := by decide +kernel
theorem dX10_init_93 : decode cX10_init 93 = .ok (.iconst 2, 1) := by decide +kernel
theorem dX10_init_94 : decode cX10_init 94 = .ok (.anewarray 42, 3) := by decide +kernel
theorem dX10_init_97 : decode cX10_init 97 = .ok (.putfield 59, 3) := by decide +kernel
theorem dX10_init_100 : decode cX10_init 100 = .ok (.aload_n 0, 1) := by decide +kernel
theorem dX10_init_101 : decode cX10_init 101 = .ok (.iconst 2, 1) := by decide +kernel
theorem dX10_init_102 : decode cX10_init 102 = .ok (.newarray .boolean, 2) := by decide +kernel
theorem dX10_init_104 : decode cX10_init 104 = .ok (.putfield 63, 3) := by decide +kernel
theorem dX10_init_107 : decode cX10_init 107 = .ok (.iconst 0, 1) := by decide +kernel
theorem dX10_init_108 : decode cX10_init 108 = .ok (.istore_n 1, 1) := by decide +kernel
theorem dX10_init_109 : decode cX10_init 109 = .ok (.iload_n 1, 1) := by decide +kernel
theorem dX10_init_110 : decode cX10_init 110 = .ok (.iconst 2, 1) := by decide +kernel
theorem dX10_init_111 : decode cX10_init 111 = .ok (.if_icmp .ge 22, 3) := by decide +kernel
theorem dX10_init_114 : decode cX10_init 114 = .ok (.aload_n 0, 1) := by decide +kernel
theorem dX10_init_115 : decode cX10_init 115 = .ok (.getfield 59, 3) := by decide +kernel
theorem dX10_init_118 : decode cX10_init 118 = .ok (.iload_n 1, 1) := by decide +kernel
theorem dX10_init_119 : decode cX10_init 119 = .ok (.new 42, 3) := by decide +kernel
theorem dX10_init_122 : decode cX10_init 122 = .ok (.dup, 1) := by decide +kernel
theorem dX10_init_123 : decode cX10_init 123 = .ok (.invokespecial 44, 3) := by decide +kernel
theorem dX10_init_126 : decode cX10_init 126 = .ok (.aastore, 1) := by decide +kernel
theorem dX10_init_127 : decode cX10_init 127 = .ok (.iinc 1 1, 3) := by decide +kernel
theorem dX10_init_130 : decode cX10_init 130 = .ok (.goto (-21), 3) := by decide +kernel
theorem dX10_init_133 : decode cX10_init 133 = .ok (.aload_n 0, 1) := by decide +kernel
theorem dX10_init_134 : decode cX10_init 134 = .ok (.getfield 20, 3) := by decide +kernel
theorem dX10_init_137 : decode cX10_init 137 = .ok (.ldc 67, 2) := by decide +kernel
theorem dX10_init_139 : decode cX10_init 139 = .ok (.invokevirtual 69, 3) := by decide +kernel
theorem dX10_init_142 : decode cX10_init 142 = .ok (.aload_n 0, 1) := by decide +kernel
theorem dX10_init_143 : decode cX10_init 143 = .ok (.getfield 10, 3) := by decide +kernel
theorem dX10_init_146 : decode cX10_init 146 = .ok (.aload_n 0, 1) := by decide +kernel
theorem dX10_init_147 : decode cX10_init 147 = .ok (.getfield 45, 3) := by decide +kernel
theorem dX10_init_150 : decode cX10_init 150 = .ok (.invokevirtual 75, 3) := by decide +kernel
theorem dX10_init_153 : decode cX10_init 153 = .ok (.pop, 1) := by decide +kernel
theorem dX10_init_154 : decode cX10_init 154 = .ok (.aload_n 0, 1) := by decide +kernel
theorem dX10_init_155 : decode cX10_init 155 = .ok (.getfield 20, 3) := by decide +kernel
theorem dX10_init_158 : decode cX10_init 158 = .ok (.iconst 0, 1) := by decide +kernel
theorem dX10_init_159 : decode cX10_init 159 = .ok (.putfield 79, 3) := by decide +kernel
theorem dX10_init_162 : decode cX10_init 162 = .ok (.return_, 1) := by decide +kernel
theorem dX10_append_0 : decode cX10_append 0 = .ok (.aload_n 0, 1) := by decide +kernel
theorem dX10_append_1 : decode cX10_append 1 = .ok (.getfield 20, 3) := by decide +kernel
theorem dX10_append_4 : decode cX10_append 4 = .ok (.getfield 79, 3) := by decide +kernel
theorem dX10_append_7 : decode cX10_append 7 = .ok (.sipush 580, 3) := by decide +kernel
theorem dX10_append_10 : decode cX10_append 10 = .ok (.if_icmp .le 13, 3) := by decide +kernel
theorem dX10_append_13 : decode cX10_append 13 = .ok (.new 83, 3) := by decide +kernel
theorem dX10_append_16 : decode cX10_append 16 = .ok (.dup, 1) := by decide +kernel
theorem dX10_append_17 : decode cX10_append 17 = .ok (.ldc 85, 2) := by decide +kernel
theorem dX10_append_19 : decode cX10_append 19 = .ok (.invokespecial 87, 3) := by decide +kernel
theorem dX10_append_22 : decode cX10_append 22 = .ok (.athrow, 1) := by decide +kernel
theorem dX10_append_23 : decode cX10_append 23 = .ok (.aload_n 0, 1) := by decide +kernel
theorem dX10_append_24 : decode cX10_append 24 = .ok (.getfield 20, 3) := by decide +kernel
theorem dX10_append_27 : decode cX10_append 27 = .ok (.iload_n 1, 1) := by decide +kernel
theorem dX10_append_28 : decode cX10_append 28 = .ok (.invokevirtual 89, 3) := by decide +kernel
theorem dX10_append_31 : decode cX10_append 31 = .ok (.aload_n 0, 1) := by decide +kernel
theorem dX10_append_32 : decode cX10_append 32 = .ok (.getfield 20, 3) := by decide +kernel
theorem dX10_append_35 : decode cX10_append 35 = .ok (.iload_n 2, 1) := by decide +kernel
theorem dX10_append_36 : decode cX10_append 36 = .ok (.invokevirtual 89, 3) := by decide +kernel
theorem dX10_append_39 : decode cX10_append 39 = .ok (.aload_n 0, 1) := by decide +kernel
theorem dX10_append_40 : decode cX10_append 40 = .ok (.getfield 20, 3) := by decide +kernel
theorem dX10_append_43 : decode cX10_append 43 = .ok (.iload_n 3, 1) := by decide +kernel
theorem dX10_append_44 : decode cX10_append 44 = .ok (.invokevirtual 89, 3) := by decide +kernel
theorem dX10_append_47 : decode cX10_append 47 = .ok (.aload_n 0, 1) := by decide +kernel
theorem dX10_append_48 : decode cX10_append 48 = .ok (.getfield 20, 3) := by decide +kernel
theorem dX10_append_51 : decode cX10_append 51 = .ok (.iload 4, 2) := by decide +kernel
theorem dX10_append_53 : decode cX10_append 53 = .ok (.invokevirtual 89, 3) := by decide +kernel
theorem dX10_append_56 : decode cX10_append 56 = .ok (.aload_n 0, 1) := by decide +kernel
theorem dX10_append_57 : decode cX10_append 57 = .ok (.getfield 20, 3) := by decide +kernel
theorem dX10_append_60 : decode cX10_append 60 = .ok (.iload 5, 2) := by decide +kernel
theorem dX10_append_62 : decode cX10_append 62 = .ok (.invokevirtual 89, 3) := by decide +kernel
theorem dX10_append_65 : decode cX10_append 65 = .ok (.aload_n 0, 1) := by decide +kernel
theorem dX10_append_66 : decode cX10_append 66 = .ok (.getfield 20, 3) := by decide +kernel
theorem dX10_append_69 : decode cX10_append 69 = .ok (.getfield 79, 3) := by decide +kernel
theorem dX10_append_72 : decode cX10_append 72 = .ok (.ireturn, 1) := by decide +kernel
theorem dX10_truncate_0 : decode cX10_truncate 0 = .ok (.iload_n 1, 1) := by decide +kernel
theorem dX10_truncate_1 : decode cX10_truncate 1 = .ok (.ifCond .lt 14, 3) := by decide +kernel
theorem dX10_truncate_4 : decode cX10_truncate 4 = .ok (.iload_n 1, 1) := by decide +kernel
theorem dX10_truncate_5 : decode cX10_truncate 5 = .ok (.aload_n 0, 1) := by decide +kernel
theorem dX10_truncate_6 : decode cX10_truncate 6 = .ok (.getfield 20, 3) := by decide +kernel
theorem dX10_truncate_9 : decode cX10_truncate 9 = .ok (.getfield 79, 3) := by decide +kernel
theorem dX10_truncate_12 : decode cX10_truncate 12 = .ok (.if_icmp .le 13, 3) := by decide +kernel
theorem dX10_truncate_15 : decode cX10_truncate 15 = .ok (.new 93, 3) := by decide +kernel
theorem dX10_truncate_18 : decode cX10_truncate 18 = .ok (.dup, 1) := by decide +kernel
theorem dX10_truncate_19 : decode cX10_truncate 19 = .ok (.ldc 95, 2) := by decide +kernel
theorem dX10_truncate_21 : decode cX10_truncate 21 = .ok (.invokespecial 97, 3) := by decide +kernel
theorem dX10_truncate_24 : decode cX10_truncate 24 = .ok (.athrow, 1) := by decide +kernel
theorem dX10_truncate_25 : decode cX10_truncate 25 = .ok (.aload_n 0, 1) := by decide +kernel
theorem dX10_truncate_26 : decode cX10_truncate 26 = .ok (.getfield 20, 3) := by decide +kernel
theorem dX10_truncate_29 : decode cX10_truncate 29 = .ok (.iload_n 1, 1) := by decide +kernel
theorem dX10_truncate_30 : decode cX10_truncate 30 = .ok (.putfield 79, 3) := by decide +kernel
theorem dX10_truncate_33 : decode cX10_truncate 33 = .ok (.iload_n 1, 1) := by decide +kernel
theorem dX10_truncate_34 : decode cX10_truncate 34 = .ok (.ireturn, 1) := by decide +kernel
theorem dX10_load_0 : decode cX10_load 0 = .ok (.aload_n 0, 1) := by decide +kernel
theorem dX10_load_1 : decode cX10_load 1 = .ok (.getfield 10, 3) := by decide +kernel
theorem dX10_load_4 : decode cX10_load 4 = .ok (.aload_n 0, 1) := by decide +kernel
theorem dX10_load_5 : decode cX10_load 5 = .ok (.getfield 49, 3) := by decide +kernel
theorem dX10_load_8 : decode cX10_load 8 = .ok (.invokevirtual 75, 3) := by decide +kernel
theorem dX10_load_11 : decode cX10_load 11 = .ok (.istore_n 1, 1) := by decide +kernel
theorem dX10_load_12 : decode cX10_load 12 = .ok (.aload_n 0, 1) := by decide +kernel
theorem dX10_load_13 : decode cX10_load 13 = .ok (.getfield 20, 3) := by decide +kernel
theorem dX10_load_16 : decode cX10_load 16 = .ok (.iconst 0, 1) := by decide +kernel
theorem dX10_load_17 : decode cX10_load 17 = .ok (.putfield 79, 3) := by decide +kernel
theorem dX10_load_20 : decode cX10_load 20 = .ok (.iload_n 1, 1) := by decide +kernel
theorem dX10_load_21 : decode cX10_load 21 = .ok (.ifCond .ne 13, 3) := by decide +kernel
theorem dX10_load_24 : decode cX10_load 24 = .ok (.new 93, 3) := by decide +kernel
theorem dX10_load_27 : decode cX10_load 27 = .ok (.dup, 1) := by decide +kernel
theorem dX10_load_28 : decode cX10_load 28 = .ok (.ldc 98, 2) := by decide +kernel
theorem dX10_load_30 : decode cX10_load 30 = .ok (.invokespecial 97, 3) := by decide +kernel
theorem dX10_load_33 : decode cX10_load 33 = .ok (.athrow, 1) := by decide +kernel
theorem dX10_load_34 : decode cX10_load 34 = .ok (.aload_n 0, 1) := by decide +kernel
theorem dX10_load_35 : decode cX10_load 35 = .ok (.getfield 45, 3) := by decide +kernel
theorem dX10_load_38 : decode cX10_load 38 = .ok (.aload_n 0, 1) := by decide +kernel
theorem dX10_load_39 : decode cX10_load 39 = .ok (.getfield 49, 3) := by decide +kernel
theorem dX10_load_42 : decode cX10_load 42 = .ok (.invokevirtual 100, 3) := by decide +kernel
theorem dX10_load_45 : decode cX10_load 45 = .ok (.aload_n 0, 1) := by decide +kernel
theorem dX10_load_46 : decode cX10_load 46 = .ok (.getfield 55, 3) := by decide +kernel
theorem dX10_load_49 : decode cX10_load 49 = .ok (.iconst 0, 1) := by decide +kernel
theorem dX10_load_50 : decode cX10_load 50 = .ok (.putfield 104, 3) := by decide +kernel
theorem dX10_load_53 : decode cX10_load 53 = .ok (.iconst 0, 1) := by decide +kernel
theorem dX10_load_54 : decode cX10_load 54 = .ok (.istore_n 2, 1) := by decide +kernel
theorem dX10_load_55 : decode cX10_load 55 = .ok (.iload_n 2, 1) := by decide +kernel
theorem dX10_load_56 : decode cX10_load 56 = .ok (.iconst 2, 1) := by decide +kernel
theorem dX10_load_57 : decode cX10_load 57 = .ok (.if_icmp .ge 16, 3) := by decide +kernel
theorem dX10_load_60 : decode cX10_load 60 = .ok (.aload_n 0, 1) := by decide +kernel
theorem dX10_load_61 : decode cX10_load 61 = .ok (.getfield 63, 3) := by decide +kernel
theorem dX10_load_64 : decode cX10_load 64 = .ok (.iload_n 2, 1) := by decide +kernel
theorem dX10_load_65 : decode cX10_load 65 = .ok (.iconst 0, 1) := by decide +kernel
theorem dX10_load_66 : decode cX10_load 66 = .ok (.bastore, 1) := by decide +kernel
theorem dX10_load_67 : decode cX10_load 67 = .ok (.iinc 2 1, 3) := by decide +kernel
theorem dX10_load_70 : decode cX10_load 70 = .ok (.goto (-15), 3) := by decide +kernel
theorem dX10_load_73 : decode cX10_load 73 = .ok (.aload_n 0, 1) := by decide +kernel
theorem dX10_load_74 : decode cX10_load 74 = .ok (.getfield 45, 3) := by decide +kernel
theorem dX10_load_77 : decode cX10_load 77 = .ok (.getfield 107, 3) := by decide +kernel
theorem dX10_load_80 : decode cX10_load 80 = .ok (.getfield 111, 3) := by decide +kernel
theorem dX10_load_83 : decode cX10_load 83 = .ok (.ireturn, 1) := by decide +kernel
theorem dX10_pastureCount_0 : decode cX10_pastureCount 0 = .ok (.aload_n 0, 1) := by decide +kernel
theorem dX10_pastureCount_1 : decode cX10_pastureCount 1 = .ok (.getfield 45, 3) := by decide +kernel
theorem dX10_pastureCount_4 : decode cX10_pastureCount 4 = .ok (.getfield 120, 3) := by decide +kernel
theorem dX10_pastureCount_7 : decode cX10_pastureCount 7 = .ok (.getfield 111, 3) := by decide +kernel
theorem dX10_pastureCount_10 : decode cX10_pastureCount 10 = .ok (.ireturn, 1) := by decide +kernel
theorem dX10_herdCount_0 : decode cX10_herdCount 0 = .ok (.aload_n 0, 1) := by decide +kernel
theorem dX10_herdCount_1 : decode cX10_herdCount 1 = .ok (.getfield 45, 3) := by decide +kernel
theorem dX10_herdCount_4 : decode cX10_herdCount 4 = .ok (.getfield 107, 3) := by decide +kernel
theorem dX10_herdCount_7 : decode cX10_herdCount 7 = .ok (.getfield 111, 3) := by decide +kernel
theorem dX10_herdCount_10 : decode cX10_herdCount 10 = .ok (.ireturn, 1) := by decide +kernel
theorem dX10_capacity_0 : decode cX10_capacity 0 = .ok (.aload_n 0, 1) := by decide +kernel
theorem dX10_capacity_1 : decode cX10_capacity 1 = .ok (.getfield 45, 3) := by decide +kernel
theorem dX10_capacity_4 : decode cX10_capacity 4 = .ok (.iload_n 1, 1) := by decide +kernel
theorem dX10_capacity_5 : decode cX10_capacity 5 = .ok (.invokestatic 123, 3) := by decide +kernel
theorem dX10_capacity_8 : decode cX10_capacity 8 = .ok (.invokestatic 129, 3) := by decide +kernel
theorem dX10_capacity_11 : decode cX10_capacity 11 = .ok (.aload_n 0, 1) := by decide +kernel
theorem dX10_capacity_12 : decode cX10_capacity 12 = .ok (.getfield 45, 3) := by decide +kernel
theorem dX10_capacity_15 : decode cX10_capacity 15 = .ok (.getfield 132, 3) := by decide +kernel
theorem dX10_capacity_18 : decode cX10_capacity 18 = .ok (.iload_n 1, 1) := by decide +kernel
theorem dX10_capacity_19 : decode cX10_capacity 19 = .ok (.iaload, 1) := by decide +kernel
theorem dX10_capacity_20 : decode cX10_capacity 20 = .ok (.ireturn, 1) := by decide +kernel
theorem dX10_available_0 : decode cX10_available 0 = .ok (.aload_n 0, 1) := by decide +kernel
theorem dX10_available_1 : decode cX10_available 1 = .ok (.getfield 45, 3) := by decide +kernel
theorem dX10_available_4 : decode cX10_available 4 = .ok (.iload_n 1, 1) := by decide +kernel
theorem dX10_available_5 : decode cX10_available 5 = .ok (.invokestatic 123, 3) := by decide +kernel
theorem dX10_available_8 : decode cX10_available 8 = .ok (.invokestatic 129, 3) := by decide +kernel
theorem dX10_available_11 : decode cX10_available 11 = .ok (.aload_n 0, 1) := by decide +kernel
theorem dX10_available_12 : decode cX10_available 12 = .ok (.getfield 45, 3) := by decide +kernel
theorem dX10_available_15 : decode cX10_available 15 = .ok (.iload_n 1, 1) := by decide +kernel
theorem dX10_available_16 : decode cX10_available 16 = .ok (.invokevirtual 136, 3) := by decide +kernel
theorem dX10_available_19 : decode cX10_available 19 = .ok (.ireturn, 1) := by decide +kernel
theorem dX10_maximum_0 : decode cX10_maximum 0 = .ok (.aload_n 0, 1) := by decide +kernel
theorem dX10_maximum_1 : decode cX10_maximum 1 = .ok (.getfield 45, 3) := by decide +kernel
theorem dX10_maximum_4 : decode cX10_maximum 4 = .ok (.iload_n 1, 1) := by decide +kernel
theorem dX10_maximum_5 : decode cX10_maximum 5 = .ok (.iload_n 2, 1) := by decide +kernel
theorem dX10_maximum_6 : decode cX10_maximum 6 = .ok (.invokestatic 140, 3) := by decide +kernel
theorem dX10_maximum_9 : decode cX10_maximum 9 = .ok (.invokestatic 129, 3) := by decide +kernel
theorem dX10_maximum_12 : decode cX10_maximum 12 = .ok (.aload_n 0, 1) := by decide +kernel
theorem dX10_maximum_13 : decode cX10_maximum 13 = .ok (.getfield 45, 3) := by decide +kernel
theorem dX10_maximum_16 : decode cX10_maximum 16 = .ok (.getfield 144, 3) := by decide +kernel
theorem dX10_maximum_19 : decode cX10_maximum 19 = .ok (.iload_n 1, 1) := by decide +kernel
theorem dX10_maximum_20 : decode cX10_maximum 20 = .ok (.iload_n 2, 1) := by decide +kernel
theorem dX10_maximum_21 : decode cX10_maximum 21 = .ok (.invokestatic 147, 3) := by decide +kernel
theorem dX10_maximum_24 : decode cX10_maximum 24 = .ok (.iaload, 1) := by decide +kernel
theorem dX10_maximum_25 : decode cX10_maximum 25 = .ok (.ireturn, 1) := by decide +kernel
theorem dX10_allocation_0 : decode cX10_allocation 0 = .ok (.aload_n 0, 1) := by decide +kernel
theorem dX10_allocation_1 : decode cX10_allocation 1 = .ok (.getfield 45, 3) := by decide +kernel
theorem dX10_allocation_4 : decode cX10_allocation 4 = .ok (.iload_n 1, 1) := by decide +kernel
theorem dX10_allocation_5 : decode cX10_allocation 5 = .ok (.iload_n 2, 1) := by decide +kernel
theorem dX10_allocation_6 : decode cX10_allocation 6 = .ok (.invokestatic 140, 3) := by decide +kernel
theorem dX10_allocation_9 : decode cX10_allocation 9 = .ok (.invokestatic 129, 3) := by decide +kernel
theorem dX10_allocation_12 : decode cX10_allocation 12 = .ok (.aload_n 0, 1) := by decide +kernel
theorem dX10_allocation_13 : decode cX10_allocation 13 = .ok (.getfield 45, 3) := by decide +kernel
theorem dX10_allocation_16 : decode cX10_allocation 16 = .ok (.getfield 151, 3) := by decide +kernel
theorem dX10_allocation_19 : decode cX10_allocation 19 = .ok (.iload_n 1, 1) := by decide +kernel
theorem dX10_allocation_20 : decode cX10_allocation 20 = .ok (.iload_n 2, 1) := by decide +kernel
theorem dX10_allocation_21 : decode cX10_allocation 21 = .ok (.invokestatic 147, 3) := by decide +kernel
theorem dX10_allocation_24 : decode cX10_allocation 24 = .ok (.iaload, 1) := by decide +kernel
theorem dX10_allocation_25 : decode cX10_allocation 25 = .ok (.ireturn, 1) := by decide +kernel
theorem dX10_need_0 : decode cX10_need 0 = .ok (.aload_n 0, 1) := by decide +kernel
theorem dX10_need_1 : decode cX10_need 1 = .ok (.getfield 45, 3) := by decide +kernel
theorem dX10_need_4 : decode cX10_need 4 = .ok (.iload_n 1, 1) := by decide +kernel
theorem dX10_need_5 : decode cX10_need 5 = .ok (.iload_n 2, 1) := by decide +kernel
theorem dX10_need_6 : decode cX10_need 6 = .ok (.invokestatic 140, 3) := by decide +kernel
theorem dX10_need_9 : decode cX10_need 9 = .ok (.invokestatic 129, 3) := by decide +kernel
theorem dX10_need_12 : decode cX10_need 12 = .ok (.aload_n 0, 1) := by decide +kernel
theorem dX10_need_13 : decode cX10_need 13 = .ok (.getfield 45, 3) := by decide +kernel
theorem dX10_need_16 : decode cX10_need 16 = .ok (.iload_n 1, 1) := by decide +kernel
theorem dX10_need_17 : decode cX10_need 17 = .ok (.iload_n 2, 1) := by decide +kernel
theorem dX10_need_18 : decode cX10_need 18 = .ok (.invokevirtual 154, 3) := by decide +kernel
theorem dX10_need_21 : decode cX10_need 21 = .ok (.ireturn, 1) := by decide +kernel
theorem dX10_isSafe_0 : decode cX10_isSafe 0 = .ok (.aload_n 0, 1) := by decide +kernel
theorem dX10_isSafe_1 : decode cX10_isSafe 1 = .ok (.getfield 38, 3) := by decide +kernel
theorem dX10_isSafe_4 : decode cX10_isSafe 4 = .ok (.aload_n 0, 1) := by decide +kernel
theorem dX10_isSafe_5 : decode cX10_isSafe 5 = .ok (.getfield 45, 3) := by decide +kernel
theorem dX10_isSafe_8 : decode cX10_isSafe 8 = .ok (.invokevirtual 177, 3) := by decide +kernel
theorem dX10_isSafe_11 : decode cX10_isSafe 11 = .ok (.ireturn, 1) := by decide +kernel
theorem dX10_queueLength_0 : decode cX10_queueLength 0 = .ok (.aload_n 0, 1) := by decide +kernel
theorem dX10_queueLength_1 : decode cX10_queueLength 1 = .ok (.getfield 45, 3) := by decide +kernel
theorem dX10_queueLength_4 : decode cX10_queueLength 4 = .ok (.getfield 207, 3) := by decide +kernel
theorem dX10_queueLength_7 : decode cX10_queueLength 7 = .ok (.ireturn, 1) := by decide +kernel
theorem dX10_queuedHerd_0 : decode cX10_queuedHerd 0 = .ok (.iload_n 1, 1) := by decide +kernel
theorem dX10_queuedHerd_1 : decode cX10_queuedHerd 1 = .ok (.ifCond .lt 26, 3) := by decide +kernel
theorem dX10_queuedHerd_4 : decode cX10_queuedHerd 4 = .ok (.iload_n 1, 1) := by decide +kernel
theorem dX10_queuedHerd_5 : decode cX10_queuedHerd 5 = .ok (.aload_n 0, 1) := by decide +kernel
theorem dX10_queuedHerd_6 : decode cX10_queuedHerd 6 = .ok (.getfield 45, 3) := by decide +kernel
theorem dX10_queuedHerd_9 : decode cX10_queuedHerd 9 = .ok (.getfield 207, 3) := by decide +kernel
theorem dX10_queuedHerd_12 : decode cX10_queuedHerd 12 = .ok (.if_icmp .ge 15, 3) := by decide +kernel
theorem dX10_queuedHerd_15 : decode cX10_queuedHerd 15 = .ok (.aload_n 0, 1) := by decide +kernel
theorem dX10_queuedHerd_16 : decode cX10_queuedHerd 16 = .ok (.getfield 45, 3) := by decide +kernel
theorem dX10_queuedHerd_19 : decode cX10_queuedHerd 19 = .ok (.getfield 210, 3) := by decide +kernel
theorem dX10_queuedHerd_22 : decode cX10_queuedHerd 22 = .ok (.iload_n 1, 1) := by decide +kernel
theorem dX10_queuedHerd_23 : decode cX10_queuedHerd 23 = .ok (.iaload, 1) := by decide +kernel
theorem dX10_queuedHerd_24 : decode cX10_queuedHerd 24 = .ok (.goto 4, 3) := by decide +kernel
theorem dX10_queuedHerd_27 : decode cX10_queuedHerd 27 = .ok (.iconst (-1), 1) := by decide +kernel
theorem dX10_queuedHerd_28 : decode cX10_queuedHerd 28 = .ok (.ireturn, 1) := by decide +kernel
theorem dX10_isWaiting_0 : decode cX10_isWaiting 0 = .ok (.aload_n 0, 1) := by decide +kernel
theorem dX10_isWaiting_1 : decode cX10_isWaiting 1 = .ok (.getfield 45, 3) := by decide +kernel
theorem dX10_isWaiting_4 : decode cX10_isWaiting 4 = .ok (.iload_n 1, 1) := by decide +kernel
theorem dX10_isWaiting_5 : decode cX10_isWaiting 5 = .ok (.invokestatic 183, 3) := by decide +kernel
theorem dX10_isWaiting_8 : decode cX10_isWaiting 8 = .ok (.invokestatic 129, 3) := by decide +kernel
theorem dX10_isWaiting_11 : decode cX10_isWaiting 11 = .ok (.aload_n 0, 1) := by decide +kernel
theorem dX10_isWaiting_12 : decode cX10_isWaiting 12 = .ok (.getfield 45, 3) := by decide +kernel
theorem dX10_isWaiting_15 : decode cX10_isWaiting 15 = .ok (.iload_n 1, 1) := by decide +kernel
theorem dX10_isWaiting_16 : decode cX10_isWaiting 16 = .ok (.invokevirtual 213, 3) := by decide +kernel
theorem dX10_isWaiting_19 : decode cX10_isWaiting 19 = .ok (.ireturn, 1) := by decide +kernel
theorem dX10_requestedPasture_0 : decode cX10_requestedPasture 0 = .ok (.aload_n 0, 1) := by decide +kernel
theorem dX10_requestedPasture_1 : decode cX10_requestedPasture 1 = .ok (.getfield 45, 3) := by decide +kernel
theorem dX10_requestedPasture_4 : decode cX10_requestedPasture 4 = .ok (.iload_n 1, 1) := by decide +kernel
theorem dX10_requestedPasture_5 : decode cX10_requestedPasture 5 = .ok (.invokestatic 183, 3) := by decide +kernel
theorem dX10_requestedPasture_8 : decode cX10_requestedPasture 8 = .ok (.invokestatic 129, 3) := by decide +kernel
theorem dX10_requestedPasture_11 : decode cX10_requestedPasture 11 = .ok (.aload_n 0, 1) := by decide +kernel
theorem dX10_requestedPasture_12 : decode cX10_requestedPasture 12 = .ok (.getfield 45, 3) := by decide +kernel
theorem dX10_requestedPasture_15 : decode cX10_requestedPasture 15 = .ok (.iload_n 1, 1) := by decide +kernel
theorem dX10_requestedPasture_16 : decode cX10_requestedPasture 16 = .ok (.invokevirtual 213, 3) := by decide +kernel
theorem dX10_requestedPasture_19 : decode cX10_requestedPasture 19 = .ok (.ifCond .eq 15, 3) := by decide +kernel
theorem dX10_requestedPasture_22 : decode cX10_requestedPasture 22 = .ok (.aload_n 0, 1) := by decide +kernel
theorem dX10_requestedPasture_23 : decode cX10_requestedPasture 23 = .ok (.getfield 45, 3) := by decide +kernel
theorem dX10_requestedPasture_26 : decode cX10_requestedPasture 26 = .ok (.getfield 217, 3) := by decide +kernel
theorem dX10_requestedPasture_29 : decode cX10_requestedPasture 29 = .ok (.iload_n 1, 1) := by decide +kernel
theorem dX10_requestedPasture_30 : decode cX10_requestedPasture 30 = .ok (.iaload, 1) := by decide +kernel
theorem dX10_requestedPasture_31 : decode cX10_requestedPasture 31 = .ok (.goto 4, 3) := by decide +kernel
theorem dX10_requestedPasture_34 : decode cX10_requestedPasture 34 = .ok (.iconst (-1), 1) := by decide +kernel
theorem dX10_requestedPasture_35 : decode cX10_requestedPasture 35 = .ok (.ireturn, 1) := by decide +kernel
theorem dX10_requestedAmount_0 : decode cX10_requestedAmount 0 = .ok (.aload_n 0, 1) := by decide +kernel
theorem dX10_requestedAmount_1 : decode cX10_requestedAmount 1 = .ok (.getfield 45, 3) := by decide +kernel
theorem dX10_requestedAmount_4 : decode cX10_requestedAmount 4 = .ok (.iload_n 1, 1) := by decide +kernel
theorem dX10_requestedAmount_5 : decode cX10_requestedAmount 5 = .ok (.invokestatic 183, 3) := by decide +kernel
theorem dX10_requestedAmount_8 : decode cX10_requestedAmount 8 = .ok (.invokestatic 129, 3) := by decide +kernel
theorem dX10_requestedAmount_11 : decode cX10_requestedAmount 11 = .ok (.aload_n 0, 1) := by decide +kernel
theorem dX10_requestedAmount_12 : decode cX10_requestedAmount 12 = .ok (.getfield 45, 3) := by decide +kernel
theorem dX10_requestedAmount_15 : decode cX10_requestedAmount 15 = .ok (.getfield 220, 3) := by decide +kernel
theorem dX10_requestedAmount_18 : decode cX10_requestedAmount 18 = .ok (.iload_n 1, 1) := by decide +kernel
theorem dX10_requestedAmount_19 : decode cX10_requestedAmount 19 = .ok (.iaload, 1) := by decide +kernel
theorem dX10_requestedAmount_20 : decode cX10_requestedAmount 20 = .ok (.ireturn, 1) := by decide +kernel
theorem dX10_debt_0 : decode cX10_debt 0 = .ok (.aload_n 0, 1) := by decide +kernel
theorem dX10_debt_1 : decode cX10_debt 1 = .ok (.getfield 45, 3) := by decide +kernel
theorem dX10_debt_4 : decode cX10_debt 4 = .ok (.iload_n 1, 1) := by decide +kernel
theorem dX10_debt_5 : decode cX10_debt 5 = .ok (.iload_n 2, 1) := by decide +kernel
theorem dX10_debt_6 : decode cX10_debt 6 = .ok (.invokestatic 223, 3) := by decide +kernel
theorem dX10_debt_9 : decode cX10_debt 9 = .ok (.invokestatic 129, 3) := by decide +kernel
theorem dX10_debt_12 : decode cX10_debt 12 = .ok (.aload_n 0, 1) := by decide +kernel
theorem dX10_debt_13 : decode cX10_debt 13 = .ok (.getfield 45, 3) := by decide +kernel
theorem dX10_debt_16 : decode cX10_debt 16 = .ok (.getfield 242, 3) := by decide +kernel
theorem dX10_debt_19 : decode cX10_debt 19 = .ok (.iload_n 1, 1) := by decide +kernel
theorem dX10_debt_20 : decode cX10_debt 20 = .ok (.iload_n 2, 1) := by decide +kernel
theorem dX10_debt_21 : decode cX10_debt 21 = .ok (.invokevirtual 246, 3) := by decide +kernel
theorem dX10_debt_24 : decode cX10_debt 24 = .ok (.ireturn, 1) := by decide +kernel
theorem dX10_closedCycleLength_0 : decode cX10_closedCycleLength 0 = .ok (.aload_n 0, 1) := by decide +kernel
theorem dX10_closedCycleLength_1 : decode cX10_closedCycleLength 1 = .ok (.getfield 45, 3) := by decide +kernel
theorem dX10_closedCycleLength_4 : decode cX10_closedCycleLength 4 = .ok (.iload_n 1, 1) := by decide +kernel
theorem dX10_closedCycleLength_5 : decode cX10_closedCycleLength 5 = .ok (.iload_n 2, 1) := by decide +kernel
theorem dX10_closedCycleLength_6 : decode cX10_closedCycleLength 6 = .ok (.invokestatic 223, 3) := by decide +kernel
theorem dX10_closedCycleLength_9 : decode cX10_closedCycleLength 9 = .ok (.invokestatic 129, 3) := by decide +kernel
theorem dX10_closedCycleLength_12 : decode cX10_closedCycleLength 12 = .ok (.aload_n 0, 1) := by decide +kernel
theorem dX10_closedCycleLength_13 : decode cX10_closedCycleLength 13 = .ok (.getfield 45, 3) := by decide +kernel
theorem dX10_closedCycleLength_16 : decode cX10_closedCycleLength 16 = .ok (.getfield 242, 3) := by decide +kernel
theorem dX10_closedCycleLength_19 : decode cX10_closedCycleLength 19 = .ok (.iload_n 1, 1) := by decide +kernel
theorem dX10_closedCycleLength_20 : decode cX10_closedCycleLength 20 = .ok (.iload_n 2, 1) := by decide +kernel
theorem dX10_closedCycleLength_21 : decode cX10_closedCycleLength 21 = .ok (.invokevirtual 254, 3) := by decide +kernel
theorem dX10_closedCycleLength_24 : decode cX10_closedCycleLength 24 = .ok (.ireturn, 1) := by decide +kernel
theorem dX10_immediateGrants_0 : decode cX10_immediateGrants 0 = .ok (.aload_n 0, 1) := by decide +kernel
theorem dX10_immediateGrants_1 : decode cX10_immediateGrants 1 = .ok (.getfield 45, 3) := by decide +kernel
theorem dX10_immediateGrants_4 : decode cX10_immediateGrants 4 = .ok (.getfield 266, 3) := by decide +kernel
theorem dX10_immediateGrants_7 : decode cX10_immediateGrants 7 = .ok (.ireturn, 1) := by decide +kernel
theorem dX10_queuedGrants_0 : decode cX10_queuedGrants 0 = .ok (.aload_n 0, 1) := by decide +kernel
theorem dX10_queuedGrants_1 : decode cX10_queuedGrants 1 = .ok (.getfield 45, 3) := by decide +kernel
theorem dX10_queuedGrants_4 : decode cX10_queuedGrants 4 = .ok (.getfield 269, 3) := by decide +kernel
theorem dX10_queuedGrants_7 : decode cX10_queuedGrants 7 = .ok (.ireturn, 1) := by decide +kernel
theorem dX10_inconsistencies_0 : decode cX10_inconsistencies 0 = .ok (.aload_n 0, 1) := by decide +kernel
theorem dX10_inconsistencies_1 : decode cX10_inconsistencies 1 = .ok (.getfield 45, 3) := by decide +kernel
theorem dX10_inconsistencies_4 : decode cX10_inconsistencies 4 = .ok (.getfield 272, 3) := by decide +kernel
theorem dX10_inconsistencies_7 : decode cX10_inconsistencies 7 = .ok (.aload_n 0, 1) := by decide +kernel
theorem dX10_inconsistencies_8 : decode cX10_inconsistencies 8 = .ok (.getfield 45, 3) := by decide +kernel
theorem dX10_inconsistencies_11 : decode cX10_inconsistencies 11 = .ok (.getfield 269, 3) := by decide +kernel
theorem dX10_inconsistencies_14 : decode cX10_inconsistencies 14 = .ok (.isub, 1) := by decide +kernel
theorem dX10_inconsistencies_15 : decode cX10_inconsistencies 15 = .ok (.aload_n 0, 1) := by decide +kernel
theorem dX10_inconsistencies_16 : decode cX10_inconsistencies 16 = .ok (.getfield 45, 3) := by decide +kernel
theorem dX10_inconsistencies_19 : decode cX10_inconsistencies 19 = .ok (.getfield 275, 3) := by decide +kernel
theorem dX10_inconsistencies_22 : decode cX10_inconsistencies 22 = .ok (.isub, 1) := by decide +kernel
theorem dX10_inconsistencies_23 : decode cX10_inconsistencies 23 = .ok (.aload_n 0, 1) := by decide +kernel
theorem dX10_inconsistencies_24 : decode cX10_inconsistencies 24 = .ok (.getfield 45, 3) := by decide +kernel
theorem dX10_inconsistencies_27 : decode cX10_inconsistencies 27 = .ok (.getfield 207, 3) := by decide +kernel
theorem dX10_inconsistencies_30 : decode cX10_inconsistencies 30 = .ok (.isub, 1) := by decide +kernel
theorem dX10_inconsistencies_31 : decode cX10_inconsistencies 31 = .ok (.aload_n 0, 1) := by decide +kernel
theorem dX10_inconsistencies_32 : decode cX10_inconsistencies 32 = .ok (.getfield 45, 3) := by decide +kernel
theorem dX10_inconsistencies_35 : decode cX10_inconsistencies 35 = .ok (.invokevirtual 285, 3) := by decide +kernel
theorem dX10_inconsistencies_38 : decode cX10_inconsistencies 38 = .ok (.iadd, 1) := by decide +kernel
theorem dX10_inconsistencies_39 : decode cX10_inconsistencies 39 = .ok (.aload_n 0, 1) := by decide +kernel
theorem dX10_inconsistencies_40 : decode cX10_inconsistencies 40 = .ok (.getfield 45, 3) := by decide +kernel
theorem dX10_inconsistencies_43 : decode cX10_inconsistencies 43 = .ok (.getfield 242, 3) := by decide +kernel
theorem dX10_inconsistencies_46 : decode cX10_inconsistencies 46 = .ok (.invokevirtual 288, 3) := by decide +kernel
theorem dX10_inconsistencies_49 : decode cX10_inconsistencies 49 = .ok (.iadd, 1) := by decide +kernel
theorem dX10_inconsistencies_50 : decode cX10_inconsistencies 50 = .ok (.ireturn, 1) := by decide +kernel
theorem dX10_request_0 : decode cX10_request 0 = .ok (.aload_n 0, 1) := by decide +kernel
theorem dX10_request_1 : decode cX10_request 1 = .ok (.getfield 45, 3) := by decide +kernel
theorem dX10_request_4 : decode cX10_request 4 = .ok (.iload_n 1, 1) := by decide +kernel
theorem dX10_request_5 : decode cX10_request 5 = .ok (.iload_n 2, 1) := by decide +kernel
theorem dX10_request_6 : decode cX10_request 6 = .ok (.iload_n 3, 1) := by decide +kernel
theorem dX10_request_7 : decode cX10_request 7 = .ok (.invokestatic 291, 3) := by decide +kernel
theorem dX10_request_10 : decode cX10_request 10 = .ok (.invokestatic 129, 3) := by decide +kernel
theorem dX10_request_13 : decode cX10_request 13 = .ok (.aload_n 0, 1) := by decide +kernel
theorem dX10_request_14 : decode cX10_request 14 = .ok (.getfield 55, 3) := by decide +kernel
theorem dX10_request_17 : decode cX10_request 17 = .ok (.aload_n 0, 1) := by decide +kernel
theorem dX10_request_18 : decode cX10_request 18 = .ok (.getfield 45, 3) := by decide +kernel
theorem dX10_request_21 : decode cX10_request 21 = .ok (.invokevirtual 294, 3) := by decide +kernel
theorem dX10_request_24 : decode cX10_request 24 = .ok (.aload_n 0, 1) := by decide +kernel
theorem dX10_request_25 : decode cX10_request 25 = .ok (.getfield 38, 3) := by decide +kernel
theorem dX10_request_28 : decode cX10_request 28 = .ok (.aload_n 0, 1) := by decide +kernel
theorem dX10_request_29 : decode cX10_request 29 = .ok (.getfield 45, 3) := by decide +kernel
theorem dX10_request_32 : decode cX10_request 32 = .ok (.iload_n 1, 1) := by decide +kernel
theorem dX10_request_33 : decode cX10_request 33 = .ok (.iload_n 2, 1) := by decide +kernel
theorem dX10_request_34 : decode cX10_request 34 = .ok (.iload_n 3, 1) := by decide +kernel
theorem dX10_request_35 : decode cX10_request 35 = .ok (.invokevirtual 297, 3) := by decide +kernel
theorem dX10_request_38 : decode cX10_request 38 = .ok (.ireturn, 1) := by decide +kernel
theorem dX10_release_0 : decode cX10_release 0 = .ok (.aload_n 0, 1) := by decide +kernel
theorem dX10_release_1 : decode cX10_release 1 = .ok (.getfield 45, 3) := by decide +kernel
theorem dX10_release_4 : decode cX10_release 4 = .ok (.iload_n 1, 1) := by decide +kernel
theorem dX10_release_5 : decode cX10_release 5 = .ok (.iload_n 2, 1) := by decide +kernel
theorem dX10_release_6 : decode cX10_release 6 = .ok (.iload_n 3, 1) := by decide +kernel
theorem dX10_release_7 : decode cX10_release 7 = .ok (.invokestatic 301, 3) := by decide +kernel
theorem dX10_release_10 : decode cX10_release 10 = .ok (.invokestatic 129, 3) := by decide +kernel
theorem dX10_release_13 : decode cX10_release 13 = .ok (.aload_n 0, 1) := by decide +kernel
theorem dX10_release_14 : decode cX10_release 14 = .ok (.getfield 55, 3) := by decide +kernel
theorem dX10_release_17 : decode cX10_release 17 = .ok (.aload_n 0, 1) := by decide +kernel
theorem dX10_release_18 : decode cX10_release 18 = .ok (.getfield 45, 3) := by decide +kernel
theorem dX10_release_21 : decode cX10_release 21 = .ok (.invokevirtual 294, 3) := by decide +kernel
theorem dX10_release_24 : decode cX10_release 24 = .ok (.aload_n 0, 1) := by decide +kernel
theorem dX10_release_25 : decode cX10_release 25 = .ok (.getfield 38, 3) := by decide +kernel
theorem dX10_release_28 : decode cX10_release 28 = .ok (.aload_n 0, 1) := by decide +kernel
theorem dX10_release_29 : decode cX10_release 29 = .ok (.getfield 45, 3) := by decide +kernel
theorem dX10_release_32 : decode cX10_release 32 = .ok (.iload_n 1, 1) := by decide +kernel
theorem dX10_release_33 : decode cX10_release 33 = .ok (.iload_n 2, 1) := by decide +kernel
theorem dX10_release_34 : decode cX10_release 34 = .ok (.iload_n 3, 1) := by decide +kernel
theorem dX10_release_35 : decode cX10_release 35 = .ok (.invokevirtual 304, 3) := by decide +kernel
theorem dX10_release_38 : decode cX10_release 38 = .ok (.ireturn, 1) := by decide +kernel
theorem dX10_finish_0 : decode cX10_finish 0 = .ok (.aload_n 0, 1) := by decide +kernel
theorem dX10_finish_1 : decode cX10_finish 1 = .ok (.getfield 45, 3) := by decide +kernel
theorem dX10_finish_4 : decode cX10_finish 4 = .ok (.iload_n 1, 1) := by decide +kernel
theorem dX10_finish_5 : decode cX10_finish 5 = .ok (.invokestatic 183, 3) := by decide +kernel
theorem dX10_finish_8 : decode cX10_finish 8 = .ok (.invokestatic 129, 3) := by decide +kernel
theorem dX10_finish_11 : decode cX10_finish 11 = .ok (.aload_n 0, 1) := by decide +kernel
theorem dX10_finish_12 : decode cX10_finish 12 = .ok (.getfield 55, 3) := by decide +kernel
theorem dX10_finish_15 : decode cX10_finish 15 = .ok (.aload_n 0, 1) := by decide +kernel
theorem dX10_finish_16 : decode cX10_finish 16 = .ok (.getfield 45, 3) := by decide +kernel
theorem dX10_finish_19 : decode cX10_finish 19 = .ok (.invokevirtual 294, 3) := by decide +kernel
theorem dX10_finish_22 : decode cX10_finish 22 = .ok (.aload_n 0, 1) := by decide +kernel
theorem dX10_finish_23 : decode cX10_finish 23 = .ok (.getfield 38, 3) := by decide +kernel
theorem dX10_finish_26 : decode cX10_finish 26 = .ok (.aload_n 0, 1) := by decide +kernel
theorem dX10_finish_27 : decode cX10_finish 27 = .ok (.getfield 45, 3) := by decide +kernel
theorem dX10_finish_30 : decode cX10_finish 30 = .ok (.iload_n 1, 1) := by decide +kernel
theorem dX10_finish_31 : decode cX10_finish 31 = .ok (.invokevirtual 307, 3) := by decide +kernel
theorem dX10_finish_34 : decode cX10_finish 34 = .ok (.ireturn, 1) := by decide +kernel
theorem dX10_cancel_0 : decode cX10_cancel 0 = .ok (.aload_n 0, 1) := by decide +kernel
theorem dX10_cancel_1 : decode cX10_cancel 1 = .ok (.getfield 45, 3) := by decide +kernel
theorem dX10_cancel_4 : decode cX10_cancel 4 = .ok (.iload_n 1, 1) := by decide +kernel
theorem dX10_cancel_5 : decode cX10_cancel 5 = .ok (.invokestatic 310, 3) := by decide +kernel
theorem dX10_cancel_8 : decode cX10_cancel 8 = .ok (.invokestatic 129, 3) := by decide +kernel
theorem dX10_cancel_11 : decode cX10_cancel 11 = .ok (.aload_n 0, 1) := by decide +kernel
theorem dX10_cancel_12 : decode cX10_cancel 12 = .ok (.getfield 55, 3) := by decide +kernel
theorem dX10_cancel_15 : decode cX10_cancel 15 = .ok (.aload_n 0, 1) := by decide +kernel
theorem dX10_cancel_16 : decode cX10_cancel 16 = .ok (.getfield 45, 3) := by decide +kernel
theorem dX10_cancel_19 : decode cX10_cancel 19 = .ok (.invokevirtual 294, 3) := by decide +kernel
theorem dX10_cancel_22 : decode cX10_cancel 22 = .ok (.aload_n 0, 1) := by decide +kernel
theorem dX10_cancel_23 : decode cX10_cancel 23 = .ok (.getfield 38, 3) := by decide +kernel
theorem dX10_cancel_26 : decode cX10_cancel 26 = .ok (.aload_n 0, 1) := by decide +kernel
theorem dX10_cancel_27 : decode cX10_cancel 27 = .ok (.getfield 45, 3) := by decide +kernel
theorem dX10_cancel_30 : decode cX10_cancel 30 = .ok (.iload_n 1, 1) := by decide +kernel
theorem dX10_cancel_31 : decode cX10_cancel 31 = .ok (.invokevirtual 313, 3) := by decide +kernel
theorem dX10_cancel_34 : decode cX10_cancel 34 = .ok (.ireturn, 1) := by decide +kernel
theorem dX10_setCapacity_0 : decode cX10_setCapacity 0 = .ok (.aload_n 0, 1) := by decide +kernel
theorem dX10_setCapacity_1 : decode cX10_setCapacity 1 = .ok (.getfield 45, 3) := by decide +kernel
theorem dX10_setCapacity_4 : decode cX10_setCapacity 4 = .ok (.iload_n 1, 1) := by decide +kernel
theorem dX10_setCapacity_5 : decode cX10_setCapacity 5 = .ok (.iload_n 2, 1) := by decide +kernel
theorem dX10_setCapacity_6 : decode cX10_setCapacity 6 = .ok (.invokestatic 316, 3) := by decide +kernel
theorem dX10_setCapacity_9 : decode cX10_setCapacity 9 = .ok (.invokestatic 129, 3) := by decide +kernel
theorem dX10_setCapacity_12 : decode cX10_setCapacity 12 = .ok (.aload_n 0, 1) := by decide +kernel
theorem dX10_setCapacity_13 : decode cX10_setCapacity 13 = .ok (.getfield 55, 3) := by decide +kernel
theorem dX10_setCapacity_16 : decode cX10_setCapacity 16 = .ok (.aload_n 0, 1) := by decide +kernel
theorem dX10_setCapacity_17 : decode cX10_setCapacity 17 = .ok (.getfield 45, 3) := by decide +kernel
theorem dX10_setCapacity_20 : decode cX10_setCapacity 20 = .ok (.invokevirtual 294, 3) := by decide +kernel
theorem dX10_setCapacity_23 : decode cX10_setCapacity 23 = .ok (.aload_n 0, 1) := by decide +kernel
theorem dX10_setCapacity_24 : decode cX10_setCapacity 24 = .ok (.getfield 38, 3) := by decide +kernel
theorem dX10_setCapacity_27 : decode cX10_setCapacity 27 = .ok (.aload_n 0, 1) := by decide +kernel
theorem dX10_setCapacity_28 : decode cX10_setCapacity 28 = .ok (.getfield 45, 3) := by decide +kernel
theorem dX10_setCapacity_31 : decode cX10_setCapacity 31 = .ok (.iload_n 1, 1) := by decide +kernel
theorem dX10_setCapacity_32 : decode cX10_setCapacity 32 = .ok (.iload_n 2, 1) := by decide +kernel
theorem dX10_setCapacity_33 : decode cX10_setCapacity 33 = .ok (.invokevirtual 319, 3) := by decide +kernel
theorem dX10_setCapacity_36 : decode cX10_setCapacity 36 = .ok (.ireturn, 1) := by decide +kernel
theorem dX10_setMaximum_0 : decode cX10_setMaximum 0 = .ok (.aload_n 0, 1) := by decide +kernel
theorem dX10_setMaximum_1 : decode cX10_setMaximum 1 = .ok (.getfield 45, 3) := by decide +kernel
theorem dX10_setMaximum_4 : decode cX10_setMaximum 4 = .ok (.iload_n 1, 1) := by decide +kernel
theorem dX10_setMaximum_5 : decode cX10_setMaximum 5 = .ok (.iload_n 2, 1) := by decide +kernel
theorem dX10_setMaximum_6 : decode cX10_setMaximum 6 = .ok (.iload_n 3, 1) := by decide +kernel
theorem dX10_setMaximum_7 : decode cX10_setMaximum 7 = .ok (.invokestatic 322, 3) := by decide +kernel
theorem dX10_setMaximum_10 : decode cX10_setMaximum 10 = .ok (.invokestatic 129, 3) := by decide +kernel
theorem dX10_setMaximum_13 : decode cX10_setMaximum 13 = .ok (.aload_n 0, 1) := by decide +kernel
theorem dX10_setMaximum_14 : decode cX10_setMaximum 14 = .ok (.getfield 55, 3) := by decide +kernel
theorem dX10_setMaximum_17 : decode cX10_setMaximum 17 = .ok (.aload_n 0, 1) := by decide +kernel
theorem dX10_setMaximum_18 : decode cX10_setMaximum 18 = .ok (.getfield 45, 3) := by decide +kernel
theorem dX10_setMaximum_21 : decode cX10_setMaximum 21 = .ok (.invokevirtual 294, 3) := by decide +kernel
theorem dX10_setMaximum_24 : decode cX10_setMaximum 24 = .ok (.aload_n 0, 1) := by decide +kernel
theorem dX10_setMaximum_25 : decode cX10_setMaximum 25 = .ok (.getfield 38, 3) := by decide +kernel
theorem dX10_setMaximum_28 : decode cX10_setMaximum 28 = .ok (.aload_n 0, 1) := by decide +kernel
theorem dX10_setMaximum_29 : decode cX10_setMaximum 29 = .ok (.getfield 45, 3) := by decide +kernel
theorem dX10_setMaximum_32 : decode cX10_setMaximum 32 = .ok (.iload_n 1, 1) := by decide +kernel
theorem dX10_setMaximum_33 : decode cX10_setMaximum 33 = .ok (.iload_n 2, 1) := by decide +kernel
theorem dX10_setMaximum_34 : decode cX10_setMaximum 34 = .ok (.iload_n 3, 1) := by decide +kernel
theorem dX10_setMaximum_35 : decode cX10_setMaximum 35 = .ok (.invokevirtual 325, 3) := by decide +kernel
theorem dX10_setMaximum_38 : decode cX10_setMaximum 38 = .ok (.ireturn, 1) := by decide +kernel
theorem dX10_lend_0 : decode cX10_lend 0 = .ok (.aload_n 0, 1) := by decide +kernel
theorem dX10_lend_1 : decode cX10_lend 1 = .ok (.getfield 45, 3) := by decide +kernel
theorem dX10_lend_4 : decode cX10_lend 4 = .ok (.iload_n 1, 1) := by decide +kernel
theorem dX10_lend_5 : decode cX10_lend 5 = .ok (.iload_n 2, 1) := by decide +kernel
theorem dX10_lend_6 : decode cX10_lend 6 = .ok (.iload_n 3, 1) := by decide +kernel
theorem dX10_lend_7 : decode cX10_lend 7 = .ok (.invokestatic 328, 3) := by decide +kernel
theorem dX10_lend_10 : decode cX10_lend 10 = .ok (.invokestatic 129, 3) := by decide +kernel
theorem dX10_lend_13 : decode cX10_lend 13 = .ok (.aload_n 0, 1) := by decide +kernel
theorem dX10_lend_14 : decode cX10_lend 14 = .ok (.getfield 55, 3) := by decide +kernel
theorem dX10_lend_17 : decode cX10_lend 17 = .ok (.aload_n 0, 1) := by decide +kernel
theorem dX10_lend_18 : decode cX10_lend 18 = .ok (.getfield 45, 3) := by decide +kernel
theorem dX10_lend_21 : decode cX10_lend 21 = .ok (.invokevirtual 294, 3) := by decide +kernel
theorem dX10_lend_24 : decode cX10_lend 24 = .ok (.aload_n 0, 1) := by decide +kernel
theorem dX10_lend_25 : decode cX10_lend 25 = .ok (.getfield 45, 3) := by decide +kernel
theorem dX10_lend_28 : decode cX10_lend 28 = .ok (.getfield 242, 3) := by decide +kernel
theorem dX10_lend_31 : decode cX10_lend 31 = .ok (.iload_n 2, 1) := by decide +kernel
theorem dX10_lend_32 : decode cX10_lend 32 = .ok (.iload_n 1, 1) := by decide +kernel
theorem dX10_lend_33 : decode cX10_lend 33 = .ok (.iload_n 3, 1) := by decide +kernel
theorem dX10_lend_34 : decode cX10_lend 34 = .ok (.invokevirtual 331, 3) := by decide +kernel
theorem dX10_lend_37 : decode cX10_lend 37 = .ok (.ireturn, 1) := by decide +kernel
theorem dX10_repay_0 : decode cX10_repay 0 = .ok (.aload_n 0, 1) := by decide +kernel
theorem dX10_repay_1 : decode cX10_repay 1 = .ok (.getfield 45, 3) := by decide +kernel
theorem dX10_repay_4 : decode cX10_repay 4 = .ok (.iload_n 1, 1) := by decide +kernel
theorem dX10_repay_5 : decode cX10_repay 5 = .ok (.iload_n 2, 1) := by decide +kernel
theorem dX10_repay_6 : decode cX10_repay 6 = .ok (.iload_n 3, 1) := by decide +kernel
theorem dX10_repay_7 : decode cX10_repay 7 = .ok (.invokestatic 335, 3) := by decide +kernel
theorem dX10_repay_10 : decode cX10_repay 10 = .ok (.invokestatic 129, 3) := by decide +kernel
theorem dX10_repay_13 : decode cX10_repay 13 = .ok (.aload_n 0, 1) := by decide +kernel
theorem dX10_repay_14 : decode cX10_repay 14 = .ok (.getfield 55, 3) := by decide +kernel
theorem dX10_repay_17 : decode cX10_repay 17 = .ok (.aload_n 0, 1) := by decide +kernel
theorem dX10_repay_18 : decode cX10_repay 18 = .ok (.getfield 45, 3) := by decide +kernel
theorem dX10_repay_21 : decode cX10_repay 21 = .ok (.invokevirtual 294, 3) := by decide +kernel
theorem dX10_repay_24 : decode cX10_repay 24 = .ok (.aload_n 0, 1) := by decide +kernel
theorem dX10_repay_25 : decode cX10_repay 25 = .ok (.getfield 45, 3) := by decide +kernel
theorem dX10_repay_28 : decode cX10_repay 28 = .ok (.getfield 242, 3) := by decide +kernel
theorem dX10_repay_31 : decode cX10_repay 31 = .ok (.iload_n 1, 1) := by decide +kernel
theorem dX10_repay_32 : decode cX10_repay 32 = .ok (.iload_n 2, 1) := by decide +kernel
theorem dX10_repay_33 : decode cX10_repay 33 = .ok (.iload_n 3, 1) := by decide +kernel
theorem dX10_repay_34 : decode cX10_repay 34 = .ok (.ineg, 1) := by decide +kernel
theorem dX10_repay_35 : decode cX10_repay 35 = .ok (.invokevirtual 331, 3) := by decide +kernel
theorem dX10_repay_38 : decode cX10_repay 38 = .ok (.ireturn, 1) := by decide +kernel
theorem dX10_refuse_0 : decode cX10_refuse 0 = .ok (.iload_n 0, 1) := by decide +kernel
theorem dX10_refuse_1 : decode cX10_refuse 1 = .ok (.iconst 1, 1) := by decide +kernel
theorem dX10_refuse_2 : decode cX10_refuse 2 = .ok (.if_icmp .ne 14, 3) := by decide +kernel
theorem dX10_refuse_5 : decode cX10_refuse 5 = .ok (.new 364, 3) := by decide +kernel
theorem dX10_refuse_8 : decode cX10_refuse 8 = .ok (.dup, 1) := by decide +kernel
theorem dX10_refuse_9 : decode cX10_refuse 9 = .ok (.ldc_w 370, 3) := by decide +kernel
theorem dX10_refuse_12 : decode cX10_refuse 12 = .ok (.invokespecial 368, 3) := by decide +kernel
theorem dX10_refuse_15 : decode cX10_refuse 15 = .ok (.athrow, 1) := by decide +kernel
theorem dX10_refuse_16 : decode cX10_refuse 16 = .ok (.iload_n 0, 1) := by decide +kernel
theorem dX10_refuse_17 : decode cX10_refuse 17 = .ok (.iconst 2, 1) := by decide +kernel
theorem dX10_refuse_18 : decode cX10_refuse 18 = .ok (.if_icmp .ne 14, 3) := by decide +kernel
theorem dX10_refuse_21 : decode cX10_refuse 21 = .ok (.new 93, 3) := by decide +kernel
theorem dX10_refuse_24 : decode cX10_refuse 24 = .ok (.dup, 1) := by decide +kernel
theorem dX10_refuse_25 : decode cX10_refuse 25 = .ok (.ldc_w 372, 3) := by decide +kernel
theorem dX10_refuse_28 : decode cX10_refuse 28 = .ok (.invokespecial 97, 3) := by decide +kernel
theorem dX10_refuse_31 : decode cX10_refuse 31 = .ok (.athrow, 1) := by decide +kernel
theorem dX10_refuse_32 : decode cX10_refuse 32 = .ok (.iload_n 0, 1) := by decide +kernel
theorem dX10_refuse_33 : decode cX10_refuse 33 = .ok (.iconst 3, 1) := by decide +kernel
theorem dX10_refuse_34 : decode cX10_refuse 34 = .ok (.if_icmp .ne 14, 3) := by decide +kernel
theorem dX10_refuse_37 : decode cX10_refuse 37 = .ok (.new 83, 3) := by decide +kernel
theorem dX10_refuse_40 : decode cX10_refuse 40 = .ok (.dup, 1) := by decide +kernel
theorem dX10_refuse_41 : decode cX10_refuse 41 = .ok (.ldc_w 374, 3) := by decide +kernel
theorem dX10_refuse_44 : decode cX10_refuse 44 = .ok (.invokespecial 87, 3) := by decide +kernel
theorem dX10_refuse_47 : decode cX10_refuse 47 = .ok (.athrow, 1) := by decide +kernel
theorem dX10_refuse_48 : decode cX10_refuse 48 = .ok (.return_, 1) := by decide +kernel
theorem dX10_isIn_0 : decode cX10_isIn 0 = .ok (.iload_n 0, 1) := by decide +kernel
theorem dX10_isIn_1 : decode cX10_isIn 1 = .ok (.iload_n 1, 1) := by decide +kernel
theorem dX10_isIn_2 : decode cX10_isIn 2 = .ok (.ishr, 1) := by decide +kernel
theorem dX10_isIn_3 : decode cX10_isIn 3 = .ok (.iconst 1, 1) := by decide +kernel
theorem dX10_isIn_4 : decode cX10_isIn 4 = .ok (.iand, 1) := by decide +kernel
theorem dX10_isIn_5 : decode cX10_isIn 5 = .ok (.ifCond .eq 7, 3) := by decide +kernel
theorem dX10_isIn_8 : decode cX10_isIn 8 = .ok (.iconst 1, 1) := by decide +kernel
theorem dX10_isIn_9 : decode cX10_isIn 9 = .ok (.goto 4, 3) := by decide +kernel
theorem dX10_isIn_12 : decode cX10_isIn 12 = .ok (.iconst 0, 1) := by decide +kernel
theorem dX10_isIn_13 : decode cX10_isIn 13 = .ok (.ireturn, 1) := by decide +kernel
theorem dX11_init_0 : decode cX11_init 0 = .ok (.aload_n 0, 1) := by decide +kernel
theorem dX11_init_1 : decode cX11_init 1 = .ok (.invokespecial 1, 3) := by decide +kernel
theorem dX11_init_4 : decode cX11_init 4 = .ok (.aload_n 0, 1) := by decide +kernel
theorem dX11_init_5 : decode cX11_init 5 = .ok (.bipush 8, 2) := by decide +kernel
theorem dX11_init_7 : decode cX11_init 7 = .ok (.iconst 5, 1) := by decide +kernel
theorem dX11_init_8 : decode cX11_init 8 = .ok (.multianewarray 7 2, 4) := by decide +kernel
theorem dX11_init_12 : decode cX11_init 12 = .ok (.putfield 9, 3) := by decide +kernel
theorem dX11_init_15 : decode cX11_init 15 = .ok (.aload_n 0, 1) := by decide +kernel
theorem dX11_init_16 : decode cX11_init 16 = .ok (.bipush 8, 2) := by decide +kernel
theorem dX11_init_18 : decode cX11_init 18 = .ok (.newarray .int, 2) := by decide +kernel
theorem dX11_init_20 : decode cX11_init 20 = .ok (.putfield 14, 3) := by decide +kernel
theorem dX11_init_23 : decode cX11_init 23 = .ok (.aload_n 0, 1) := by decide +kernel
theorem dX11_init_24 : decode cX11_init 24 = .ok (.bipush 8, 2) := by decide +kernel
theorem dX11_init_26 : decode cX11_init 26 = .ok (.newarray .int, 2) := by decide +kernel
theorem dX11_init_28 : decode cX11_init 28 = .ok (.putfield 18, 3) := by decide +kernel
theorem dX11_init_31 : decode cX11_init 31 = .ok (.aload_n 0, 1) := by decide +kernel
theorem dX11_init_32 : decode cX11_init 32 = .ok (.bipush 8, 2) := by decide +kernel
theorem dX11_init_34 : decode cX11_init 34 = .ok (.newarray .int, 2) := by decide +kernel
theorem dX11_init_36 : decode cX11_init 36 = .ok (.putfield 21, 3) := by decide +kernel
theorem dX11_init_39 : decode cX11_init 39 = .ok (.aload_n 0, 1) := by decide +kernel
theorem dX11_init_40 : decode cX11_init 40 = .ok (.aload_n 1, 1) := by decide +kernel
theorem dX11_init_41 : decode cX11_init 41 = .ok (.putfield 24, 3) := by decide +kernel
theorem dX11_init_44 : decode cX11_init 44 = .ok (.aload_n 0, 1) := by decide +kernel
theorem dX11_init_45 : decode cX11_init 45 = .ok (.aload_n 1, 1) := by decide +kernel
theorem dX11_init_46 : decode cX11_init 46 = .ok (.invokevirtual 28, 3) := by decide +kernel
theorem dX11_init_49 : decode cX11_init 49 = .ok (.putfield 34, 3) := by decide +kernel
theorem dX11_init_52 : decode cX11_init 52 = .ok (.aload_n 0, 1) := by decide +kernel
theorem dX11_init_53 : decode cX11_init 53 = .ok (.aload_n 1, 1) := by decide +kernel
theorem dX11_init_54 : decode cX11_init 54 = .ok (.invokevirtual 38, 3) := by decide +kernel
theorem dX11_init_57 : decode cX11_init 57 = .ok (.putfield 41, 3) := by decide +kernel
theorem dX11_init_60 : decode cX11_init 60 = .ok (.return_, 1) := by decide +kernel
theorem dX11_read_0 : decode cX11_read 0 = .ok (.aload_n 0, 1) := by decide +kernel
theorem dX11_read_1 : decode cX11_read 1 = .ok (.aload_n 0, 1) := by decide +kernel
theorem dX11_read_2 : decode cX11_read 2 = .ok (.getfield 24, 3) := by decide +kernel
theorem dX11_read_5 : decode cX11_read 5 = .ok (.invokevirtual 44, 3) := by decide +kernel
theorem dX11_read_8 : decode cX11_read 8 = .ok (.putfield 47, 3) := by decide +kernel
theorem dX11_read_11 : decode cX11_read 11 = .ok (.aload_n 0, 1) := by decide +kernel
theorem dX11_read_12 : decode cX11_read 12 = .ok (.aload_n 0, 1) := by decide +kernel
theorem dX11_read_13 : decode cX11_read 13 = .ok (.getfield 24, 3) := by decide +kernel
theorem dX11_read_16 : decode cX11_read 16 = .ok (.invokevirtual 50, 3) := by decide +kernel
theorem dX11_read_19 : decode cX11_read 19 = .ok (.putfield 53, 3) := by decide +kernel
theorem dX11_read_22 : decode cX11_read 22 = .ok (.aload_n 0, 1) := by decide +kernel
theorem dX11_read_23 : decode cX11_read 23 = .ok (.aload_n 0, 1) := by decide +kernel
theorem dX11_read_24 : decode cX11_read 24 = .ok (.getfield 24, 3) := by decide +kernel
theorem dX11_read_27 : decode cX11_read 27 = .ok (.invokevirtual 56, 3) := by decide +kernel
theorem dX11_read_30 : decode cX11_read 30 = .ok (.putfield 59, 3) := by decide +kernel
theorem dX11_read_33 : decode cX11_read 33 = .ok (.iconst 0, 1) := by decide +kernel
theorem dX11_read_34 : decode cX11_read 34 = .ok (.istore_n 1, 1) := by decide +kernel
theorem dX11_read_35 : decode cX11_read 35 = .ok (.iload_n 1, 1) := by decide +kernel
theorem dX11_read_36 : decode cX11_read 36 = .ok (.aload_n 0, 1) := by decide +kernel
theorem dX11_read_37 : decode cX11_read 37 = .ok (.getfield 34, 3) := by decide +kernel
theorem dX11_read_40 : decode cX11_read 40 = .ok (.if_icmp .ge 70, 3) := by decide +kernel
theorem dX11_read_43 : decode cX11_read 43 = .ok (.aload_n 0, 1) := by decide +kernel
theorem dX11_read_44 : decode cX11_read 44 = .ok (.getfield 14, 3) := by decide +kernel
theorem dX11_read_47 : decode cX11_read 47 = .ok (.iload_n 1, 1) := by decide +kernel
theorem dX11_read_48 : decode cX11_read 48 = .ok (.aload_n 0, 1) := by decide +kernel
theorem dX11_read_49 : decode cX11_read 49 = .ok (.getfield 24, 3) := by decide +kernel
theorem dX11_read_52 : decode cX11_read 52 = .ok (.iload_n 1, 1) := by decide +kernel
theorem dX11_read_53 : decode cX11_read 53 = .ok (.invokevirtual 62, 3) := by decide +kernel
theorem dX11_read_56 : decode cX11_read 56 = .ok (.iastore, 1) := by decide +kernel
theorem dX11_read_57 : decode cX11_read 57 = .ok (.aload_n 0, 1) := by decide +kernel
theorem dX11_read_58 : decode cX11_read 58 = .ok (.getfield 18, 3) := by decide +kernel
theorem dX11_read_61 : decode cX11_read 61 = .ok (.iload_n 1, 1) := by decide +kernel
theorem dX11_read_62 : decode cX11_read 62 = .ok (.aload_n 0, 1) := by decide +kernel
theorem dX11_read_63 : decode cX11_read 63 = .ok (.getfield 24, 3) := by decide +kernel
theorem dX11_read_66 : decode cX11_read 66 = .ok (.iload_n 1, 1) := by decide +kernel
theorem dX11_read_67 : decode cX11_read 67 = .ok (.invokevirtual 66, 3) := by decide +kernel
theorem dX11_read_70 : decode cX11_read 70 = .ok (.iastore, 1) := by decide +kernel
theorem dX11_read_71 : decode cX11_read 71 = .ok (.iconst 0, 1) := by decide +kernel
theorem dX11_read_72 : decode cX11_read 72 = .ok (.istore_n 2, 1) := by decide +kernel
theorem dX11_read_73 : decode cX11_read 73 = .ok (.iload_n 2, 1) := by decide +kernel
theorem dX11_read_74 : decode cX11_read 74 = .ok (.aload_n 0, 1) := by decide +kernel
theorem dX11_read_75 : decode cX11_read 75 = .ok (.getfield 41, 3) := by decide +kernel
theorem dX11_read_78 : decode cX11_read 78 = .ok (.if_icmp .ge 26, 3) := by decide +kernel
theorem dX11_read_81 : decode cX11_read 81 = .ok (.aload_n 0, 1) := by decide +kernel
theorem dX11_read_82 : decode cX11_read 82 = .ok (.getfield 9, 3) := by decide +kernel
theorem dX11_read_85 : decode cX11_read 85 = .ok (.iload_n 1, 1) := by decide +kernel
theorem dX11_read_86 : decode cX11_read 86 = .ok (.aaload, 1) := by decide +kernel
theorem dX11_read_87 : decode cX11_read 87 = .ok (.iload_n 2, 1) := by decide +kernel
theorem dX11_read_88 : decode cX11_read 88 = .ok (.aload_n 0, 1) := by decide +kernel
theorem dX11_read_89 : decode cX11_read 89 = .ok (.getfield 24, 3) := by decide +kernel
theorem dX11_read_92 : decode cX11_read 92 = .ok (.iload_n 1, 1) := by decide +kernel
theorem dX11_read_93 : decode cX11_read 93 = .ok (.iload_n 2, 1) := by decide +kernel
theorem dX11_read_94 : decode cX11_read 94 = .ok (.invokevirtual 69, 3) := by decide +kernel
theorem dX11_read_97 : decode cX11_read 97 = .ok (.iastore, 1) := by decide +kernel
theorem dX11_read_98 : decode cX11_read 98 = .ok (.iinc 2 1, 3) := by decide +kernel
theorem dX11_read_101 : decode cX11_read 101 = .ok (.goto (-28), 3) := by decide +kernel
theorem dX11_read_104 : decode cX11_read 104 = .ok (.iinc 1 1, 3) := by decide +kernel
theorem dX11_read_107 : decode cX11_read 107 = .ok (.goto (-72), 3) := by decide +kernel
theorem dX11_read_110 : decode cX11_read 110 = .ok (.iconst 0, 1) := by decide +kernel
theorem dX11_read_111 : decode cX11_read 111 = .ok (.istore_n 1, 1) := by decide +kernel
theorem dX11_read_112 : decode cX11_read 112 = .ok (.iload_n 1, 1) := by decide +kernel
theorem dX11_read_113 : decode cX11_read 113 = .ok (.aload_n 0, 1) := by decide +kernel
theorem dX11_read_114 : decode cX11_read 114 = .ok (.getfield 47, 3) := by decide +kernel
theorem dX11_read_117 : decode cX11_read 117 = .ok (.if_icmp .ge 23, 3) := by decide +kernel
theorem dX11_read_120 : decode cX11_read 120 = .ok (.aload_n 0, 1) := by decide +kernel
theorem dX11_read_121 : decode cX11_read 121 = .ok (.getfield 21, 3) := by decide +kernel
theorem dX11_read_124 : decode cX11_read 124 = .ok (.iload_n 1, 1) := by decide +kernel
theorem dX11_read_125 : decode cX11_read 125 = .ok (.aload_n 0, 1) := by decide +kernel
theorem dX11_read_126 : decode cX11_read 126 = .ok (.getfield 24, 3) := by decide +kernel
theorem dX11_read_129 : decode cX11_read 129 = .ok (.iload_n 1, 1) := by decide +kernel
theorem dX11_read_130 : decode cX11_read 130 = .ok (.invokevirtual 73, 3) := by decide +kernel
theorem dX11_read_133 : decode cX11_read 133 = .ok (.iastore, 1) := by decide +kernel
theorem dX11_read_134 : decode cX11_read 134 = .ok (.iinc 1 1, 3) := by decide +kernel
theorem dX11_read_137 : decode cX11_read 137 = .ok (.goto (-25), 3) := by decide +kernel
theorem dX11_read_140 : decode cX11_read 140 = .ok (.return_, 1) := by decide +kernel
theorem dX11_free_0 : decode cX11_free 0 = .ok (.aload_n 0, 1) := by decide +kernel
theorem dX11_free_1 : decode cX11_free 1 = .ok (.getfield 24, 3) := by decide +kernel
theorem dX11_free_4 : decode cX11_free 4 = .ok (.iload_n 1, 1) := by decide +kernel
theorem dX11_free_5 : decode cX11_free 5 = .ok (.invokevirtual 76, 3) := by decide +kernel
theorem dX11_free_8 : decode cX11_free 8 = .ok (.istore_n 2, 1) := by decide +kernel
theorem dX11_free_9 : decode cX11_free 9 = .ok (.iconst 0, 1) := by decide +kernel
theorem dX11_free_10 : decode cX11_free 10 = .ok (.istore_n 3, 1) := by decide +kernel
theorem dX11_free_11 : decode cX11_free 11 = .ok (.iload_n 3, 1) := by decide +kernel
theorem dX11_free_12 : decode cX11_free 12 = .ok (.aload_n 0, 1) := by decide +kernel
theorem dX11_free_13 : decode cX11_free 13 = .ok (.getfield 34, 3) := by decide +kernel
theorem dX11_free_16 : decode cX11_free 16 = .ok (.if_icmp .ge 20, 3) := by decide +kernel
theorem dX11_free_19 : decode cX11_free 19 = .ok (.iload_n 2, 1) := by decide +kernel
theorem dX11_free_20 : decode cX11_free 20 = .ok (.aload_n 0, 1) := by decide +kernel
theorem dX11_free_21 : decode cX11_free 21 = .ok (.getfield 9, 3) := by decide +kernel
theorem dX11_free_24 : decode cX11_free 24 = .ok (.iload_n 3, 1) := by decide +kernel
theorem dX11_free_25 : decode cX11_free 25 = .ok (.aaload, 1) := by decide +kernel
theorem dX11_free_26 : decode cX11_free 26 = .ok (.iload_n 1, 1) := by decide +kernel
theorem dX11_free_27 : decode cX11_free 27 = .ok (.iaload, 1) := by decide +kernel
theorem dX11_free_28 : decode cX11_free 28 = .ok (.isub, 1) := by decide +kernel
theorem dX11_free_29 : decode cX11_free 29 = .ok (.istore_n 2, 1) := by decide +kernel
theorem dX11_free_30 : decode cX11_free 30 = .ok (.iinc 3 1, 3) := by decide +kernel
theorem dX11_free_33 : decode cX11_free 33 = .ok (.goto (-22), 3) := by decide +kernel
theorem dX11_free_36 : decode cX11_free 36 = .ok (.iload_n 2, 1) := by decide +kernel
theorem dX11_free_37 : decode cX11_free 37 = .ok (.ireturn, 1) := by decide +kernel
theorem dX11_canFinish_0 : decode cX11_canFinish 0 = .ok (.iload_n 1, 1) := by decide +kernel
theorem dX11_canFinish_1 : decode cX11_canFinish 1 = .ok (.iconst 1, 1) := by decide +kernel
theorem dX11_canFinish_2 : decode cX11_canFinish 2 = .ok (.aload_n 0, 1) := by decide +kernel
theorem dX11_canFinish_3 : decode cX11_canFinish 3 = .ok (.getfield 34, 3) := by decide +kernel
theorem dX11_canFinish_6 : decode cX11_canFinish 6 = .ok (.ishl, 1) := by decide +kernel
theorem dX11_canFinish_7 : decode cX11_canFinish 7 = .ok (.iconst 1, 1) := by decide +kernel
theorem dX11_canFinish_8 : decode cX11_canFinish 8 = .ok (.isub, 1) := by decide +kernel
theorem dX11_canFinish_9 : decode cX11_canFinish 9 = .ok (.if_icmp .ne 5, 3) := by decide +kernel
theorem dX11_canFinish_12 : decode cX11_canFinish 12 = .ok (.iconst 1, 1) := by decide +kernel
theorem dX11_canFinish_13 : decode cX11_canFinish 13 = .ok (.ireturn, 1) := by decide +kernel
theorem dX11_canFinish_14 : decode cX11_canFinish 14 = .ok (.aload_n 2, 1) := by decide +kernel
theorem dX11_canFinish_15 : decode cX11_canFinish 15 = .ok (.iload_n 1, 1) := by decide +kernel
theorem dX11_canFinish_16 : decode cX11_canFinish 16 = .ok (.baload, 1) := by decide +kernel
theorem dX11_canFinish_17 : decode cX11_canFinish 17 = .ok (.ifCond .eq 5, 3) := by decide +kernel
theorem dX11_canFinish_20 : decode cX11_canFinish 20 = .ok (.iconst 0, 1) := by decide +kernel
theorem dX11_canFinish_21 : decode cX11_canFinish 21 = .ok (.ireturn, 1) := by decide +kernel
theorem dX11_canFinish_22 : decode cX11_canFinish 22 = .ok (.aload_n 2, 1) := by decide +kernel
theorem dX11_canFinish_23 : decode cX11_canFinish 23 = .ok (.iload_n 1, 1) := by decide +kernel
theorem dX11_canFinish_24 : decode cX11_canFinish 24 = .ok (.iconst 1, 1) := by decide +kernel
theorem dX11_canFinish_25 : decode cX11_canFinish 25 = .ok (.bastore, 1) := by decide +kernel
theorem dX11_canFinish_26 : decode cX11_canFinish 26 = .ok (.iconst 0, 1) := by decide +kernel
theorem dX11_canFinish_27 : decode cX11_canFinish 27 = .ok (.istore_n 3, 1) := by decide +kernel
theorem dX11_canFinish_28 : decode cX11_canFinish 28 = .ok (.iload_n 3, 1) := by decide +kernel
theorem dX11_canFinish_29 : decode cX11_canFinish 29 = .ok (.aload_n 0, 1) := by decide +kernel
theorem dX11_canFinish_30 : decode cX11_canFinish 30 = .ok (.getfield 34, 3) := by decide +kernel
theorem dX11_canFinish_33 : decode cX11_canFinish 33 = .ok (.if_icmp .ge 147, 3) := by decide +kernel
theorem dX11_canFinish_36 : decode cX11_canFinish 36 = .ok (.iload_n 1, 1) := by decide +kernel
theorem dX11_canFinish_37 : decode cX11_canFinish 37 = .ok (.iload_n 3, 1) := by decide +kernel
theorem dX11_canFinish_38 : decode cX11_canFinish 38 = .ok (.ishr, 1) := by decide +kernel
theorem dX11_canFinish_39 : decode cX11_canFinish 39 = .ok (.iconst 1, 1) := by decide +kernel
theorem dX11_canFinish_40 : decode cX11_canFinish 40 = .ok (.iand, 1) := by decide +kernel
theorem dX11_canFinish_41 : decode cX11_canFinish 41 = .ok (.iconst 1, 1) := by decide +kernel
theorem dX11_canFinish_42 : decode cX11_canFinish 42 = .ok (.if_icmp .ne 6, 3) := by decide +kernel
theorem dX11_canFinish_45 : decode cX11_canFinish 45 = .ok (.goto 129, 3) := by decide +kernel
theorem dX11_canFinish_48 : decode cX11_canFinish 48 = .ok (.iconst 1, 1) := by decide +kernel
theorem dX11_canFinish_49 : decode cX11_canFinish 49 = .ok (.istore 4, 2) := by decide +kernel
theorem dX11_canFinish_51 : decode cX11_canFinish 51 = .ok (.iconst 0, 1) := by decide +kernel
theorem dX11_canFinish_52 : decode cX11_canFinish 52 = .ok (.istore 5, 2) := by decide +kernel
theorem dX11_canFinish_54 : decode cX11_canFinish 54 = .ok (.iload 5, 2) := by decide +kernel
theorem dX11_canFinish_56 : decode cX11_canFinish 56 = .ok (.aload_n 0, 1) := by decide +kernel
theorem dX11_canFinish_57 : decode cX11_canFinish 57 = .ok (.getfield 41, 3) := by decide +kernel
theorem dX11_canFinish_60 : decode cX11_canFinish 60 = .ok (.if_icmp .ge 94, 3) := by decide +kernel
theorem dX11_canFinish_63 : decode cX11_canFinish 63 = .ok (.aload_n 0, 1) := by decide +kernel
theorem dX11_canFinish_64 : decode cX11_canFinish 64 = .ok (.iload 5, 2) := by decide +kernel
theorem dX11_canFinish_66 : decode cX11_canFinish 66 = .ok (.invokevirtual 79, 3) := by decide +kernel
theorem dX11_canFinish_69 : decode cX11_canFinish 69 = .ok (.istore 6, 2) := by decide +kernel
theorem dX11_canFinish_71 : decode cX11_canFinish 71 = .ok (.iconst 0, 1) := by decide +kernel
theorem dX11_canFinish_72 : decode cX11_canFinish 72 = .ok (.istore 7, 2) := by decide +kernel
theorem dX11_canFinish_74 : decode cX11_canFinish 74 = .ok (.iload 7, 2) := by decide +kernel
theorem dX11_canFinish_76 : decode cX11_canFinish 76 = .ok (.aload_n 0, 1) := by decide +kernel
theorem dX11_canFinish_77 : decode cX11_canFinish 77 = .ok (.getfield 34, 3) := by decide +kernel
theorem dX11_canFinish_80 : decode cX11_canFinish 80 = .ok (.if_icmp .ge 31, 3) := by decide +kernel
theorem dX11_canFinish_83 : decode cX11_canFinish 83 = .ok (.iload 6, 2) := by decide +kernel
theorem dX11_canFinish_85 : decode cX11_canFinish 85 = .ok (.iload_n 1, 1) := by decide +kernel
theorem dX11_canFinish_86 : decode cX11_canFinish 86 = .ok (.iload 7, 2) := by decide +kernel
theorem dX11_canFinish_88 : decode cX11_canFinish 88 = .ok (.ishr, 1) := by decide +kernel
theorem dX11_canFinish_89 : decode cX11_canFinish 89 = .ok (.iconst 1, 1) := by decide +kernel
theorem dX11_canFinish_90 : decode cX11_canFinish 90 = .ok (.iand, 1) := by decide +kernel
theorem dX11_canFinish_91 : decode cX11_canFinish 91 = .ok (.aload_n 0, 1) := by decide +kernel
theorem dX11_canFinish_92 : decode cX11_canFinish 92 = .ok (.getfield 9, 3) := by decide +kernel
theorem dX11_canFinish_95 : decode cX11_canFinish 95 = .ok (.iload 7, 2) := by decide +kernel
theorem dX11_canFinish_97 : decode cX11_canFinish 97 = .ok (.aaload, 1) := by decide +kernel
theorem dX11_canFinish_98 : decode cX11_canFinish 98 = .ok (.iload 5, 2) := by decide +kernel
theorem dX11_canFinish_100 : decode cX11_canFinish 100 = .ok (.iaload, 1) := by decide +kernel
theorem dX11_canFinish_101 : decode cX11_canFinish 101 = .ok (.imul, 1) := by decide +kernel
theorem dX11_canFinish_102 : decode cX11_canFinish 102 = .ok (.iadd, 1) := by decide +kernel
theorem dX11_canFinish_103 : decode cX11_canFinish 103 = .ok (.istore 6, 2) := by decide +kernel
theorem dX11_canFinish_105 : decode cX11_canFinish 105 = .ok (.iinc 7 1, 3) := by decide +kernel
theorem dX11_canFinish_108 : decode cX11_canFinish 108 = .ok (.goto (-34), 3) := by decide +kernel
theorem dX11_canFinish_111 : decode cX11_canFinish 111 = .ok (.iload 4, 2) := by decide +kernel
theorem dX11_canFinish_113 : decode cX11_canFinish 113 = .ok (.ifCond .eq 32, 3) := by decide +kernel
theorem dX11_canFinish_116 : decode cX11_canFinish 116 = .ok (.aload_n 0, 1) := by decide +kernel
theorem dX11_canFinish_117 : decode cX11_canFinish 117 = .ok (.getfield 24, 3) := by decide +kernel
theorem dX11_canFinish_120 : decode cX11_canFinish 120 = .ok (.iload_n 3, 1) := by decide +kernel
theorem dX11_canFinish_121 : decode cX11_canFinish 121 = .ok (.iload 5, 2) := by decide +kernel
theorem dX11_canFinish_123 : decode cX11_canFinish 123 = .ok (.invokevirtual 82, 3) := by decide +kernel
theorem dX11_canFinish_126 : decode cX11_canFinish 126 = .ok (.aload_n 0, 1) := by decide +kernel
theorem dX11_canFinish_127 : decode cX11_canFinish 127 = .ok (.getfield 9, 3) := by decide +kernel
theorem dX11_canFinish_130 : decode cX11_canFinish 130 = .ok (.iload_n 3, 1) := by decide +kernel
theorem dX11_canFinish_131 : decode cX11_canFinish 131 = .ok (.aaload, 1) := by decide +kernel
theorem dX11_canFinish_132 : decode cX11_canFinish 132 = .ok (.iload 5, 2) := by decide +kernel
theorem dX11_canFinish_134 : decode cX11_canFinish 134 = .ok (.iaload, 1) := by decide +kernel
theorem dX11_canFinish_135 : decode cX11_canFinish 135 = .ok (.isub, 1) := by decide +kernel
theorem dX11_canFinish_136 : decode cX11_canFinish 136 = .ok (.iload 6, 2) := by decide +kernel
theorem dX11_canFinish_138 : decode cX11_canFinish 138 = .ok (.if_icmp .gt 7, 3) := by decide +kernel
theorem dX11_canFinish_141 : decode cX11_canFinish 141 = .ok (.iconst 1, 1) := by decide +kernel
theorem dX11_canFinish_142 : decode cX11_canFinish 142 = .ok (.goto 4, 3) := by decide +kernel
theorem dX11_canFinish_145 : decode cX11_canFinish 145 = .ok (.iconst 0, 1) := by decide +kernel
theorem dX11_canFinish_146 : decode cX11_canFinish 146 = .ok (.istore 4, 2) := by decide +kernel
theorem dX11_canFinish_148 : decode cX11_canFinish 148 = .ok (.iinc 5 1, 3) := by decide +kernel
theorem dX11_canFinish_151 : decode cX11_canFinish 151 = .ok (.goto (-97), 3) := by decide +kernel
theorem dX11_canFinish_154 : decode cX11_canFinish 154 = .ok (.iload 4, 2) := by decide +kernel
theorem dX11_canFinish_156 : decode cX11_canFinish 156 = .ok (.ifCond .eq 18, 3) := by decide +kernel
theorem dX11_canFinish_159 : decode cX11_canFinish 159 = .ok (.aload_n 0, 1) := by decide +kernel
theorem dX11_canFinish_160 : decode cX11_canFinish 160 = .ok (.iload_n 1, 1) := by decide +kernel
theorem dX11_canFinish_161 : decode cX11_canFinish 161 = .ok (.iconst 1, 1) := by decide +kernel
theorem dX11_canFinish_162 : decode cX11_canFinish 162 = .ok (.iload_n 3, 1) := by decide +kernel
theorem dX11_canFinish_163 : decode cX11_canFinish 163 = .ok (.ishl, 1) := by decide +kernel
theorem dX11_canFinish_164 : decode cX11_canFinish 164 = .ok (.ior, 1) := by decide +kernel
theorem dX11_canFinish_165 : decode cX11_canFinish 165 = .ok (.aload_n 2, 1) := by decide +kernel
theorem dX11_canFinish_166 : decode cX11_canFinish 166 = .ok (.invokevirtual 85, 3) := by decide +kernel
theorem dX11_canFinish_169 : decode cX11_canFinish 169 = .ok (.ifCond .eq 5, 3) := by decide +kernel
theorem dX11_canFinish_172 : decode cX11_canFinish 172 = .ok (.iconst 1, 1) := by decide +kernel
theorem dX11_canFinish_173 : decode cX11_canFinish 173 = .ok (.ireturn, 1) := by decide +kernel
theorem dX11_canFinish_174 : decode cX11_canFinish 174 = .ok (.iinc 3 1, 3) := by decide +kernel
theorem dX11_canFinish_177 : decode cX11_canFinish 177 = .ok (.goto (-149), 3) := by decide +kernel
theorem dX11_canFinish_180 : decode cX11_canFinish 180 = .ok (.iconst 0, 1) := by decide +kernel
theorem dX11_canFinish_181 : decode cX11_canFinish 181 = .ok (.ireturn, 1) := by decide +kernel
theorem dX11_isSafe_0 : decode cX11_isSafe 0 = .ok (.aload_n 0, 1) := by decide +kernel
theorem dX11_isSafe_1 : decode cX11_isSafe 1 = .ok (.iconst 0, 1) := by decide +kernel
theorem dX11_isSafe_2 : decode cX11_isSafe 2 = .ok (.sipush 256, 3) := by decide +kernel
theorem dX11_isSafe_5 : decode cX11_isSafe 5 = .ok (.newarray .boolean, 2) := by decide +kernel
theorem dX11_isSafe_7 : decode cX11_isSafe 7 = .ok (.invokevirtual 85, 3) := by decide +kernel
theorem dX11_isSafe_10 : decode cX11_isSafe 10 = .ok (.ireturn, 1) := by decide +kernel
theorem dX11_grants_0 : decode cX11_grants 0 = .ok (.iload_n 3, 1) := by decide +kernel
theorem dX11_grants_1 : decode cX11_grants 1 = .ok (.aload_n 0, 1) := by decide +kernel
theorem dX11_grants_2 : decode cX11_grants 2 = .ok (.iload_n 2, 1) := by decide +kernel
theorem dX11_grants_3 : decode cX11_grants 3 = .ok (.invokevirtual 79, 3) := by decide +kernel
theorem dX11_grants_6 : decode cX11_grants 6 = .ok (.if_icmp .le 5, 3) := by decide +kernel
theorem dX11_grants_9 : decode cX11_grants 9 = .ok (.iconst 0, 1) := by decide +kernel
theorem dX11_grants_10 : decode cX11_grants 10 = .ok (.ireturn, 1) := by decide +kernel
theorem dX11_grants_11 : decode cX11_grants 11 = .ok (.aload_n 0, 1) := by decide +kernel
theorem dX11_grants_12 : decode cX11_grants 12 = .ok (.getfield 9, 3) := by decide +kernel
theorem dX11_grants_15 : decode cX11_grants 15 = .ok (.iload_n 1, 1) := by decide +kernel
theorem dX11_grants_16 : decode cX11_grants 16 = .ok (.aaload, 1) := by decide +kernel
theorem dX11_grants_17 : decode cX11_grants 17 = .ok (.iload_n 2, 1) := by decide +kernel
theorem dX11_grants_18 : decode cX11_grants 18 = .ok (.dup2, 1) := by decide +kernel
theorem dX11_grants_19 : decode cX11_grants 19 = .ok (.iaload, 1) := by decide +kernel
theorem dX11_grants_20 : decode cX11_grants 20 = .ok (.iload_n 3, 1) := by decide +kernel
theorem dX11_grants_21 : decode cX11_grants 21 = .ok (.iadd, 1) := by decide +kernel
theorem dX11_grants_22 : decode cX11_grants 22 = .ok (.iastore, 1) := by decide +kernel
theorem dX11_grants_23 : decode cX11_grants 23 = .ok (.aload_n 0, 1) := by decide +kernel
theorem dX11_grants_24 : decode cX11_grants 24 = .ok (.invokevirtual 89, 3) := by decide +kernel
theorem dX11_grants_27 : decode cX11_grants 27 = .ok (.ifCond .eq 5, 3) := by decide +kernel
theorem dX11_grants_30 : decode cX11_grants 30 = .ok (.iconst 1, 1) := by decide +kernel
theorem dX11_grants_31 : decode cX11_grants 31 = .ok (.ireturn, 1) := by decide +kernel
theorem dX11_grants_32 : decode cX11_grants 32 = .ok (.aload_n 0, 1) := by decide +kernel
theorem dX11_grants_33 : decode cX11_grants 33 = .ok (.getfield 9, 3) := by decide +kernel
theorem dX11_grants_36 : decode cX11_grants 36 = .ok (.iload_n 1, 1) := by decide +kernel
theorem dX11_grants_37 : decode cX11_grants 37 = .ok (.aaload, 1) := by decide +kernel
theorem dX11_grants_38 : decode cX11_grants 38 = .ok (.iload_n 2, 1) := by decide +kernel
theorem dX11_grants_39 : decode cX11_grants 39 = .ok (.dup2, 1) := by decide +kernel
theorem dX11_grants_40 : decode cX11_grants 40 = .ok (.iaload, 1) := by decide +kernel
theorem dX11_grants_41 : decode cX11_grants 41 = .ok (.iload_n 3, 1) := by decide +kernel
theorem dX11_grants_42 : decode cX11_grants 42 = .ok (.isub, 1) := by decide +kernel
theorem dX11_grants_43 : decode cX11_grants 43 = .ok (.iastore, 1) := by decide +kernel
theorem dX11_grants_44 : decode cX11_grants 44 = .ok (.iconst 0, 1) := by decide +kernel
theorem dX11_grants_45 : decode cX11_grants 45 = .ok (.ireturn, 1) := by decide +kernel
theorem dX11_leave_0 : decode cX11_leave 0 = .ok (.aload_n 0, 1) := by decide +kernel
theorem dX11_leave_1 : decode cX11_leave 1 = .ok (.getfield 14, 3) := by decide +kernel
theorem dX11_leave_4 : decode cX11_leave 4 = .ok (.aload_n 0, 1) := by decide +kernel
theorem dX11_leave_5 : decode cX11_leave 5 = .ok (.getfield 21, 3) := by decide +kernel
theorem dX11_leave_8 : decode cX11_leave 8 = .ok (.iload_n 1, 1) := by decide +kernel
theorem dX11_leave_9 : decode cX11_leave 9 = .ok (.iaload, 1) := by decide +kernel
theorem dX11_leave_10 : decode cX11_leave 10 = .ok (.iconst (-1), 1) := by decide +kernel
theorem dX11_leave_11 : decode cX11_leave 11 = .ok (.iastore, 1) := by decide +kernel
theorem dX11_leave_12 : decode cX11_leave 12 = .ok (.aload_n 0, 1) := by decide +kernel
theorem dX11_leave_13 : decode cX11_leave 13 = .ok (.getfield 18, 3) := by decide +kernel
theorem dX11_leave_16 : decode cX11_leave 16 = .ok (.aload_n 0, 1) := by decide +kernel
theorem dX11_leave_17 : decode cX11_leave 17 = .ok (.getfield 21, 3) := by decide +kernel
theorem dX11_leave_20 : decode cX11_leave 20 = .ok (.iload_n 1, 1) := by decide +kernel
theorem dX11_leave_21 : decode cX11_leave 21 = .ok (.iaload, 1) := by decide +kernel
theorem dX11_leave_22 : decode cX11_leave 22 = .ok (.iconst 0, 1) := by decide +kernel
theorem dX11_leave_23 : decode cX11_leave 23 = .ok (.iastore, 1) := by decide +kernel
theorem dX11_leave_24 : decode cX11_leave 24 = .ok (.aload_n 0, 1) := by decide +kernel
theorem dX11_leave_25 : decode cX11_leave 25 = .ok (.dup, 1) := by decide +kernel
theorem dX11_leave_26 : decode cX11_leave 26 = .ok (.getfield 47, 3) := by decide +kernel
theorem dX11_leave_29 : decode cX11_leave 29 = .ok (.iconst 1, 1) := by decide +kernel
theorem dX11_leave_30 : decode cX11_leave 30 = .ok (.isub, 1) := by decide +kernel
theorem dX11_leave_31 : decode cX11_leave 31 = .ok (.putfield 47, 3) := by decide +kernel
theorem dX11_leave_34 : decode cX11_leave 34 = .ok (.iload_n 1, 1) := by decide +kernel
theorem dX11_leave_35 : decode cX11_leave 35 = .ok (.istore_n 2, 1) := by decide +kernel
theorem dX11_leave_36 : decode cX11_leave 36 = .ok (.iload_n 2, 1) := by decide +kernel
theorem dX11_leave_37 : decode cX11_leave 37 = .ok (.aload_n 0, 1) := by decide +kernel
theorem dX11_leave_38 : decode cX11_leave 38 = .ok (.getfield 47, 3) := by decide +kernel
theorem dX11_leave_41 : decode cX11_leave 41 = .ok (.if_icmp .ge 23, 3) := by decide +kernel
theorem dX11_leave_44 : decode cX11_leave 44 = .ok (.aload_n 0, 1) := by decide +kernel
theorem dX11_leave_45 : decode cX11_leave 45 = .ok (.getfield 21, 3) := by decide +kernel
theorem dX11_leave_48 : decode cX11_leave 48 = .ok (.iload_n 2, 1) := by decide +kernel
theorem dX11_leave_49 : decode cX11_leave 49 = .ok (.aload_n 0, 1) := by decide +kernel
theorem dX11_leave_50 : decode cX11_leave 50 = .ok (.getfield 21, 3) := by decide +kernel
theorem dX11_leave_53 : decode cX11_leave 53 = .ok (.iload_n 2, 1) := by decide +kernel
theorem dX11_leave_54 : decode cX11_leave 54 = .ok (.iconst 1, 1) := by decide +kernel
theorem dX11_leave_55 : decode cX11_leave 55 = .ok (.iadd, 1) := by decide +kernel
theorem dX11_leave_56 : decode cX11_leave 56 = .ok (.iaload, 1) := by decide +kernel
theorem dX11_leave_57 : decode cX11_leave 57 = .ok (.iastore, 1) := by decide +kernel
theorem dX11_leave_58 : decode cX11_leave 58 = .ok (.iinc 2 1, 3) := by decide +kernel
theorem dX11_leave_61 : decode cX11_leave 61 = .ok (.goto (-25), 3) := by decide +kernel
theorem dX11_leave_64 : decode cX11_leave 64 = .ok (.return_, 1) := by decide +kernel
theorem dX11_process_0 : decode cX11_process 0 = .ok (.iconst 0, 1) := by decide +kernel
theorem dX11_process_1 : decode cX11_process 1 = .ok (.istore_n 1, 1) := by decide +kernel
theorem dX11_process_2 : decode cX11_process 2 = .ok (.iconst 1, 1) := by decide +kernel
theorem dX11_process_3 : decode cX11_process 3 = .ok (.istore_n 2, 1) := by decide +kernel
theorem dX11_process_4 : decode cX11_process 4 = .ok (.iload_n 2, 1) := by decide +kernel
theorem dX11_process_5 : decode cX11_process 5 = .ok (.ifCond .eq 71, 3) := by decide +kernel
theorem dX11_process_8 : decode cX11_process 8 = .ok (.iconst 0, 1) := by decide +kernel
theorem dX11_process_9 : decode cX11_process 9 = .ok (.istore_n 2, 1) := by decide +kernel
theorem dX11_process_10 : decode cX11_process 10 = .ok (.iconst 0, 1) := by decide +kernel
theorem dX11_process_11 : decode cX11_process 11 = .ok (.istore_n 3, 1) := by decide +kernel
theorem dX11_process_12 : decode cX11_process 12 = .ok (.iload_n 3, 1) := by decide +kernel
theorem dX11_process_13 : decode cX11_process 13 = .ok (.aload_n 0, 1) := by decide +kernel
theorem dX11_process_14 : decode cX11_process 14 = .ok (.getfield 47, 3) := by decide +kernel
theorem dX11_process_17 : decode cX11_process 17 = .ok (.if_icmp .ge 56, 3) := by decide +kernel
theorem dX11_process_20 : decode cX11_process 20 = .ok (.aload_n 0, 1) := by decide +kernel
theorem dX11_process_21 : decode cX11_process 21 = .ok (.getfield 21, 3) := by decide +kernel
theorem dX11_process_24 : decode cX11_process 24 = .ok (.iload_n 3, 1) := by decide +kernel
theorem dX11_process_25 : decode cX11_process 25 = .ok (.iaload, 1) := by decide +kernel
theorem dX11_process_26 : decode cX11_process 26 = .ok (.istore 4, 2) := by decide +kernel
theorem dX11_process_28 : decode cX11_process 28 = .ok (.aload_n 0, 1) := by decide +kernel
theorem dX11_process_29 : decode cX11_process 29 = .ok (.iload 4, 2) := by decide +kernel
theorem dX11_process_31 : decode cX11_process 31 = .ok (.aload_n 0, 1) := by decide +kernel
theorem dX11_process_32 : decode cX11_process 32 = .ok (.getfield 14, 3) := by decide +kernel
theorem dX11_process_35 : decode cX11_process 35 = .ok (.iload 4, 2) := by decide +kernel
theorem dX11_process_37 : decode cX11_process 37 = .ok (.iaload, 1) := by decide +kernel
theorem dX11_process_38 : decode cX11_process 38 = .ok (.aload_n 0, 1) := by decide +kernel
theorem dX11_process_39 : decode cX11_process 39 = .ok (.getfield 18, 3) := by decide +kernel
theorem dX11_process_42 : decode cX11_process 42 = .ok (.iload 4, 2) := by decide +kernel
theorem dX11_process_44 : decode cX11_process 44 = .ok (.iaload, 1) := by decide +kernel
theorem dX11_process_45 : decode cX11_process 45 = .ok (.invokevirtual 93, 3) := by decide +kernel
theorem dX11_process_48 : decode cX11_process 48 = .ok (.ifCond .ne 6, 3) := by decide +kernel
theorem dX11_process_51 : decode cX11_process 51 = .ok (.goto 16, 3) := by decide +kernel
theorem dX11_process_54 : decode cX11_process 54 = .ok (.aload_n 0, 1) := by decide +kernel
theorem dX11_process_55 : decode cX11_process 55 = .ok (.iload_n 3, 1) := by decide +kernel
theorem dX11_process_56 : decode cX11_process 56 = .ok (.invokevirtual 97, 3) := by decide +kernel
theorem dX11_process_59 : decode cX11_process 59 = .ok (.iinc 3 (-1), 3) := by decide +kernel
theorem dX11_process_62 : decode cX11_process 62 = .ok (.iinc 1 1, 3) := by decide +kernel
theorem dX11_process_65 : decode cX11_process 65 = .ok (.iconst 1, 1) := by decide +kernel
theorem dX11_process_66 : decode cX11_process 66 = .ok (.istore_n 2, 1) := by decide +kernel
theorem dX11_process_67 : decode cX11_process 67 = .ok (.iinc 3 1, 3) := by decide +kernel
theorem dX11_process_70 : decode cX11_process 70 = .ok (.goto (-58), 3) := by decide +kernel
theorem dX11_process_73 : decode cX11_process 73 = .ok (.goto (-69), 3) := by decide +kernel
theorem dX11_process_76 : decode cX11_process 76 = .ok (.aload_n 0, 1) := by decide +kernel
theorem dX11_process_77 : decode cX11_process 77 = .ok (.dup, 1) := by decide +kernel
theorem dX11_process_78 : decode cX11_process 78 = .ok (.getfield 59, 3) := by decide +kernel
theorem dX11_process_81 : decode cX11_process 81 = .ok (.iload_n 1, 1) := by decide +kernel
theorem dX11_process_82 : decode cX11_process 82 = .ok (.iadd, 1) := by decide +kernel
theorem dX11_process_83 : decode cX11_process 83 = .ok (.putfield 59, 3) := by decide +kernel
theorem dX11_process_86 : decode cX11_process 86 = .ok (.iload_n 1, 1) := by decide +kernel
theorem dX11_process_87 : decode cX11_process 87 = .ok (.ireturn, 1) := by decide +kernel
theorem dX11_request_0 : decode cX11_request 0 = .ok (.aload_n 0, 1) := by decide +kernel
theorem dX11_request_1 : decode cX11_request 1 = .ok (.iload_n 1, 1) := by decide +kernel
theorem dX11_request_2 : decode cX11_request 2 = .ok (.iload_n 2, 1) := by decide +kernel
theorem dX11_request_3 : decode cX11_request 3 = .ok (.iload_n 3, 1) := by decide +kernel
theorem dX11_request_4 : decode cX11_request 4 = .ok (.invokevirtual 93, 3) := by decide +kernel
theorem dX11_request_7 : decode cX11_request 7 = .ok (.ifCond .eq 15, 3) := by decide +kernel
theorem dX11_request_10 : decode cX11_request 10 = .ok (.aload_n 0, 1) := by decide +kernel
theorem dX11_request_11 : decode cX11_request 11 = .ok (.dup, 1) := by decide +kernel
theorem dX11_request_12 : decode cX11_request 12 = .ok (.getfield 53, 3) := by decide +kernel
theorem dX11_request_15 : decode cX11_request 15 = .ok (.iconst 1, 1) := by decide +kernel
theorem dX11_request_16 : decode cX11_request 16 = .ok (.iadd, 1) := by decide +kernel
theorem dX11_request_17 : decode cX11_request 17 = .ok (.putfield 53, 3) := by decide +kernel
theorem dX11_request_20 : decode cX11_request 20 = .ok (.iconst 1, 1) := by decide +kernel
theorem dX11_request_21 : decode cX11_request 21 = .ok (.ireturn, 1) := by decide +kernel
theorem dX11_request_22 : decode cX11_request 22 = .ok (.aload_n 0, 1) := by decide +kernel
theorem dX11_request_23 : decode cX11_request 23 = .ok (.getfield 14, 3) := by decide +kernel
theorem dX11_request_26 : decode cX11_request 26 = .ok (.iload_n 1, 1) := by decide +kernel
theorem dX11_request_27 : decode cX11_request 27 = .ok (.iload_n 2, 1) := by decide +kernel
theorem dX11_request_28 : decode cX11_request 28 = .ok (.iastore, 1) := by decide +kernel
theorem dX11_request_29 : decode cX11_request 29 = .ok (.aload_n 0, 1) := by decide +kernel
theorem dX11_request_30 : decode cX11_request 30 = .ok (.getfield 18, 3) := by decide +kernel
theorem dX11_request_33 : decode cX11_request 33 = .ok (.iload_n 1, 1) := by decide +kernel
theorem dX11_request_34 : decode cX11_request 34 = .ok (.iload_n 3, 1) := by decide +kernel
theorem dX11_request_35 : decode cX11_request 35 = .ok (.iastore, 1) := by decide +kernel
theorem dX11_request_36 : decode cX11_request 36 = .ok (.aload_n 0, 1) := by decide +kernel
theorem dX11_request_37 : decode cX11_request 37 = .ok (.getfield 21, 3) := by decide +kernel
theorem dX11_request_40 : decode cX11_request 40 = .ok (.aload_n 0, 1) := by decide +kernel
theorem dX11_request_41 : decode cX11_request 41 = .ok (.getfield 47, 3) := by decide +kernel
theorem dX11_request_44 : decode cX11_request 44 = .ok (.iload_n 1, 1) := by decide +kernel
theorem dX11_request_45 : decode cX11_request 45 = .ok (.iastore, 1) := by decide +kernel
theorem dX11_request_46 : decode cX11_request 46 = .ok (.aload_n 0, 1) := by decide +kernel
theorem dX11_request_47 : decode cX11_request 47 = .ok (.dup, 1) := by decide +kernel
theorem dX11_request_48 : decode cX11_request 48 = .ok (.getfield 47, 3) := by decide +kernel
theorem dX11_request_51 : decode cX11_request 51 = .ok (.iconst 1, 1) := by decide +kernel
theorem dX11_request_52 : decode cX11_request 52 = .ok (.iadd, 1) := by decide +kernel
theorem dX11_request_53 : decode cX11_request 53 = .ok (.putfield 47, 3) := by decide +kernel
theorem dX11_request_56 : decode cX11_request 56 = .ok (.iconst 0, 1) := by decide +kernel
theorem dX11_request_57 : decode cX11_request 57 = .ok (.ireturn, 1) := by decide +kernel
theorem dX11_finish_0 : decode cX11_finish 0 = .ok (.aload_n 0, 1) := by decide +kernel
theorem dX11_finish_1 : decode cX11_finish 1 = .ok (.getfield 47, 3) := by decide +kernel
theorem dX11_finish_4 : decode cX11_finish 4 = .ok (.iconst 1, 1) := by decide +kernel
theorem dX11_finish_5 : decode cX11_finish 5 = .ok (.isub, 1) := by decide +kernel
theorem dX11_finish_6 : decode cX11_finish 6 = .ok (.istore_n 2, 1) := by decide +kernel
theorem dX11_finish_7 : decode cX11_finish 7 = .ok (.iload_n 2, 1) := by decide +kernel
theorem dX11_finish_8 : decode cX11_finish 8 = .ok (.ifCond .lt 24, 3) := by decide +kernel
theorem dX11_finish_11 : decode cX11_finish 11 = .ok (.aload_n 0, 1) := by decide +kernel
theorem dX11_finish_12 : decode cX11_finish 12 = .ok (.getfield 21, 3) := by decide +kernel
theorem dX11_finish_15 : decode cX11_finish 15 = .ok (.iload_n 2, 1) := by decide +kernel
theorem dX11_finish_16 : decode cX11_finish 16 = .ok (.iaload, 1) := by decide +kernel
theorem dX11_finish_17 : decode cX11_finish 17 = .ok (.iload_n 1, 1) := by decide +kernel
theorem dX11_finish_18 : decode cX11_finish 18 = .ok (.if_icmp .ne 8, 3) := by decide +kernel
theorem dX11_finish_21 : decode cX11_finish 21 = .ok (.aload_n 0, 1) := by decide +kernel
theorem dX11_finish_22 : decode cX11_finish 22 = .ok (.iload_n 2, 1) := by decide +kernel
theorem dX11_finish_23 : decode cX11_finish 23 = .ok (.invokevirtual 97, 3) := by decide +kernel
theorem dX11_finish_26 : decode cX11_finish 26 = .ok (.iinc 2 (-1), 3) := by decide +kernel
theorem dX11_finish_29 : decode cX11_finish 29 = .ok (.goto (-22), 3) := by decide +kernel
theorem dX11_finish_32 : decode cX11_finish 32 = .ok (.iconst 0, 1) := by decide +kernel
theorem dX11_finish_33 : decode cX11_finish 33 = .ok (.istore_n 2, 1) := by decide +kernel
theorem dX11_finish_34 : decode cX11_finish 34 = .ok (.iload_n 2, 1) := by decide +kernel
theorem dX11_finish_35 : decode cX11_finish 35 = .ok (.aload_n 0, 1) := by decide +kernel
theorem dX11_finish_36 : decode cX11_finish 36 = .ok (.getfield 41, 3) := by decide +kernel
theorem dX11_finish_39 : decode cX11_finish 39 = .ok (.if_icmp .ge 18, 3) := by decide +kernel
theorem dX11_finish_42 : decode cX11_finish 42 = .ok (.aload_n 0, 1) := by decide +kernel
theorem dX11_finish_43 : decode cX11_finish 43 = .ok (.getfield 9, 3) := by decide +kernel
theorem dX11_finish_46 : decode cX11_finish 46 = .ok (.iload_n 1, 1) := by decide +kernel
theorem dX11_finish_47 : decode cX11_finish 47 = .ok (.aaload, 1) := by decide +kernel
theorem dX11_finish_48 : decode cX11_finish 48 = .ok (.iload_n 2, 1) := by decide +kernel
theorem dX11_finish_49 : decode cX11_finish 49 = .ok (.iconst 0, 1) := by decide +kernel
theorem dX11_finish_50 : decode cX11_finish 50 = .ok (.iastore, 1) := by decide +kernel
theorem dX11_finish_51 : decode cX11_finish 51 = .ok (.iinc 2 1, 3) := by decide +kernel
theorem dX11_finish_54 : decode cX11_finish 54 = .ok (.goto (-20), 3) := by decide +kernel
theorem dX11_finish_57 : decode cX11_finish 57 = .ok (.aload_n 0, 1) := by decide +kernel
theorem dX11_finish_58 : decode cX11_finish 58 = .ok (.invokevirtual 101, 3) := by decide +kernel
theorem dX11_finish_61 : decode cX11_finish 61 = .ok (.ireturn, 1) := by decide +kernel
theorem dX11_agrees_0 : decode cX11_agrees 0 = .ok (.aload_n 0, 1) := by decide +kernel
theorem dX11_agrees_1 : decode cX11_agrees 1 = .ok (.getfield 24, 3) := by decide +kernel
theorem dX11_agrees_4 : decode cX11_agrees 4 = .ok (.invokevirtual 44, 3) := by decide +kernel
theorem dX11_agrees_7 : decode cX11_agrees 7 = .ok (.aload_n 0, 1) := by decide +kernel
theorem dX11_agrees_8 : decode cX11_agrees 8 = .ok (.getfield 47, 3) := by decide +kernel
theorem dX11_agrees_11 : decode cX11_agrees 11 = .ok (.if_icmp .ne 45, 3) := by decide +kernel
theorem dX11_agrees_14 : decode cX11_agrees 14 = .ok (.aload_n 0, 1) := by decide +kernel
theorem dX11_agrees_15 : decode cX11_agrees 15 = .ok (.getfield 24, 3) := by decide +kernel
theorem dX11_agrees_18 : decode cX11_agrees 18 = .ok (.invokevirtual 50, 3) := by decide +kernel
theorem dX11_agrees_21 : decode cX11_agrees 21 = .ok (.aload_n 0, 1) := by decide +kernel
theorem dX11_agrees_22 : decode cX11_agrees 22 = .ok (.getfield 53, 3) := by decide +kernel
theorem dX11_agrees_25 : decode cX11_agrees 25 = .ok (.if_icmp .ne 31, 3) := by decide +kernel
theorem dX11_agrees_28 : decode cX11_agrees 28 = .ok (.aload_n 0, 1) := by decide +kernel
theorem dX11_agrees_29 : decode cX11_agrees 29 = .ok (.getfield 24, 3) := by decide +kernel
theorem dX11_agrees_32 : decode cX11_agrees 32 = .ok (.invokevirtual 56, 3) := by decide +kernel
theorem dX11_agrees_35 : decode cX11_agrees 35 = .ok (.aload_n 0, 1) := by decide +kernel
theorem dX11_agrees_36 : decode cX11_agrees 36 = .ok (.getfield 59, 3) := by decide +kernel
theorem dX11_agrees_39 : decode cX11_agrees 39 = .ok (.if_icmp .ne 17, 3) := by decide +kernel
theorem dX11_agrees_42 : decode cX11_agrees 42 = .ok (.aload_n 0, 1) := by decide +kernel
theorem dX11_agrees_43 : decode cX11_agrees 43 = .ok (.getfield 24, 3) := by decide +kernel
theorem dX11_agrees_46 : decode cX11_agrees 46 = .ok (.invokevirtual 104, 3) := by decide +kernel
theorem dX11_agrees_49 : decode cX11_agrees 49 = .ok (.aload_n 0, 1) := by decide +kernel
theorem dX11_agrees_50 : decode cX11_agrees 50 = .ok (.invokevirtual 89, 3) := by decide +kernel
theorem dX11_agrees_53 : decode cX11_agrees 53 = .ok (.if_icmp .eq 5, 3) := by decide +kernel
theorem dX11_agrees_56 : decode cX11_agrees 56 = .ok (.iconst 0, 1) := by decide +kernel
theorem dX11_agrees_57 : decode cX11_agrees 57 = .ok (.ireturn, 1) := by decide +kernel
theorem dX11_agrees_58 : decode cX11_agrees 58 = .ok (.iconst 0, 1) := by decide +kernel
theorem dX11_agrees_59 : decode cX11_agrees 59 = .ok (.istore_n 1, 1) := by decide +kernel
theorem dX11_agrees_60 : decode cX11_agrees 60 = .ok (.iload_n 1, 1) := by decide +kernel
theorem dX11_agrees_61 : decode cX11_agrees 61 = .ok (.aload_n 0, 1) := by decide +kernel
theorem dX11_agrees_62 : decode cX11_agrees 62 = .ok (.getfield 47, 3) := by decide +kernel
theorem dX11_agrees_65 : decode cX11_agrees 65 = .ok (.if_icmp .ge 28, 3) := by decide +kernel
theorem dX11_agrees_68 : decode cX11_agrees 68 = .ok (.aload_n 0, 1) := by decide +kernel
theorem dX11_agrees_69 : decode cX11_agrees 69 = .ok (.getfield 24, 3) := by decide +kernel
theorem dX11_agrees_72 : decode cX11_agrees 72 = .ok (.iload_n 1, 1) := by decide +kernel
theorem dX11_agrees_73 : decode cX11_agrees 73 = .ok (.invokevirtual 73, 3) := by decide +kernel
theorem dX11_agrees_76 : decode cX11_agrees 76 = .ok (.aload_n 0, 1) := by decide +kernel
theorem dX11_agrees_77 : decode cX11_agrees 77 = .ok (.getfield 21, 3) := by decide +kernel
theorem dX11_agrees_80 : decode cX11_agrees 80 = .ok (.iload_n 1, 1) := by decide +kernel
theorem dX11_agrees_81 : decode cX11_agrees 81 = .ok (.iaload, 1) := by decide +kernel
theorem dX11_agrees_82 : decode cX11_agrees 82 = .ok (.if_icmp .eq 5, 3) := by decide +kernel
theorem dX11_agrees_85 : decode cX11_agrees 85 = .ok (.iconst 0, 1) := by decide +kernel
theorem dX11_agrees_86 : decode cX11_agrees 86 = .ok (.ireturn, 1) := by decide +kernel
theorem dX11_agrees_87 : decode cX11_agrees 87 = .ok (.iinc 1 1, 3) := by decide +kernel
theorem dX11_agrees_90 : decode cX11_agrees 90 = .ok (.goto (-30), 3) := by decide +kernel
theorem dX11_agrees_93 : decode cX11_agrees 93 = .ok (.iconst 0, 1) := by decide +kernel
theorem dX11_agrees_94 : decode cX11_agrees 94 = .ok (.istore_n 1, 1) := by decide +kernel
theorem dX11_agrees_95 : decode cX11_agrees 95 = .ok (.iload_n 1, 1) := by decide +kernel
theorem dX11_agrees_96 : decode cX11_agrees 96 = .ok (.aload_n 0, 1) := by decide +kernel
theorem dX11_agrees_97 : decode cX11_agrees 97 = .ok (.getfield 34, 3) := by decide +kernel
theorem dX11_agrees_100 : decode cX11_agrees 100 = .ok (.if_icmp .ge 139, 3) := by decide +kernel
theorem dX11_agrees_103 : decode cX11_agrees 103 = .ok (.aload_n 0, 1) := by decide +kernel
theorem dX11_agrees_104 : decode cX11_agrees 104 = .ok (.getfield 24, 3) := by decide +kernel
theorem dX11_agrees_107 : decode cX11_agrees 107 = .ok (.iload_n 1, 1) := by decide +kernel
theorem dX11_agrees_108 : decode cX11_agrees 108 = .ok (.invokevirtual 62, 3) := by decide +kernel
theorem dX11_agrees_111 : decode cX11_agrees 111 = .ok (.aload_n 0, 1) := by decide +kernel
theorem dX11_agrees_112 : decode cX11_agrees 112 = .ok (.getfield 14, 3) := by decide +kernel
theorem dX11_agrees_115 : decode cX11_agrees 115 = .ok (.iload_n 1, 1) := by decide +kernel
theorem dX11_agrees_116 : decode cX11_agrees 116 = .ok (.iaload, 1) := by decide +kernel
theorem dX11_agrees_117 : decode cX11_agrees 117 = .ok (.if_icmp .ne 45, 3) := by decide +kernel
theorem dX11_agrees_120 : decode cX11_agrees 120 = .ok (.aload_n 0, 1) := by decide +kernel
theorem dX11_agrees_121 : decode cX11_agrees 121 = .ok (.getfield 24, 3) := by decide +kernel
theorem dX11_agrees_124 : decode cX11_agrees 124 = .ok (.iload_n 1, 1) := by decide +kernel
theorem dX11_agrees_125 : decode cX11_agrees 125 = .ok (.invokevirtual 66, 3) := by decide +kernel
theorem dX11_agrees_128 : decode cX11_agrees 128 = .ok (.aload_n 0, 1) := by decide +kernel
theorem dX11_agrees_129 : decode cX11_agrees 129 = .ok (.getfield 18, 3) := by decide +kernel
theorem dX11_agrees_132 : decode cX11_agrees 132 = .ok (.iload_n 1, 1) := by decide +kernel
theorem dX11_agrees_133 : decode cX11_agrees 133 = .ok (.iaload, 1) := by decide +kernel
theorem dX11_agrees_134 : decode cX11_agrees 134 = .ok (.if_icmp .ne 28, 3) := by decide +kernel
theorem dX11_agrees_137 : decode cX11_agrees 137 = .ok (.aload_n 0, 1) := by decide +kernel
theorem dX11_agrees_138 : decode cX11_agrees 138 = .ok (.getfield 24, 3) := by decide +kernel
theorem dX11_agrees_141 : decode cX11_agrees 141 = .ok (.iload_n 1, 1) := by decide +kernel
theorem dX11_agrees_142 : decode cX11_agrees 142 = .ok (.invokevirtual 105, 3) := by decide +kernel
theorem dX11_agrees_145 : decode cX11_agrees 145 = .ok (.aload_n 0, 1) := by decide +kernel
theorem dX11_agrees_146 : decode cX11_agrees 146 = .ok (.getfield 14, 3) := by decide +kernel
theorem dX11_agrees_149 : decode cX11_agrees 149 = .ok (.iload_n 1, 1) := by decide +kernel
theorem dX11_agrees_150 : decode cX11_agrees 150 = .ok (.iaload, 1) := by decide +kernel
theorem dX11_agrees_151 : decode cX11_agrees 151 = .ok (.ifCond .lt 7, 3) := by decide +kernel
theorem dX11_agrees_154 : decode cX11_agrees 154 = .ok (.iconst 1, 1) := by decide +kernel
theorem dX11_agrees_155 : decode cX11_agrees 155 = .ok (.goto 4, 3) := by decide +kernel
theorem dX11_agrees_158 : decode cX11_agrees 158 = .ok (.iconst 0, 1) := by decide +kernel
theorem dX11_agrees_159 : decode cX11_agrees 159 = .ok (.if_icmp .eq 5, 3) := by decide +kernel
theorem dX11_agrees_162 : decode cX11_agrees 162 = .ok (.iconst 0, 1) := by decide +kernel
theorem dX11_agrees_163 : decode cX11_agrees 163 = .ok (.ireturn, 1) := by decide +kernel
theorem dX11_agrees_164 : decode cX11_agrees 164 = .ok (.iconst 0, 1) := by decide +kernel
theorem dX11_agrees_165 : decode cX11_agrees 165 = .ok (.istore_n 2, 1) := by decide +kernel
theorem dX11_agrees_166 : decode cX11_agrees 166 = .ok (.iload_n 2, 1) := by decide +kernel
theorem dX11_agrees_167 : decode cX11_agrees 167 = .ok (.aload_n 0, 1) := by decide +kernel
theorem dX11_agrees_168 : decode cX11_agrees 168 = .ok (.getfield 41, 3) := by decide +kernel
theorem dX11_agrees_171 : decode cX11_agrees 171 = .ok (.if_icmp .ge 62, 3) := by decide +kernel
theorem dX11_agrees_174 : decode cX11_agrees 174 = .ok (.aload_n 0, 1) := by decide +kernel
theorem dX11_agrees_175 : decode cX11_agrees 175 = .ok (.getfield 24, 3) := by decide +kernel
theorem dX11_agrees_178 : decode cX11_agrees 178 = .ok (.iload_n 1, 1) := by decide +kernel
theorem dX11_agrees_179 : decode cX11_agrees 179 = .ok (.iload_n 2, 1) := by decide +kernel
theorem dX11_agrees_180 : decode cX11_agrees 180 = .ok (.invokevirtual 69, 3) := by decide +kernel
theorem dX11_agrees_183 : decode cX11_agrees 183 = .ok (.aload_n 0, 1) := by decide +kernel
theorem dX11_agrees_184 : decode cX11_agrees 184 = .ok (.getfield 9, 3) := by decide +kernel
theorem dX11_agrees_187 : decode cX11_agrees 187 = .ok (.iload_n 1, 1) := by decide +kernel
theorem dX11_agrees_188 : decode cX11_agrees 188 = .ok (.aaload, 1) := by decide +kernel
theorem dX11_agrees_189 : decode cX11_agrees 189 = .ok (.iload_n 2, 1) := by decide +kernel
theorem dX11_agrees_190 : decode cX11_agrees 190 = .ok (.iaload, 1) := by decide +kernel
theorem dX11_agrees_191 : decode cX11_agrees 191 = .ok (.if_icmp .ne 34, 3) := by decide +kernel
theorem dX11_agrees_194 : decode cX11_agrees 194 = .ok (.aload_n 0, 1) := by decide +kernel
theorem dX11_agrees_195 : decode cX11_agrees 195 = .ok (.getfield 9, 3) := by decide +kernel
theorem dX11_agrees_198 : decode cX11_agrees 198 = .ok (.iload_n 1, 1) := by decide +kernel
theorem dX11_agrees_199 : decode cX11_agrees 199 = .ok (.aaload, 1) := by decide +kernel
theorem dX11_agrees_200 : decode cX11_agrees 200 = .ok (.iload_n 2, 1) := by decide +kernel
theorem dX11_agrees_201 : decode cX11_agrees 201 = .ok (.iaload, 1) := by decide +kernel
theorem dX11_agrees_202 : decode cX11_agrees 202 = .ok (.ifCond .lt 23, 3) := by decide +kernel
theorem dX11_agrees_205 : decode cX11_agrees 205 = .ok (.aload_n 0, 1) := by decide +kernel
theorem dX11_agrees_206 : decode cX11_agrees 206 = .ok (.getfield 9, 3) := by decide +kernel
theorem dX11_agrees_209 : decode cX11_agrees 209 = .ok (.iload_n 1, 1) := by decide +kernel
theorem dX11_agrees_210 : decode cX11_agrees 210 = .ok (.aaload, 1) := by decide +kernel
theorem dX11_agrees_211 : decode cX11_agrees 211 = .ok (.iload_n 2, 1) := by decide +kernel
theorem dX11_agrees_212 : decode cX11_agrees 212 = .ok (.iaload, 1) := by decide +kernel
theorem dX11_agrees_213 : decode cX11_agrees 213 = .ok (.aload_n 0, 1) := by decide +kernel
theorem dX11_agrees_214 : decode cX11_agrees 214 = .ok (.getfield 24, 3) := by decide +kernel
theorem dX11_agrees_217 : decode cX11_agrees 217 = .ok (.iload_n 1, 1) := by decide +kernel
theorem dX11_agrees_218 : decode cX11_agrees 218 = .ok (.iload_n 2, 1) := by decide +kernel
theorem dX11_agrees_219 : decode cX11_agrees 219 = .ok (.invokevirtual 82, 3) := by decide +kernel
theorem dX11_agrees_222 : decode cX11_agrees 222 = .ok (.if_icmp .le 5, 3) := by decide +kernel
theorem dX11_agrees_225 : decode cX11_agrees 225 = .ok (.iconst 0, 1) := by decide +kernel
theorem dX11_agrees_226 : decode cX11_agrees 226 = .ok (.ireturn, 1) := by decide +kernel
theorem dX11_agrees_227 : decode cX11_agrees 227 = .ok (.iinc 2 1, 3) := by decide +kernel
theorem dX11_agrees_230 : decode cX11_agrees 230 = .ok (.goto (-64), 3) := by decide +kernel
theorem dX11_agrees_233 : decode cX11_agrees 233 = .ok (.iinc 1 1, 3) := by decide +kernel
theorem dX11_agrees_236 : decode cX11_agrees 236 = .ok (.goto (-141), 3) := by decide +kernel
theorem dX11_agrees_239 : decode cX11_agrees 239 = .ok (.iconst 0, 1) := by decide +kernel
theorem dX11_agrees_240 : decode cX11_agrees 240 = .ok (.istore_n 1, 1) := by decide +kernel
theorem dX11_agrees_241 : decode cX11_agrees 241 = .ok (.iload_n 1, 1) := by decide +kernel
theorem dX11_agrees_242 : decode cX11_agrees 242 = .ok (.aload_n 0, 1) := by decide +kernel
theorem dX11_agrees_243 : decode cX11_agrees 243 = .ok (.getfield 41, 3) := by decide +kernel
theorem dX11_agrees_246 : decode cX11_agrees 246 = .ok (.if_icmp .ge 35, 3) := by decide +kernel
theorem dX11_agrees_249 : decode cX11_agrees 249 = .ok (.aload_n 0, 1) := by decide +kernel
theorem dX11_agrees_250 : decode cX11_agrees 250 = .ok (.getfield 24, 3) := by decide +kernel
theorem dX11_agrees_253 : decode cX11_agrees 253 = .ok (.iload_n 1, 1) := by decide +kernel
theorem dX11_agrees_254 : decode cX11_agrees 254 = .ok (.invokevirtual 109, 3) := by decide +kernel
theorem dX11_agrees_257 : decode cX11_agrees 257 = .ok (.aload_n 0, 1) := by decide +kernel
theorem dX11_agrees_258 : decode cX11_agrees 258 = .ok (.iload_n 1, 1) := by decide +kernel
theorem dX11_agrees_259 : decode cX11_agrees 259 = .ok (.invokevirtual 79, 3) := by decide +kernel
theorem dX11_agrees_262 : decode cX11_agrees 262 = .ok (.if_icmp .ne 11, 3) := by decide +kernel
theorem dX11_agrees_265 : decode cX11_agrees 265 = .ok (.aload_n 0, 1) := by decide +kernel
theorem dX11_agrees_266 : decode cX11_agrees 266 = .ok (.iload_n 1, 1) := by decide +kernel
theorem dX11_agrees_267 : decode cX11_agrees 267 = .ok (.invokevirtual 79, 3) := by decide +kernel
theorem dX11_agrees_270 : decode cX11_agrees 270 = .ok (.ifCond .ge 5, 3) := by decide +kernel
theorem dX11_agrees_273 : decode cX11_agrees 273 = .ok (.iconst 0, 1) := by decide +kernel
theorem dX11_agrees_274 : decode cX11_agrees 274 = .ok (.ireturn, 1) := by decide +kernel
theorem dX11_agrees_275 : decode cX11_agrees 275 = .ok (.iinc 1 1, 3) := by decide +kernel
theorem dX11_agrees_278 : decode cX11_agrees 278 = .ok (.goto (-37), 3) := by decide +kernel
theorem dX11_agrees_281 : decode cX11_agrees 281 = .ok (.aload_n 0, 1) := by decide +kernel
theorem dX11_agrees_282 : decode cX11_agrees 282 = .ok (.getfield 24, 3) := by decide +kernel
theorem dX11_agrees_285 : decode cX11_agrees 285 = .ok (.invokevirtual 112, 3) := by decide +kernel
theorem dX11_agrees_288 : decode cX11_agrees 288 = .ok (.ifCond .ne 7, 3) := by decide +kernel
theorem dX11_agrees_291 : decode cX11_agrees 291 = .ok (.iconst 1, 1) := by decide +kernel
theorem dX11_agrees_292 : decode cX11_agrees 292 = .ok (.goto 4, 3) := by decide +kernel
theorem dX11_agrees_295 : decode cX11_agrees 295 = .ok (.iconst 0, 1) := by decide +kernel
theorem dX11_agrees_296 : decode cX11_agrees 296 = .ok (.ireturn, 1) := by decide +kernel
