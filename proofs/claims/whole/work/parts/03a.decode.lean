theorem dX0_init_0 : decode cX0_init 0 = .ok (.aload_n 0, 1) := by decide +kernel
theorem dX0_init_1 : decode cX0_init 1 = .ok (.invokespecial 3, 3) := by decide +kernel
theorem dX0_init_4 : decode cX0_init 4 = .ok (.aload_n 0, 1) := by decide +kernel
theorem dX0_init_5 : decode cX0_init 5 = .ok (.new 9, 3) := by decide +kernel
theorem dX0_init_8 : decode cX0_init 8 = .ok (.dup, 1) := by decide +kernel
theorem dX0_init_9 : decode cX0_init 9 = .ok (.invokespecial 11, 3) := by decide +kernel
theorem dX0_init_12 : decode cX0_init 12 = .ok (.putfield 12, 3) := by decide +kernel
theorem dX0_init_15 : decode cX0_init 15 = .ok (.aload_n 0, 1) := by decide +kernel
theorem dX0_init_16 : decode cX0_init 16 = .ok (.new 9, 3) := by decide +kernel
theorem dX0_init_19 : decode cX0_init 19 = .ok (.dup, 1) := by decide +kernel
theorem dX0_init_20 : decode cX0_init 20 = .ok (.invokespecial 11, 3) := by decide +kernel
theorem dX0_init_23 : decode cX0_init 23 = .ok (.putfield 18, 3) := by decide +kernel
theorem dX0_init_26 : decode cX0_init 26 = .ok (.aload_n 0, 1) := by decide +kernel
theorem dX0_init_27 : decode cX0_init 27 = .ok (.new 21, 3) := by decide +kernel
theorem dX0_init_30 : decode cX0_init 30 = .ok (.dup, 1) := by decide +kernel
theorem dX0_init_31 : decode cX0_init 31 = .ok (.invokespecial 23, 3) := by decide +kernel
theorem dX0_init_34 : decode cX0_init 34 = .ok (.putfield 24, 3) := by decide +kernel
theorem dX0_init_37 : decode cX0_init 37 = .ok (.return_, 1) := by decide +kernel
theorem dX0_fittingParts_0 : decode cX0_fittingParts 0 = .ok (.iload 4, 2) := by decide +kernel
theorem dX0_fittingParts_2 : decode cX0_fittingParts 2 = .ok (.ifCond .ne 8, 3) := by decide +kernel
theorem dX0_fittingParts_5 : decode cX0_fittingParts 5 = .ok (.bipush 6, 2) := by decide +kernel
theorem dX0_fittingParts_7 : decode cX0_fittingParts 7 = .ok (.goto 16, 3) := by decide +kernel
theorem dX0_fittingParts_10 : decode cX0_fittingParts 10 = .ok (.iload 4, 2) := by decide +kernel
theorem dX0_fittingParts_12 : decode cX0_fittingParts 12 = .ok (.iconst 1, 1) := by decide +kernel
theorem dX0_fittingParts_13 : decode cX0_fittingParts 13 = .ok (.if_icmp .ne 8, 3) := by decide +kernel
theorem dX0_fittingParts_16 : decode cX0_fittingParts 16 = .ok (.bipush 10, 2) := by decide +kernel
theorem dX0_fittingParts_18 : decode cX0_fittingParts 18 = .ok (.goto 5, 3) := by decide +kernel
theorem dX0_fittingParts_21 : decode cX0_fittingParts 21 = .ok (.bipush 8, 2) := by decide +kernel
theorem dX0_fittingParts_23 : decode cX0_fittingParts 23 = .ok (.istore 6, 2) := by decide +kernel
theorem dX0_fittingParts_25 : decode cX0_fittingParts 25 = .ok (.iconst 0, 1) := by decide +kernel
theorem dX0_fittingParts_26 : decode cX0_fittingParts 26 = .ok (.istore 7, 2) := by decide +kernel
theorem dX0_fittingParts_28 : decode cX0_fittingParts 28 = .ok (.aload_n 0, 1) := by decide +kernel
theorem dX0_fittingParts_29 : decode cX0_fittingParts 29 = .ok (.getfield 24, 3) := by decide +kernel
theorem dX0_fittingParts_32 : decode cX0_fittingParts 32 = .ok (.aload_n 1, 1) := by decide +kernel
theorem dX0_fittingParts_33 : decode cX0_fittingParts 33 = .ok (.invokevirtual 28, 3) := by decide +kernel
theorem dX0_fittingParts_36 : decode cX0_fittingParts 36 = .ok (.iconst 0, 1) := by decide +kernel
theorem dX0_fittingParts_37 : decode cX0_fittingParts 37 = .ok (.istore 8, 2) := by decide +kernel
theorem dX0_fittingParts_39 : decode cX0_fittingParts 39 = .ok (.iload 8, 2) := by decide +kernel
theorem dX0_fittingParts_41 : decode cX0_fittingParts 41 = .ok (.iload 6, 2) := by decide +kernel
theorem dX0_fittingParts_43 : decode cX0_fittingParts 43 = .ok (.if_icmp .ge 58, 3) := by decide +kernel
theorem dX0_fittingParts_46 : decode cX0_fittingParts 46 = .ok (.aload_n 0, 1) := by decide +kernel
theorem dX0_fittingParts_47 : decode cX0_fittingParts 47 = .ok (.getfield 24, 3) := by decide +kernel
theorem dX0_fittingParts_50 : decode cX0_fittingParts 50 = .ok (.iload_n 3, 1) := by decide +kernel
theorem dX0_fittingParts_51 : decode cX0_fittingParts 51 = .ok (.iload 4, 2) := by decide +kernel
theorem dX0_fittingParts_53 : decode cX0_fittingParts 53 = .ok (.iload 8, 2) := by decide +kernel
theorem dX0_fittingParts_55 : decode cX0_fittingParts 55 = .ok (.invokevirtual 32, 3) := by decide +kernel
theorem dX0_fittingParts_58 : decode cX0_fittingParts 58 = .ok (.aload_n 0, 1) := by decide +kernel
theorem dX0_fittingParts_59 : decode cX0_fittingParts 59 = .ok (.getfield 12, 3) := by decide +kernel
theorem dX0_fittingParts_62 : decode cX0_fittingParts 62 = .ok (.aload_n 0, 1) := by decide +kernel
theorem dX0_fittingParts_63 : decode cX0_fittingParts 63 = .ok (.getfield 24, 3) := by decide +kernel
theorem dX0_fittingParts_66 : decode cX0_fittingParts 66 = .ok (.iload_n 2, 1) := by decide +kernel
theorem dX0_fittingParts_67 : decode cX0_fittingParts 67 = .ok (.iconst 0, 1) := by decide +kernel
theorem dX0_fittingParts_68 : decode cX0_fittingParts 68 = .ok (.invokevirtual 36, 3) := by decide +kernel
theorem dX0_fittingParts_71 : decode cX0_fittingParts 71 = .ok (.pop, 1) := by decide +kernel
theorem dX0_fittingParts_72 : decode cX0_fittingParts 72 = .ok (.aload 5, 2) := by decide +kernel
theorem dX0_fittingParts_74 : decode cX0_fittingParts 74 = .ok (.aload_n 0, 1) := by decide +kernel
theorem dX0_fittingParts_75 : decode cX0_fittingParts 75 = .ok (.getfield 12, 3) := by decide +kernel
theorem dX0_fittingParts_78 : decode cX0_fittingParts 78 = .ok (.invokevirtual 40, 3) := by decide +kernel
theorem dX0_fittingParts_81 : decode cX0_fittingParts 81 = .ok (.bipush (-9), 2) := by decide +kernel
theorem dX0_fittingParts_83 : decode cX0_fittingParts 83 = .ok (.if_icmp .ne 12, 3) := by decide +kernel
theorem dX0_fittingParts_86 : decode cX0_fittingParts 86 = .ok (.iload 7, 2) := by decide +kernel
theorem dX0_fittingParts_88 : decode cX0_fittingParts 88 = .ok (.iconst 1, 1) := by decide +kernel
theorem dX0_fittingParts_89 : decode cX0_fittingParts 89 = .ok (.iload 8, 2) := by decide +kernel
theorem dX0_fittingParts_91 : decode cX0_fittingParts 91 = .ok (.ishl, 1) := by decide +kernel
theorem dX0_fittingParts_92 : decode cX0_fittingParts 92 = .ok (.ior, 1) := by decide +kernel
theorem dX0_fittingParts_93 : decode cX0_fittingParts 93 = .ok (.istore 7, 2) := by decide +kernel
theorem dX0_fittingParts_95 : decode cX0_fittingParts 95 = .ok (.iinc 8 1, 3) := by decide +kernel
theorem dX0_fittingParts_98 : decode cX0_fittingParts 98 = .ok (.goto (-59), 3) := by decide +kernel
theorem dX0_fittingParts_101 : decode cX0_fittingParts 101 = .ok (.iload 7, 2) := by decide +kernel
theorem dX0_fittingParts_103 : decode cX0_fittingParts 103 = .ok (.ireturn, 1) := by decide +kernel
theorem dX0_guarded_0 : decode cX0_guarded 0 = .ok (.bipush 11, 2) := by decide +kernel
theorem dX0_guarded_2 : decode cX0_guarded 2 = .ok (.istore 4, 2) := by decide +kernel
theorem dX0_guarded_4 : decode cX0_guarded 4 = .ok (.bipush 8, 2) := by decide +kernel
theorem dX0_guarded_6 : decode cX0_guarded 6 = .ok (.istore 5, 2) := by decide +kernel
theorem dX0_guarded_8 : decode cX0_guarded 8 = .ok (.iconst 0, 1) := by decide +kernel
theorem dX0_guarded_9 : decode cX0_guarded 9 = .ok (.istore 6, 2) := by decide +kernel
theorem dX0_guarded_11 : decode cX0_guarded 11 = .ok (.iload 6, 2) := by decide +kernel
theorem dX0_guarded_13 : decode cX0_guarded 13 = .ok (.bipush 8, 2) := by decide +kernel
theorem dX0_guarded_15 : decode cX0_guarded 15 = .ok (.if_icmp .gt 53, 3) := by decide +kernel
theorem dX0_guarded_18 : decode cX0_guarded 18 = .ok (.iload 6, 2) := by decide +kernel
theorem dX0_guarded_20 : decode cX0_guarded 20 = .ok (.bipush 8, 2) := by decide +kernel
theorem dX0_guarded_22 : decode cX0_guarded 22 = .ok (.if_icmp .ge 15, 3) := by decide +kernel
theorem dX0_guarded_25 : decode cX0_guarded 25 = .ok (.iload_n 2, 1) := by decide +kernel
theorem dX0_guarded_26 : decode cX0_guarded 26 = .ok (.iload 6, 2) := by decide +kernel
theorem dX0_guarded_28 : decode cX0_guarded 28 = .ok (.invokestatic 46, 3) := by decide +kernel
theorem dX0_guarded_31 : decode cX0_guarded 31 = .ok (.ifCond .ne 6, 3) := by decide +kernel
theorem dX0_guarded_34 : decode cX0_guarded 34 = .ok (.goto 28, 3) := by decide +kernel
theorem dX0_guarded_37 : decode cX0_guarded 37 = .ok (.aload_n 0, 1) := by decide +kernel
theorem dX0_guarded_38 : decode cX0_guarded 38 = .ok (.aload_n 1, 1) := by decide +kernel
theorem dX0_guarded_39 : decode cX0_guarded 39 = .ok (.iload_n 2, 1) := by decide +kernel
theorem dX0_guarded_40 : decode cX0_guarded 40 = .ok (.iload 6, 2) := by decide +kernel
theorem dX0_guarded_42 : decode cX0_guarded 42 = .ok (.invokevirtual 50, 3) := by decide +kernel
theorem dX0_guarded_45 : decode cX0_guarded 45 = .ok (.istore 7, 2) := by decide +kernel
theorem dX0_guarded_47 : decode cX0_guarded 47 = .ok (.iload 7, 2) := by decide +kernel
theorem dX0_guarded_49 : decode cX0_guarded 49 = .ok (.iload 4, 2) := by decide +kernel
theorem dX0_guarded_51 : decode cX0_guarded 51 = .ok (.if_icmp .ge 11, 3) := by decide +kernel
theorem dX0_guarded_54 : decode cX0_guarded 54 = .ok (.iload 7, 2) := by decide +kernel
theorem dX0_guarded_56 : decode cX0_guarded 56 = .ok (.istore 4, 2) := by decide +kernel
theorem dX0_guarded_58 : decode cX0_guarded 58 = .ok (.iload 6, 2) := by decide +kernel
theorem dX0_guarded_60 : decode cX0_guarded 60 = .ok (.istore 5, 2) := by decide +kernel
theorem dX0_guarded_62 : decode cX0_guarded 62 = .ok (.iinc 6 1, 3) := by decide +kernel
theorem dX0_guarded_65 : decode cX0_guarded 65 = .ok (.goto (-54), 3) := by decide +kernel
theorem dX0_guarded_68 : decode cX0_guarded 68 = .ok (.iload_n 3, 1) := by decide +kernel
theorem dX0_guarded_69 : decode cX0_guarded 69 = .ok (.ifCond .ne 8, 3) := by decide +kernel
theorem dX0_guarded_72 : decode cX0_guarded 72 = .ok (.iload 4, 2) := by decide +kernel
theorem dX0_guarded_74 : decode cX0_guarded 74 = .ok (.goto 5, 3) := by decide +kernel
theorem dX0_guarded_77 : decode cX0_guarded 77 = .ok (.iload 5, 2) := by decide +kernel
theorem dX0_guarded_79 : decode cX0_guarded 79 = .ok (.ireturn, 1) := by decide +kernel
theorem dX0_mostStruck_0 : decode cX0_mostStruck 0 = .ok (.iload_n 2, 1) := by decide +kernel
theorem dX0_mostStruck_1 : decode cX0_mostStruck 1 = .ok (.iload_n 3, 1) := by decide +kernel
theorem dX0_mostStruck_2 : decode cX0_mostStruck 2 = .ok (.invokestatic 53, 3) := by decide +kernel
theorem dX0_mostStruck_5 : decode cX0_mostStruck 5 = .ok (.iconst (-1), 1) := by decide +kernel
theorem dX0_mostStruck_6 : decode cX0_mostStruck 6 = .ok (.ixor, 1) := by decide +kernel
theorem dX0_mostStruck_7 : decode cX0_mostStruck 7 = .ok (.iand, 1) := by decide +kernel
theorem dX0_mostStruck_8 : decode cX0_mostStruck 8 = .ok (.istore 4, 2) := by decide +kernel
theorem dX0_mostStruck_10 : decode cX0_mostStruck 10 = .ok (.aload_n 0, 1) := by decide +kernel
theorem dX0_mostStruck_11 : decode cX0_mostStruck 11 = .ok (.getfield 12, 3) := by decide +kernel
theorem dX0_mostStruck_14 : decode cX0_mostStruck 14 = .ok (.aload_n 1, 1) := by decide +kernel
theorem dX0_mostStruck_15 : decode cX0_mostStruck 15 = .ok (.iload 4, 2) := by decide +kernel
theorem dX0_mostStruck_17 : decode cX0_mostStruck 17 = .ok (.invokevirtual 57, 3) := by decide +kernel
theorem dX0_mostStruck_20 : decode cX0_mostStruck 20 = .ok (.istore 5, 2) := by decide +kernel
theorem dX0_mostStruck_22 : decode cX0_mostStruck 22 = .ok (.iconst 0, 1) := by decide +kernel
theorem dX0_mostStruck_23 : decode cX0_mostStruck 23 = .ok (.istore 6, 2) := by decide +kernel
theorem dX0_mostStruck_25 : decode cX0_mostStruck 25 = .ok (.iload 6, 2) := by decide +kernel
theorem dX0_mostStruck_27 : decode cX0_mostStruck 27 = .ok (.bipush 8, 2) := by decide +kernel
theorem dX0_mostStruck_29 : decode cX0_mostStruck 29 = .ok (.if_icmp .ge 41, 3) := by decide +kernel
theorem dX0_mostStruck_32 : decode cX0_mostStruck 32 = .ok (.iload 6, 2) := by decide +kernel
theorem dX0_mostStruck_34 : decode cX0_mostStruck 34 = .ok (.iload_n 3, 1) := by decide +kernel
theorem dX0_mostStruck_35 : decode cX0_mostStruck 35 = .ok (.if_icmp .ne 6, 3) := by decide +kernel
theorem dX0_mostStruck_38 : decode cX0_mostStruck 38 = .ok (.goto 26, 3) := by decide +kernel
theorem dX0_mostStruck_41 : decode cX0_mostStruck 41 = .ok (.iload 5, 2) := by decide +kernel
theorem dX0_mostStruck_43 : decode cX0_mostStruck 43 = .ok (.aload_n 0, 1) := by decide +kernel
theorem dX0_mostStruck_44 : decode cX0_mostStruck 44 = .ok (.getfield 12, 3) := by decide +kernel
theorem dX0_mostStruck_47 : decode cX0_mostStruck 47 = .ok (.aload_n 1, 1) := by decide +kernel
theorem dX0_mostStruck_48 : decode cX0_mostStruck 48 = .ok (.iload 4, 2) := by decide +kernel
theorem dX0_mostStruck_50 : decode cX0_mostStruck 50 = .ok (.iload 6, 2) := by decide +kernel
theorem dX0_mostStruck_52 : decode cX0_mostStruck 52 = .ok (.invokestatic 53, 3) := by decide +kernel
theorem dX0_mostStruck_55 : decode cX0_mostStruck 55 = .ok (.ior, 1) := by decide +kernel
theorem dX0_mostStruck_56 : decode cX0_mostStruck 56 = .ok (.invokevirtual 57, 3) := by decide +kernel
theorem dX0_mostStruck_59 : decode cX0_mostStruck 59 = .ok (.invokestatic 61, 3) := by decide +kernel
theorem dX0_mostStruck_62 : decode cX0_mostStruck 62 = .ok (.istore 5, 2) := by decide +kernel
theorem dX0_mostStruck_64 : decode cX0_mostStruck 64 = .ok (.iinc 6 1, 3) := by decide +kernel
theorem dX0_mostStruck_67 : decode cX0_mostStruck 67 = .ok (.goto (-42), 3) := by decide +kernel
theorem dX0_mostStruck_70 : decode cX0_mostStruck 70 = .ok (.iload 5, 2) := by decide +kernel
theorem dX0_mostStruck_72 : decode cX0_mostStruck 72 = .ok (.ireturn, 1) := by decide +kernel
theorem dX0_dearestLaw_0 : decode cX0_dearestLaw 0 = .ok (.aload_n 0, 1) := by decide +kernel
theorem dX0_dearestLaw_1 : decode cX0_dearestLaw 1 = .ok (.getfield 12, 3) := by decide +kernel
theorem dX0_dearestLaw_4 : decode cX0_dearestLaw 4 = .ok (.aload_n 1, 1) := by decide +kernel
theorem dX0_dearestLaw_5 : decode cX0_dearestLaw 5 = .ok (.iload_n 2, 1) := by decide +kernel
theorem dX0_dearestLaw_6 : decode cX0_dearestLaw 6 = .ok (.iconst 0, 1) := by decide +kernel
theorem dX0_dearestLaw_7 : decode cX0_dearestLaw 7 = .ok (.invokevirtual 36, 3) := by decide +kernel
theorem dX0_dearestLaw_10 : decode cX0_dearestLaw 10 = .ok (.istore_n 3, 1) := by decide +kernel
theorem dX0_dearestLaw_11 : decode cX0_dearestLaw 11 = .ok (.bipush (-9), 2) := by decide +kernel
theorem dX0_dearestLaw_13 : decode cX0_dearestLaw 13 = .ok (.istore 4, 2) := by decide +kernel
theorem dX0_dearestLaw_15 : decode cX0_dearestLaw 15 = .ok (.bipush 11, 2) := by decide +kernel
theorem dX0_dearestLaw_17 : decode cX0_dearestLaw 17 = .ok (.istore 5, 2) := by decide +kernel
theorem dX0_dearestLaw_19 : decode cX0_dearestLaw 19 = .ok (.iconst 0, 1) := by decide +kernel
theorem dX0_dearestLaw_20 : decode cX0_dearestLaw 20 = .ok (.istore 6, 2) := by decide +kernel
theorem dX0_dearestLaw_22 : decode cX0_dearestLaw 22 = .ok (.iload 6, 2) := by decide +kernel
theorem dX0_dearestLaw_24 : decode cX0_dearestLaw 24 = .ok (.bipush 10, 2) := by decide +kernel
theorem dX0_dearestLaw_26 : decode cX0_dearestLaw 26 = .ok (.if_icmp .ge 54, 3) := by decide +kernel
theorem dX0_dearestLaw_29 : decode cX0_dearestLaw 29 = .ok (.iload_n 3, 1) := by decide +kernel
theorem dX0_dearestLaw_30 : decode cX0_dearestLaw 30 = .ok (.iconst 1, 1) := by decide +kernel
theorem dX0_dearestLaw_31 : decode cX0_dearestLaw 31 = .ok (.iload 6, 2) := by decide +kernel
theorem dX0_dearestLaw_33 : decode cX0_dearestLaw 33 = .ok (.ishl, 1) := by decide +kernel
theorem dX0_dearestLaw_34 : decode cX0_dearestLaw 34 = .ok (.iand, 1) := by decide +kernel
theorem dX0_dearestLaw_35 : decode cX0_dearestLaw 35 = .ok (.ifCond .ne 6, 3) := by decide +kernel
theorem dX0_dearestLaw_38 : decode cX0_dearestLaw 38 = .ok (.goto 36, 3) := by decide +kernel
theorem dX0_dearestLaw_41 : decode cX0_dearestLaw 41 = .ok (.aload_n 0, 1) := by decide +kernel
theorem dX0_dearestLaw_42 : decode cX0_dearestLaw 42 = .ok (.getfield 12, 3) := by decide +kernel
theorem dX0_dearestLaw_45 : decode cX0_dearestLaw 45 = .ok (.aload_n 1, 1) := by decide +kernel
theorem dX0_dearestLaw_46 : decode cX0_dearestLaw 46 = .ok (.iload_n 2, 1) := by decide +kernel
theorem dX0_dearestLaw_47 : decode cX0_dearestLaw 47 = .ok (.iconst 1, 1) := by decide +kernel
theorem dX0_dearestLaw_48 : decode cX0_dearestLaw 48 = .ok (.iload 6, 2) := by decide +kernel
theorem dX0_dearestLaw_50 : decode cX0_dearestLaw 50 = .ok (.ishl, 1) := by decide +kernel
theorem dX0_dearestLaw_51 : decode cX0_dearestLaw 51 = .ok (.invokevirtual 36, 3) := by decide +kernel
theorem dX0_dearestLaw_54 : decode cX0_dearestLaw 54 = .ok (.invokestatic 67, 3) := by decide +kernel
theorem dX0_dearestLaw_57 : decode cX0_dearestLaw 57 = .ok (.istore 7, 2) := by decide +kernel
theorem dX0_dearestLaw_59 : decode cX0_dearestLaw 59 = .ok (.iload 7, 2) := by decide +kernel
theorem dX0_dearestLaw_61 : decode cX0_dearestLaw 61 = .ok (.iload 5, 2) := by decide +kernel
theorem dX0_dearestLaw_63 : decode cX0_dearestLaw 63 = .ok (.if_icmp .ge 11, 3) := by decide +kernel
theorem dX0_dearestLaw_66 : decode cX0_dearestLaw 66 = .ok (.iload 7, 2) := by decide +kernel
theorem dX0_dearestLaw_68 : decode cX0_dearestLaw 68 = .ok (.istore 5, 2) := by decide +kernel
theorem dX0_dearestLaw_70 : decode cX0_dearestLaw 70 = .ok (.iload 6, 2) := by decide +kernel
theorem dX0_dearestLaw_72 : decode cX0_dearestLaw 72 = .ok (.istore 4, 2) := by decide +kernel
theorem dX0_dearestLaw_74 : decode cX0_dearestLaw 74 = .ok (.iinc 6 1, 3) := by decide +kernel
theorem dX0_dearestLaw_77 : decode cX0_dearestLaw 77 = .ok (.goto (-55), 3) := by decide +kernel
theorem dX0_dearestLaw_80 : decode cX0_dearestLaw 80 = .ok (.iload 4, 2) := by decide +kernel
theorem dX0_dearestLaw_82 : decode cX0_dearestLaw 82 = .ok (.ireturn, 1) := by decide +kernel
theorem dX0_latestFigure_0 : decode cX0_latestFigure 0 = .ok (.aload_n 0, 1) := by decide +kernel
theorem dX0_latestFigure_1 : decode cX0_latestFigure 1 = .ok (.getfield 24, 3) := by decide +kernel
theorem dX0_latestFigure_4 : decode cX0_latestFigure 4 = .ok (.aload_n 1, 1) := by decide +kernel
theorem dX0_latestFigure_5 : decode cX0_latestFigure 5 = .ok (.invokevirtual 28, 3) := by decide +kernel
theorem dX0_latestFigure_8 : decode cX0_latestFigure 8 = .ok (.bipush 9, 2) := by decide +kernel
theorem dX0_latestFigure_10 : decode cX0_latestFigure 10 = .ok (.istore 4, 2) := by decide +kernel
theorem dX0_latestFigure_12 : decode cX0_latestFigure 12 = .ok (.iload 4, 2) := by decide +kernel
theorem dX0_latestFigure_14 : decode cX0_latestFigure 14 = .ok (.ifCond .lt 48, 3) := by decide +kernel
theorem dX0_latestFigure_17 : decode cX0_latestFigure 17 = .ok (.aload_n 0, 1) := by decide +kernel
theorem dX0_latestFigure_18 : decode cX0_latestFigure 18 = .ok (.getfield 24, 3) := by decide +kernel
theorem dX0_latestFigure_21 : decode cX0_latestFigure 21 = .ok (.iload_n 3, 1) := by decide +kernel
theorem dX0_latestFigure_22 : decode cX0_latestFigure 22 = .ok (.iconst 1, 1) := by decide +kernel
theorem dX0_latestFigure_23 : decode cX0_latestFigure 23 = .ok (.iload 4, 2) := by decide +kernel
theorem dX0_latestFigure_25 : decode cX0_latestFigure 25 = .ok (.invokevirtual 32, 3) := by decide +kernel
theorem dX0_latestFigure_28 : decode cX0_latestFigure 28 = .ok (.aload_n 0, 1) := by decide +kernel
theorem dX0_latestFigure_29 : decode cX0_latestFigure 29 = .ok (.getfield 12, 3) := by decide +kernel
theorem dX0_latestFigure_32 : decode cX0_latestFigure 32 = .ok (.aload_n 0, 1) := by decide +kernel
theorem dX0_latestFigure_33 : decode cX0_latestFigure 33 = .ok (.getfield 24, 3) := by decide +kernel
theorem dX0_latestFigure_36 : decode cX0_latestFigure 36 = .ok (.iload_n 2, 1) := by decide +kernel
theorem dX0_latestFigure_37 : decode cX0_latestFigure 37 = .ok (.iconst 0, 1) := by decide +kernel
theorem dX0_latestFigure_38 : decode cX0_latestFigure 38 = .ok (.invokevirtual 36, 3) := by decide +kernel
theorem dX0_latestFigure_41 : decode cX0_latestFigure 41 = .ok (.pop, 1) := by decide +kernel
theorem dX0_latestFigure_42 : decode cX0_latestFigure 42 = .ok (.aload_n 0, 1) := by decide +kernel
theorem dX0_latestFigure_43 : decode cX0_latestFigure 43 = .ok (.getfield 12, 3) := by decide +kernel
theorem dX0_latestFigure_46 : decode cX0_latestFigure 46 = .ok (.iload_n 3, 1) := by decide +kernel
theorem dX0_latestFigure_47 : decode cX0_latestFigure 47 = .ok (.invokevirtual 72, 3) := by decide +kernel
theorem dX0_latestFigure_50 : decode cX0_latestFigure 50 = .ok (.ifCond .eq 6, 3) := by decide +kernel
theorem dX0_latestFigure_53 : decode cX0_latestFigure 53 = .ok (.iload 4, 2) := by decide +kernel
theorem dX0_latestFigure_55 : decode cX0_latestFigure 55 = .ok (.ireturn, 1) := by decide +kernel
theorem dX0_latestFigure_56 : decode cX0_latestFigure 56 = .ok (.iinc 4 (-1), 3) := by decide +kernel
theorem dX0_latestFigure_59 : decode cX0_latestFigure 59 = .ok (.goto (-47), 3) := by decide +kernel
theorem dX0_latestFigure_62 : decode cX0_latestFigure 62 = .ok (.bipush (-9), 2) := by decide +kernel
theorem dX0_latestFigure_64 : decode cX0_latestFigure 64 = .ok (.ireturn, 1) := by decide +kernel
theorem dX0_lawsNeeded_0 : decode cX0_lawsNeeded 0 = .ok (.aload_n 0, 1) := by decide +kernel
theorem dX0_lawsNeeded_1 : decode cX0_lawsNeeded 1 = .ok (.getfield 12, 3) := by decide +kernel
theorem dX0_lawsNeeded_4 : decode cX0_lawsNeeded 4 = .ok (.aload_n 1, 1) := by decide +kernel
theorem dX0_lawsNeeded_5 : decode cX0_lawsNeeded 5 = .ok (.iload_n 2, 1) := by decide +kernel
theorem dX0_lawsNeeded_6 : decode cX0_lawsNeeded 6 = .ok (.iconst 0, 1) := by decide +kernel
theorem dX0_lawsNeeded_7 : decode cX0_lawsNeeded 7 = .ok (.invokevirtual 36, 3) := by decide +kernel
theorem dX0_lawsNeeded_10 : decode cX0_lawsNeeded 10 = .ok (.pop, 1) := by decide +kernel
theorem dX0_lawsNeeded_11 : decode cX0_lawsNeeded 11 = .ok (.aload_n 0, 1) := by decide +kernel
theorem dX0_lawsNeeded_12 : decode cX0_lawsNeeded 12 = .ok (.getfield 12, 3) := by decide +kernel
theorem dX0_lawsNeeded_15 : decode cX0_lawsNeeded 15 = .ok (.iload_n 3, 1) := by decide +kernel
theorem dX0_lawsNeeded_16 : decode cX0_lawsNeeded 16 = .ok (.invokevirtual 72, 3) := by decide +kernel
theorem dX0_lawsNeeded_19 : decode cX0_lawsNeeded 19 = .ok (.ifCond .ne 5, 3) := by decide +kernel
theorem dX0_lawsNeeded_22 : decode cX0_lawsNeeded 22 = .ok (.iconst 0, 1) := by decide +kernel
theorem dX0_lawsNeeded_23 : decode cX0_lawsNeeded 23 = .ok (.ireturn, 1) := by decide +kernel
theorem dX0_lawsNeeded_24 : decode cX0_lawsNeeded 24 = .ok (.iconst 0, 1) := by decide +kernel
theorem dX0_lawsNeeded_25 : decode cX0_lawsNeeded 25 = .ok (.istore 4, 2) := by decide +kernel
theorem dX0_lawsNeeded_27 : decode cX0_lawsNeeded 27 = .ok (.iconst 0, 1) := by decide +kernel
theorem dX0_lawsNeeded_28 : decode cX0_lawsNeeded 28 = .ok (.istore 5, 2) := by decide +kernel
theorem dX0_lawsNeeded_30 : decode cX0_lawsNeeded 30 = .ok (.iload 5, 2) := by decide +kernel
theorem dX0_lawsNeeded_32 : decode cX0_lawsNeeded 32 = .ok (.bipush 10, 2) := by decide +kernel
theorem dX0_lawsNeeded_34 : decode cX0_lawsNeeded 34 = .ok (.if_icmp .ge 61, 3) := by decide +kernel
theorem dX0_lawsNeeded_37 : decode cX0_lawsNeeded 37 = .ok (.iload 5, 2) := by decide +kernel
theorem dX0_lawsNeeded_39 : decode cX0_lawsNeeded 39 = .ok (.iload_n 3, 1) := by decide +kernel
theorem dX0_lawsNeeded_40 : decode cX0_lawsNeeded 40 = .ok (.if_icmp .eq 49, 3) := by decide +kernel
theorem dX0_lawsNeeded_43 : decode cX0_lawsNeeded 43 = .ok (.aload_n 1, 1) := by decide +kernel
theorem dX0_lawsNeeded_44 : decode cX0_lawsNeeded 44 = .ok (.iload 5, 2) := by decide +kernel
theorem dX0_lawsNeeded_46 : decode cX0_lawsNeeded 46 = .ok (.invokevirtual 76, 3) := by decide +kernel
theorem dX0_lawsNeeded_49 : decode cX0_lawsNeeded 49 = .ok (.ifCond .ne 6, 3) := by decide +kernel
theorem dX0_lawsNeeded_52 : decode cX0_lawsNeeded 52 = .ok (.goto 37, 3) := by decide +kernel
theorem dX0_lawsNeeded_55 : decode cX0_lawsNeeded 55 = .ok (.aload_n 0, 1) := by decide +kernel
theorem dX0_lawsNeeded_56 : decode cX0_lawsNeeded 56 = .ok (.getfield 12, 3) := by decide +kernel
theorem dX0_lawsNeeded_59 : decode cX0_lawsNeeded 59 = .ok (.aload_n 1, 1) := by decide +kernel
theorem dX0_lawsNeeded_60 : decode cX0_lawsNeeded 60 = .ok (.iload_n 2, 1) := by decide +kernel
theorem dX0_lawsNeeded_61 : decode cX0_lawsNeeded 61 = .ok (.iconst 1, 1) := by decide +kernel
theorem dX0_lawsNeeded_62 : decode cX0_lawsNeeded 62 = .ok (.iload 5, 2) := by decide +kernel
theorem dX0_lawsNeeded_64 : decode cX0_lawsNeeded 64 = .ok (.ishl, 1) := by decide +kernel
theorem dX0_lawsNeeded_65 : decode cX0_lawsNeeded 65 = .ok (.invokevirtual 36, 3) := by decide +kernel
theorem dX0_lawsNeeded_68 : decode cX0_lawsNeeded 68 = .ok (.pop, 1) := by decide +kernel
theorem dX0_lawsNeeded_69 : decode cX0_lawsNeeded 69 = .ok (.aload_n 0, 1) := by decide +kernel
theorem dX0_lawsNeeded_70 : decode cX0_lawsNeeded 70 = .ok (.getfield 12, 3) := by decide +kernel
theorem dX0_lawsNeeded_73 : decode cX0_lawsNeeded 73 = .ok (.iload_n 3, 1) := by decide +kernel
theorem dX0_lawsNeeded_74 : decode cX0_lawsNeeded 74 = .ok (.invokevirtual 72, 3) := by decide +kernel
theorem dX0_lawsNeeded_77 : decode cX0_lawsNeeded 77 = .ok (.ifCond .ne 12, 3) := by decide +kernel
theorem dX0_lawsNeeded_80 : decode cX0_lawsNeeded 80 = .ok (.iload 4, 2) := by decide +kernel
theorem dX0_lawsNeeded_82 : decode cX0_lawsNeeded 82 = .ok (.iconst 1, 1) := by decide +kernel
theorem dX0_lawsNeeded_83 : decode cX0_lawsNeeded 83 = .ok (.iload 5, 2) := by decide +kernel
theorem dX0_lawsNeeded_85 : decode cX0_lawsNeeded 85 = .ok (.ishl, 1) := by decide +kernel
theorem dX0_lawsNeeded_86 : decode cX0_lawsNeeded 86 = .ok (.ior, 1) := by decide +kernel
theorem dX0_lawsNeeded_87 : decode cX0_lawsNeeded 87 = .ok (.istore 4, 2) := by decide +kernel
theorem dX0_lawsNeeded_89 : decode cX0_lawsNeeded 89 = .ok (.iinc 5 1, 3) := by decide +kernel
theorem dX0_lawsNeeded_92 : decode cX0_lawsNeeded 92 = .ok (.goto (-62), 3) := by decide +kernel
theorem dX0_lawsNeeded_95 : decode cX0_lawsNeeded 95 = .ok (.iload 4, 2) := by decide +kernel
theorem dX0_lawsNeeded_97 : decode cX0_lawsNeeded 97 = .ok (.ireturn, 1) := by decide +kernel
theorem dX0_idleThings_0 : decode cX0_idleThings 0 = .ok (.aload_n 0, 1) := by decide +kernel
theorem dX0_idleThings_1 : decode cX0_idleThings 1 = .ok (.getfield 12, 3) := by decide +kernel
theorem dX0_idleThings_4 : decode cX0_idleThings 4 = .ok (.aload_n 1, 1) := by decide +kernel
theorem dX0_idleThings_5 : decode cX0_idleThings 5 = .ok (.iload_n 2, 1) := by decide +kernel
theorem dX0_idleThings_6 : decode cX0_idleThings 6 = .ok (.iconst 0, 1) := by decide +kernel
theorem dX0_idleThings_7 : decode cX0_idleThings 7 = .ok (.invokevirtual 36, 3) := by decide +kernel
theorem dX0_idleThings_10 : decode cX0_idleThings 10 = .ok (.pop, 1) := by decide +kernel
theorem dX0_idleThings_11 : decode cX0_idleThings 11 = .ok (.iconst 0, 1) := by decide +kernel
theorem dX0_idleThings_12 : decode cX0_idleThings 12 = .ok (.istore_n 3, 1) := by decide +kernel
theorem dX0_idleThings_13 : decode cX0_idleThings 13 = .ok (.iconst 0, 1) := by decide +kernel
theorem dX0_idleThings_14 : decode cX0_idleThings 14 = .ok (.istore 4, 2) := by decide +kernel
theorem dX0_idleThings_16 : decode cX0_idleThings 16 = .ok (.iload 4, 2) := by decide +kernel
theorem dX0_idleThings_18 : decode cX0_idleThings 18 = .ok (.bipush 8, 2) := by decide +kernel
theorem dX0_idleThings_20 : decode cX0_idleThings 20 = .ok (.if_icmp .ge 62, 3) := by decide +kernel
theorem dX0_idleThings_23 : decode cX0_idleThings 23 = .ok (.iload_n 2, 1) := by decide +kernel
theorem dX0_idleThings_24 : decode cX0_idleThings 24 = .ok (.iload 4, 2) := by decide +kernel
theorem dX0_idleThings_26 : decode cX0_idleThings 26 = .ok (.invokestatic 46, 3) := by decide +kernel
theorem dX0_idleThings_29 : decode cX0_idleThings 29 = .ok (.ifCond .ne 6, 3) := by decide +kernel
theorem dX0_idleThings_32 : decode cX0_idleThings 32 = .ok (.goto 44, 3) := by decide +kernel
theorem dX0_idleThings_35 : decode cX0_idleThings 35 = .ok (.aload_n 0, 1) := by decide +kernel
theorem dX0_idleThings_36 : decode cX0_idleThings 36 = .ok (.getfield 18, 3) := by decide +kernel
theorem dX0_idleThings_39 : decode cX0_idleThings 39 = .ok (.aload_n 1, 1) := by decide +kernel
theorem dX0_idleThings_40 : decode cX0_idleThings 40 = .ok (.iload_n 2, 1) := by decide +kernel
theorem dX0_idleThings_41 : decode cX0_idleThings 41 = .ok (.iload 4, 2) := by decide +kernel
theorem dX0_idleThings_43 : decode cX0_idleThings 43 = .ok (.invokestatic 53, 3) := by decide +kernel
theorem dX0_idleThings_46 : decode cX0_idleThings 46 = .ok (.iconst (-1), 1) := by decide +kernel
theorem dX0_idleThings_47 : decode cX0_idleThings 47 = .ok (.ixor, 1) := by decide +kernel
theorem dX0_idleThings_48 : decode cX0_idleThings 48 = .ok (.iand, 1) := by decide +kernel
theorem dX0_idleThings_49 : decode cX0_idleThings 49 = .ok (.iconst 0, 1) := by decide +kernel
theorem dX0_idleThings_50 : decode cX0_idleThings 50 = .ok (.invokevirtual 36, 3) := by decide +kernel
theorem dX0_idleThings_53 : decode cX0_idleThings 53 = .ok (.pop, 1) := by decide +kernel
theorem dX0_idleThings_54 : decode cX0_idleThings 54 = .ok (.aload_n 0, 1) := by decide +kernel
theorem dX0_idleThings_55 : decode cX0_idleThings 55 = .ok (.getfield 18, 3) := by decide +kernel
theorem dX0_idleThings_58 : decode cX0_idleThings 58 = .ok (.aload_n 0, 1) := by decide +kernel
theorem dX0_idleThings_59 : decode cX0_idleThings 59 = .ok (.getfield 12, 3) := by decide +kernel
theorem dX0_idleThings_62 : decode cX0_idleThings 62 = .ok (.invokevirtual 79, 3) := by decide +kernel
theorem dX0_idleThings_65 : decode cX0_idleThings 65 = .ok (.ifCond .eq 11, 3) := by decide +kernel
theorem dX0_idleThings_68 : decode cX0_idleThings 68 = .ok (.iload_n 3, 1) := by decide +kernel
theorem dX0_idleThings_69 : decode cX0_idleThings 69 = .ok (.iload 4, 2) := by decide +kernel
theorem dX0_idleThings_71 : decode cX0_idleThings 71 = .ok (.invokestatic 53, 3) := by decide +kernel
theorem dX0_idleThings_74 : decode cX0_idleThings 74 = .ok (.ior, 1) := by decide +kernel
theorem dX0_idleThings_75 : decode cX0_idleThings 75 = .ok (.istore_n 3, 1) := by decide +kernel
theorem dX0_idleThings_76 : decode cX0_idleThings 76 = .ok (.iinc 4 1, 3) := by decide +kernel
theorem dX0_idleThings_79 : decode cX0_idleThings 79 = .ok (.goto (-63), 3) := by decide +kernel
theorem dX0_idleThings_82 : decode cX0_idleThings 82 = .ok (.iload_n 3, 1) := by decide +kernel
theorem dX0_idleThings_83 : decode cX0_idleThings 83 = .ok (.ireturn, 1) := by decide +kernel
theorem dX0_pocketsInDays_0 : decode cX0_pocketsInDays 0 = .ok (.iload_n 2, 1) := by decide +kernel
theorem dX0_pocketsInDays_1 : decode cX0_pocketsInDays 1 = .ok (.istore 4, 2) := by decide +kernel
theorem dX0_pocketsInDays_3 : decode cX0_pocketsInDays 3 = .ok (.iconst 0, 1) := by decide +kernel
theorem dX0_pocketsInDays_4 : decode cX0_pocketsInDays 4 = .ok (.istore 5, 2) := by decide +kernel
theorem dX0_pocketsInDays_6 : decode cX0_pocketsInDays 6 = .ok (.iload 5, 2) := by decide +kernel
theorem dX0_pocketsInDays_8 : decode cX0_pocketsInDays 8 = .ok (.iload_n 3, 1) := by decide +kernel
theorem dX0_pocketsInDays_9 : decode cX0_pocketsInDays 9 = .ok (.if_icmp .ge 30, 3) := by decide +kernel
theorem dX0_pocketsInDays_12 : decode cX0_pocketsInDays 12 = .ok (.aload_n 0, 1) := by decide +kernel
theorem dX0_pocketsInDays_13 : decode cX0_pocketsInDays 13 = .ok (.getfield 12, 3) := by decide +kernel
theorem dX0_pocketsInDays_16 : decode cX0_pocketsInDays 16 = .ok (.aload_n 1, 1) := by decide +kernel
theorem dX0_pocketsInDays_17 : decode cX0_pocketsInDays 17 = .ok (.iload 4, 2) := by decide +kernel
theorem dX0_pocketsInDays_19 : decode cX0_pocketsInDays 19 = .ok (.iconst 0, 1) := by decide +kernel
theorem dX0_pocketsInDays_20 : decode cX0_pocketsInDays 20 = .ok (.invokevirtual 36, 3) := by decide +kernel
theorem dX0_pocketsInDays_23 : decode cX0_pocketsInDays 23 = .ok (.pop, 1) := by decide +kernel
theorem dX0_pocketsInDays_24 : decode cX0_pocketsInDays 24 = .ok (.aload_n 0, 1) := by decide +kernel
theorem dX0_pocketsInDays_25 : decode cX0_pocketsInDays 25 = .ok (.getfield 12, 3) := by decide +kernel
theorem dX0_pocketsInDays_28 : decode cX0_pocketsInDays 28 = .ok (.invokevirtual 83, 3) := by decide +kernel
theorem dX0_pocketsInDays_31 : decode cX0_pocketsInDays 31 = .ok (.istore 4, 2) := by decide +kernel
theorem dX0_pocketsInDays_33 : decode cX0_pocketsInDays 33 = .ok (.iinc 5 1, 3) := by decide +kernel
theorem dX0_pocketsInDays_36 : decode cX0_pocketsInDays 36 = .ok (.goto (-30), 3) := by decide +kernel
theorem dX0_pocketsInDays_39 : decode cX0_pocketsInDays 39 = .ok (.iload 4, 2) := by decide +kernel
theorem dX0_pocketsInDays_41 : decode cX0_pocketsInDays 41 = .ok (.ireturn, 1) := by decide +kernel
theorem dX0_lawsInDays_0 : decode cX0_lawsInDays 0 = .ok (.iload_n 2, 1) := by decide +kernel
theorem dX0_lawsInDays_1 : decode cX0_lawsInDays 1 = .ok (.istore 4, 2) := by decide +kernel
theorem dX0_lawsInDays_3 : decode cX0_lawsInDays 3 = .ok (.iconst 0, 1) := by decide +kernel
theorem dX0_lawsInDays_4 : decode cX0_lawsInDays 4 = .ok (.istore 5, 2) := by decide +kernel
theorem dX0_lawsInDays_6 : decode cX0_lawsInDays 6 = .ok (.iconst 0, 1) := by decide +kernel
theorem dX0_lawsInDays_7 : decode cX0_lawsInDays 7 = .ok (.istore 6, 2) := by decide +kernel
theorem dX0_lawsInDays_9 : decode cX0_lawsInDays 9 = .ok (.iload 6, 2) := by decide +kernel
theorem dX0_lawsInDays_11 : decode cX0_lawsInDays 11 = .ok (.iload_n 3, 1) := by decide +kernel
theorem dX0_lawsInDays_12 : decode cX0_lawsInDays 12 = .ok (.if_icmp .ge 34, 3) := by decide +kernel
theorem dX0_lawsInDays_15 : decode cX0_lawsInDays 15 = .ok (.iload 5, 2) := by decide +kernel
theorem dX0_lawsInDays_17 : decode cX0_lawsInDays 17 = .ok (.aload_n 0, 1) := by decide +kernel
theorem dX0_lawsInDays_18 : decode cX0_lawsInDays 18 = .ok (.getfield 12, 3) := by decide +kernel
theorem dX0_lawsInDays_21 : decode cX0_lawsInDays 21 = .ok (.aload_n 1, 1) := by decide +kernel
theorem dX0_lawsInDays_22 : decode cX0_lawsInDays 22 = .ok (.iload 4, 2) := by decide +kernel
theorem dX0_lawsInDays_24 : decode cX0_lawsInDays 24 = .ok (.iconst 0, 1) := by decide +kernel
theorem dX0_lawsInDays_25 : decode cX0_lawsInDays 25 = .ok (.invokevirtual 36, 3) := by decide +kernel
theorem dX0_lawsInDays_28 : decode cX0_lawsInDays 28 = .ok (.ior, 1) := by decide +kernel
theorem dX0_lawsInDays_29 : decode cX0_lawsInDays 29 = .ok (.istore 5, 2) := by decide +kernel
theorem dX0_lawsInDays_31 : decode cX0_lawsInDays 31 = .ok (.aload_n 0, 1) := by decide +kernel
theorem dX0_lawsInDays_32 : decode cX0_lawsInDays 32 = .ok (.getfield 12, 3) := by decide +kernel
theorem dX0_lawsInDays_35 : decode cX0_lawsInDays 35 = .ok (.invokevirtual 83, 3) := by decide +kernel
theorem dX0_lawsInDays_38 : decode cX0_lawsInDays 38 = .ok (.istore 4, 2) := by decide +kernel
theorem dX0_lawsInDays_40 : decode cX0_lawsInDays 40 = .ok (.iinc 6 1, 3) := by decide +kernel
theorem dX0_lawsInDays_43 : decode cX0_lawsInDays 43 = .ok (.goto (-34), 3) := by decide +kernel
theorem dX0_lawsInDays_46 : decode cX0_lawsInDays 46 = .ok (.iload 5, 2) := by decide +kernel
theorem dX0_lawsInDays_48 : decode cX0_lawsInDays 48 = .ok (.ireturn, 1) := by decide +kernel
theorem dX1_init_0 : decode cX1_init 0 = .ok (.aload_n 0, 1) := by decide +kernel
theorem dX1_init_1 : decode cX1_init 1 = .ok (.invokespecial 3, 3) := by decide +kernel
theorem dX1_init_4 : decode cX1_init 4 = .ok (.aload_n 0, 1) := by decide +kernel
theorem dX1_init_5 : decode cX1_init 5 = .ok (.bipush 12, 2) := by decide +kernel
theorem dX1_init_7 : decode cX1_init 7 = .ok (.newarray .int, 2) := by decide +kernel
theorem dX1_init_9 : decode cX1_init 9 = .ok (.putfield 9, 3) := by decide +kernel
theorem dX1_init_12 : decode cX1_init 12 = .ok (.aload_n 0, 1) := by decide +kernel
theorem dX1_init_13 : decode cX1_init 13 = .ok (.bipush 12, 2) := by decide +kernel
theorem dX1_init_15 : decode cX1_init 15 = .ok (.newarray .int, 2) := by decide +kernel
theorem dX1_init_17 : decode cX1_init 17 = .ok (.putfield 15, 3) := by decide +kernel
theorem dX1_init_20 : decode cX1_init 20 = .ok (.return_, 1) := by decide +kernel
theorem dX1_run_0 : decode cX1_run 0 = .ok (.aload_n 0, 1) := by decide +kernel
theorem dX1_run_1 : decode cX1_run 1 = .ok (.iconst 0, 1) := by decide +kernel
theorem dX1_run_2 : decode cX1_run 2 = .ok (.putfield 18, 3) := by decide +kernel
theorem dX1_run_5 : decode cX1_run 5 = .ok (.aload_n 0, 1) := by decide +kernel
theorem dX1_run_6 : decode cX1_run 6 = .ok (.iload_n 2, 1) := by decide +kernel
theorem dX1_run_7 : decode cX1_run 7 = .ok (.putfield 22, 3) := by decide +kernel
theorem dX1_run_10 : decode cX1_run 10 = .ok (.iconst 0, 1) := by decide +kernel
theorem dX1_run_11 : decode cX1_run 11 = .ok (.istore 4, 2) := by decide +kernel
theorem dX1_run_13 : decode cX1_run 13 = .ok (.iload 4, 2) := by decide +kernel
theorem dX1_run_15 : decode cX1_run 15 = .ok (.bipush 12, 2) := by decide +kernel
theorem dX1_run_17 : decode cX1_run 17 = .ok (.if_icmp .ge 85, 3) := by decide +kernel
theorem dX1_run_20 : decode cX1_run 20 = .ok (.aload_n 1, 1) := by decide +kernel
theorem dX1_run_21 : decode cX1_run 21 = .ok (.iload 4, 2) := by decide +kernel
theorem dX1_run_23 : decode cX1_run 23 = .ok (.aload_n 0, 1) := by decide +kernel
theorem dX1_run_24 : decode cX1_run 24 = .ok (.getfield 22, 3) := by decide +kernel
theorem dX1_run_27 : decode cX1_run 27 = .ok (.iload_n 3, 1) := by decide +kernel
theorem dX1_run_28 : decode cX1_run 28 = .ok (.aload_n 0, 1) := by decide +kernel
theorem dX1_run_29 : decode cX1_run 29 = .ok (.getfield 18, 3) := by decide +kernel
theorem dX1_run_32 : decode cX1_run 32 = .ok (.ior, 1) := by decide +kernel
theorem dX1_run_33 : decode cX1_run 33 = .ok (.invokevirtual 25, 3) := by decide +kernel
theorem dX1_run_36 : decode cX1_run 36 = .ok (.istore 5, 2) := by decide +kernel
theorem dX1_run_38 : decode cX1_run 38 = .ok (.iload 5, 2) := by decide +kernel
theorem dX1_run_40 : decode cX1_run 40 = .ok (.bipush (-9), 2) := by decide +kernel
theorem dX1_run_42 : decode cX1_run 42 = .ok (.if_icmp .eq 30, 3) := by decide +kernel
theorem dX1_run_45 : decode cX1_run 45 = .ok (.aload_n 0, 1) := by decide +kernel
theorem dX1_run_46 : decode cX1_run 46 = .ok (.aload_n 1, 1) := by decide +kernel
theorem dX1_run_47 : decode cX1_run 47 = .ok (.iload 5, 2) := by decide +kernel
theorem dX1_run_49 : decode cX1_run 49 = .ok (.aload_n 0, 1) := by decide +kernel
theorem dX1_run_50 : decode cX1_run 50 = .ok (.getfield 22, 3) := by decide +kernel
theorem dX1_run_53 : decode cX1_run 53 = .ok (.invokevirtual 31, 3) := by decide +kernel
theorem dX1_run_56 : decode cX1_run 56 = .ok (.putfield 22, 3) := by decide +kernel
theorem dX1_run_59 : decode cX1_run 59 = .ok (.aload_n 0, 1) := by decide +kernel
theorem dX1_run_60 : decode cX1_run 60 = .ok (.dup, 1) := by decide +kernel
theorem dX1_run_61 : decode cX1_run 61 = .ok (.getfield 18, 3) := by decide +kernel
theorem dX1_run_64 : decode cX1_run 64 = .ok (.iconst 1, 1) := by decide +kernel
theorem dX1_run_65 : decode cX1_run 65 = .ok (.iload 5, 2) := by decide +kernel
theorem dX1_run_67 : decode cX1_run 67 = .ok (.ishl, 1) := by decide +kernel
theorem dX1_run_68 : decode cX1_run 68 = .ok (.ior, 1) := by decide +kernel
theorem dX1_run_69 : decode cX1_run 69 = .ok (.putfield 18, 3) := by decide +kernel
theorem dX1_run_72 : decode cX1_run 72 = .ok (.aload_n 0, 1) := by decide +kernel
theorem dX1_run_73 : decode cX1_run 73 = .ok (.getfield 9, 3) := by decide +kernel
theorem dX1_run_76 : decode cX1_run 76 = .ok (.iload 4, 2) := by decide +kernel
theorem dX1_run_78 : decode cX1_run 78 = .ok (.iload 5, 2) := by decide +kernel
theorem dX1_run_80 : decode cX1_run 80 = .ok (.invokestatic 35, 3) := by decide +kernel
theorem dX1_run_83 : decode cX1_run 83 = .ok (.aload_n 0, 1) := by decide +kernel
theorem dX1_run_84 : decode cX1_run 84 = .ok (.getfield 15, 3) := by decide +kernel
theorem dX1_run_87 : decode cX1_run 87 = .ok (.iload 4, 2) := by decide +kernel
theorem dX1_run_89 : decode cX1_run 89 = .ok (.aload_n 0, 1) := by decide +kernel
theorem dX1_run_90 : decode cX1_run 90 = .ok (.getfield 22, 3) := by decide +kernel
theorem dX1_run_93 : decode cX1_run 93 = .ok (.invokestatic 35, 3) := by decide +kernel
theorem dX1_run_96 : decode cX1_run 96 = .ok (.iinc 4 1, 3) := by decide +kernel
theorem dX1_run_99 : decode cX1_run 99 = .ok (.goto (-86), 3) := by decide +kernel
theorem dX1_run_102 : decode cX1_run 102 = .ok (.aload_n 0, 1) := by decide +kernel
theorem dX1_run_103 : decode cX1_run 103 = .ok (.getfield 18, 3) := by decide +kernel
theorem dX1_run_106 : decode cX1_run 106 = .ok (.ireturn, 1) := by decide +kernel
theorem dX1_countDone_0 : decode cX1_countDone 0 = .ok (.aload_n 0, 1) := by decide +kernel
theorem dX1_countDone_1 : decode cX1_countDone 1 = .ok (.aload_n 1, 1) := by decide +kernel
theorem dX1_countDone_2 : decode cX1_countDone 2 = .ok (.iload_n 2, 1) := by decide +kernel
theorem dX1_countDone_3 : decode cX1_countDone 3 = .ok (.iconst 0, 1) := by decide +kernel
theorem dX1_countDone_4 : decode cX1_countDone 4 = .ok (.invokevirtual 39, 3) := by decide +kernel
theorem dX1_countDone_7 : decode cX1_countDone 7 = .ok (.invokestatic 43, 3) := by decide +kernel
theorem dX1_countDone_10 : decode cX1_countDone 10 = .ok (.ireturn, 1) := by decide +kernel
theorem dX1_lawsDone_0 : decode cX1_lawsDone 0 = .ok (.aload_n 0, 1) := by decide +kernel
theorem dX1_lawsDone_1 : decode cX1_lawsDone 1 = .ok (.getfield 18, 3) := by decide +kernel
theorem dX1_lawsDone_4 : decode cX1_lawsDone 4 = .ok (.ireturn, 1) := by decide +kernel
theorem dX1_pocketsAtEnd_0 : decode cX1_pocketsAtEnd 0 = .ok (.aload_n 0, 1) := by decide +kernel
theorem dX1_pocketsAtEnd_1 : decode cX1_pocketsAtEnd 1 = .ok (.getfield 22, 3) := by decide +kernel
theorem dX1_pocketsAtEnd_4 : decode cX1_pocketsAtEnd 4 = .ok (.ireturn, 1) := by decide +kernel
theorem dX1_lawIn_0 : decode cX1_lawIn 0 = .ok (.aload_n 0, 1) := by decide +kernel
theorem dX1_lawIn_1 : decode cX1_lawIn 1 = .ok (.getfield 9, 3) := by decide +kernel
theorem dX1_lawIn_4 : decode cX1_lawIn 4 = .ok (.iload_n 1, 1) := by decide +kernel
theorem dX1_lawIn_5 : decode cX1_lawIn 5 = .ok (.invokestatic 49, 3) := by decide +kernel
theorem dX1_lawIn_8 : decode cX1_lawIn 8 = .ok (.ireturn, 1) := by decide +kernel
theorem dX1_pocketsBehind_0 : decode cX1_pocketsBehind 0 = .ok (.aload_n 0, 1) := by decide +kernel
theorem dX1_pocketsBehind_1 : decode cX1_pocketsBehind 1 = .ok (.getfield 15, 3) := by decide +kernel
theorem dX1_pocketsBehind_4 : decode cX1_pocketsBehind 4 = .ok (.iload_n 1, 1) := by decide +kernel
theorem dX1_pocketsBehind_5 : decode cX1_pocketsBehind 5 = .ok (.invokestatic 49, 3) := by decide +kernel
theorem dX1_pocketsBehind_8 : decode cX1_pocketsBehind 8 = .ok (.ireturn, 1) := by decide +kernel
theorem dX1_does_0 : decode cX1_does 0 = .ok (.aload_n 0, 1) := by decide +kernel
theorem dX1_does_1 : decode cX1_does 1 = .ok (.getfield 18, 3) := by decide +kernel
theorem dX1_does_4 : decode cX1_does 4 = .ok (.iconst 1, 1) := by decide +kernel
theorem dX1_does_5 : decode cX1_does 5 = .ok (.iload_n 1, 1) := by decide +kernel
theorem dX1_does_6 : decode cX1_does 6 = .ok (.ishl, 1) := by decide +kernel
theorem dX1_does_7 : decode cX1_does 7 = .ok (.iand, 1) := by decide +kernel
theorem dX1_does_8 : decode cX1_does 8 = .ok (.ifCond .eq 7, 3) := by decide +kernel
theorem dX1_does_11 : decode cX1_does 11 = .ok (.iconst 1, 1) := by decide +kernel
theorem dX1_does_12 : decode cX1_does 12 = .ok (.goto 4, 3) := by decide +kernel
theorem dX1_does_15 : decode cX1_does 15 = .ok (.iconst 0, 1) := by decide +kernel
theorem dX1_does_16 : decode cX1_does 16 = .ok (.ireturn, 1) := by decide +kernel
theorem dX1_hourOf_0 : decode cX1_hourOf 0 = .ok (.iconst 0, 1) := by decide +kernel
theorem dX1_hourOf_1 : decode cX1_hourOf 1 = .ok (.istore_n 2, 1) := by decide +kernel
theorem dX1_hourOf_2 : decode cX1_hourOf 2 = .ok (.iload_n 2, 1) := by decide +kernel
theorem dX1_hourOf_3 : decode cX1_hourOf 3 = .ok (.bipush 12, 2) := by decide +kernel
theorem dX1_hourOf_5 : decode cX1_hourOf 5 = .ok (.if_icmp .ge 20, 3) := by decide +kernel
theorem dX1_hourOf_8 : decode cX1_hourOf 8 = .ok (.aload_n 0, 1) := by decide +kernel
theorem dX1_hourOf_9 : decode cX1_hourOf 9 = .ok (.iload_n 2, 1) := by decide +kernel
theorem dX1_hourOf_10 : decode cX1_hourOf 10 = .ok (.invokevirtual 53, 3) := by decide +kernel
theorem dX1_hourOf_13 : decode cX1_hourOf 13 = .ok (.iload_n 1, 1) := by decide +kernel
theorem dX1_hourOf_14 : decode cX1_hourOf 14 = .ok (.if_icmp .ne 5, 3) := by decide +kernel
theorem dX1_hourOf_17 : decode cX1_hourOf 17 = .ok (.iload_n 2, 1) := by decide +kernel
theorem dX1_hourOf_18 : decode cX1_hourOf 18 = .ok (.ireturn, 1) := by decide +kernel
theorem dX1_hourOf_19 : decode cX1_hourOf 19 = .ok (.iinc 2 1, 3) := by decide +kernel
theorem dX1_hourOf_22 : decode cX1_hourOf 22 = .ok (.goto (-20), 3) := by decide +kernel
theorem dX1_hourOf_25 : decode cX1_hourOf 25 = .ok (.bipush (-9), 2) := by decide +kernel
theorem dX1_hourOf_27 : decode cX1_hourOf 27 = .ok (.ireturn, 1) := by decide +kernel
theorem dX1_firstIdle_0 : decode cX1_firstIdle 0 = .ok (.aload_n 0, 1) := by decide +kernel
theorem dX1_firstIdle_1 : decode cX1_firstIdle 1 = .ok (.bipush (-9), 2) := by decide +kernel
theorem dX1_firstIdle_3 : decode cX1_firstIdle 3 = .ok (.invokevirtual 56, 3) := by decide +kernel
theorem dX1_firstIdle_6 : decode cX1_firstIdle 6 = .ok (.ireturn, 1) := by decide +kernel
theorem dX1_isHourForHourAs_0 : decode cX1_isHourForHourAs 0 = .ok (.iconst 0, 1) := by decide +kernel
theorem dX1_isHourForHourAs_1 : decode cX1_isHourForHourAs 1 = .ok (.istore_n 2, 1) := by decide +kernel
theorem dX1_isHourForHourAs_2 : decode cX1_isHourForHourAs 2 = .ok (.iload_n 2, 1) := by decide +kernel
theorem dX1_isHourForHourAs_3 : decode cX1_isHourForHourAs 3 = .ok (.bipush 12, 2) := by decide +kernel
theorem dX1_isHourForHourAs_5 : decode cX1_isHourForHourAs 5 = .ok (.if_icmp .ge 24, 3) := by decide +kernel
theorem dX1_isHourForHourAs_8 : decode cX1_isHourForHourAs 8 = .ok (.aload_n 0, 1) := by decide +kernel
theorem dX1_isHourForHourAs_9 : decode cX1_isHourForHourAs 9 = .ok (.iload_n 2, 1) := by decide +kernel
theorem dX1_isHourForHourAs_10 : decode cX1_isHourForHourAs 10 = .ok (.invokevirtual 53, 3) := by decide +kernel
theorem dX1_isHourForHourAs_13 : decode cX1_isHourForHourAs 13 = .ok (.aload_n 1, 1) := by decide +kernel
theorem dX1_isHourForHourAs_14 : decode cX1_isHourForHourAs 14 = .ok (.iload_n 2, 1) := by decide +kernel
theorem dX1_isHourForHourAs_15 : decode cX1_isHourForHourAs 15 = .ok (.invokevirtual 53, 3) := by decide +kernel
theorem dX1_isHourForHourAs_18 : decode cX1_isHourForHourAs 18 = .ok (.if_icmp .eq 5, 3) := by decide +kernel
theorem dX1_isHourForHourAs_21 : decode cX1_isHourForHourAs 21 = .ok (.iconst 0, 1) := by decide +kernel
theorem dX1_isHourForHourAs_22 : decode cX1_isHourForHourAs 22 = .ok (.ireturn, 1) := by decide +kernel
theorem dX1_isHourForHourAs_23 : decode cX1_isHourForHourAs 23 = .ok (.iinc 2 1, 3) := by decide +kernel
theorem dX1_isHourForHourAs_26 : decode cX1_isHourForHourAs 26 = .ok (.goto (-24), 3) := by decide +kernel
theorem dX1_isHourForHourAs_29 : decode cX1_isHourForHourAs 29 = .ok (.iconst 1, 1) := by decide +kernel
theorem dX1_isHourForHourAs_30 : decode cX1_isHourForHourAs 30 = .ok (.ireturn, 1) := by decide +kernel
theorem dX2_init_0 : decode cX2_init 0 = .ok (.aload_n 0, 1) := by decide +kernel
theorem dX2_init_1 : decode cX2_init 1 = .ok (.invokespecial 3, 3) := by decide +kernel
theorem dX2_init_4 : decode cX2_init 4 = .ok (.aload_n 0, 1) := by decide +kernel
theorem dX2_init_5 : decode cX2_init 5 = .ok (.new 9, 3) := by decide +kernel
theorem dX2_init_8 : decode cX2_init 8 = .ok (.dup, 1) := by decide +kernel
theorem dX2_init_9 : decode cX2_init 9 = .ok (.invokespecial 11, 3) := by decide +kernel
theorem dX2_init_12 : decode cX2_init 12 = .ok (.putfield 12, 3) := by decide +kernel
theorem dX2_init_15 : decode cX2_init 15 = .ok (.aload_n 0, 1) := by decide +kernel
theorem dX2_init_16 : decode cX2_init 16 = .ok (.new 18, 3) := by decide +kernel
theorem dX2_init_19 : decode cX2_init 19 = .ok (.dup, 1) := by decide +kernel
theorem dX2_init_20 : decode cX2_init 20 = .ok (.invokespecial 20, 3) := by decide +kernel
theorem dX2_init_23 : decode cX2_init 23 = .ok (.putfield 21, 3) := by decide +kernel
theorem dX2_init_26 : decode cX2_init 26 = .ok (.aload_n 0, 1) := by decide +kernel
theorem dX2_init_27 : decode cX2_init 27 = .ok (.bipush 61, 2) := by decide +kernel
theorem dX2_init_29 : decode cX2_init 29 = .ok (.newarray .long, 2) := by decide +kernel
theorem dX2_init_31 : decode cX2_init 31 = .ok (.putfield 25, 3) := by decide +kernel
theorem dX2_init_34 : decode cX2_init 34 = .ok (.aload_n 0, 1) := by decide +kernel
theorem dX2_init_35 : decode cX2_init 35 = .ok (.sipush 256, 3) := by decide +kernel
theorem dX2_init_38 : decode cX2_init 38 = .ok (.newarray .int, 2) := by decide +kernel
theorem dX2_init_40 : decode cX2_init 40 = .ok (.putfield 29, 3) := by decide +kernel
theorem dX2_init_43 : decode cX2_init 43 = .ok (.return_, 1) := by decide +kernel
theorem dX2_doneTogether_0 : decode cX2_doneTogether 0 = .ok (.iconst 0, 1) := by decide +kernel
theorem dX2_doneTogether_1 : decode cX2_doneTogether 1 = .ok (.istore_n 3, 1) := by decide +kernel
theorem dX2_doneTogether_2 : decode cX2_doneTogether 2 = .ok (.iconst 0, 1) := by decide +kernel
theorem dX2_doneTogether_3 : decode cX2_doneTogether 3 = .ok (.istore 4, 2) := by decide +kernel
theorem dX2_doneTogether_5 : decode cX2_doneTogether 5 = .ok (.iload 4, 2) := by decide +kernel
theorem dX2_doneTogether_7 : decode cX2_doneTogether 7 = .ok (.aload_n 1, 1) := by decide +kernel
theorem dX2_doneTogether_8 : decode cX2_doneTogether 8 = .ok (.invokevirtual 33, 3) := by decide +kernel
theorem dX2_doneTogether_11 : decode cX2_doneTogether 11 = .ok (.if_icmp .ge 30, 3) := by decide +kernel
theorem dX2_doneTogether_14 : decode cX2_doneTogether 14 = .ok (.iload_n 3, 1) := by decide +kernel
theorem dX2_doneTogether_15 : decode cX2_doneTogether 15 = .ok (.aload_n 0, 1) := by decide +kernel
theorem dX2_doneTogether_16 : decode cX2_doneTogether 16 = .ok (.getfield 12, 3) := by decide +kernel
theorem dX2_doneTogether_19 : decode cX2_doneTogether 19 = .ok (.aload_n 1, 1) := by decide +kernel
theorem dX2_doneTogether_20 : decode cX2_doneTogether 20 = .ok (.aload_n 1, 1) := by decide +kernel
theorem dX2_doneTogether_21 : decode cX2_doneTogether 21 = .ok (.iload 4, 2) := by decide +kernel
theorem dX2_doneTogether_23 : decode cX2_doneTogether 23 = .ok (.invokevirtual 37, 3) := by decide +kernel
theorem dX2_doneTogether_26 : decode cX2_doneTogether 26 = .ok (.iload_n 2, 1) := by decide +kernel
theorem dX2_doneTogether_27 : decode cX2_doneTogether 27 = .ok (.iconst (-1), 1) := by decide +kernel
theorem dX2_doneTogether_28 : decode cX2_doneTogether 28 = .ok (.ixor, 1) := by decide +kernel
theorem dX2_doneTogether_29 : decode cX2_doneTogether 29 = .ok (.iand, 1) := by decide +kernel
theorem dX2_doneTogether_30 : decode cX2_doneTogether 30 = .ok (.invokevirtual 41, 3) := by decide +kernel
theorem dX2_doneTogether_33 : decode cX2_doneTogether 33 = .ok (.iadd, 1) := by decide +kernel
theorem dX2_doneTogether_34 : decode cX2_doneTogether 34 = .ok (.istore_n 3, 1) := by decide +kernel
theorem dX2_doneTogether_35 : decode cX2_doneTogether 35 = .ok (.iinc 4 1, 3) := by decide +kernel
theorem dX2_doneTogether_38 : decode cX2_doneTogether 38 = .ok (.goto (-33), 3) := by decide +kernel
theorem dX2_doneTogether_41 : decode cX2_doneTogether 41 = .ok (.iload_n 3, 1) := by decide +kernel
theorem dX2_doneTogether_42 : decode cX2_doneTogether 42 = .ok (.ireturn, 1) := by decide +kernel
theorem dX2_doneBySome_0 : decode cX2_doneBySome 0 = .ok (.iconst 0, 1) := by decide +kernel
theorem dX2_doneBySome_1 : decode cX2_doneBySome 1 = .ok (.istore_n 2, 1) := by decide +kernel
theorem dX2_doneBySome_2 : decode cX2_doneBySome 2 = .ok (.iconst 0, 1) := by decide +kernel
theorem dX2_doneBySome_3 : decode cX2_doneBySome 3 = .ok (.istore_n 3, 1) := by decide +kernel
theorem dX2_doneBySome_4 : decode cX2_doneBySome 4 = .ok (.iload_n 3, 1) := by decide +kernel
theorem dX2_doneBySome_5 : decode cX2_doneBySome 5 = .ok (.aload_n 1, 1) := by decide +kernel
theorem dX2_doneBySome_6 : decode cX2_doneBySome 6 = .ok (.invokevirtual 33, 3) := by decide +kernel
theorem dX2_doneBySome_9 : decode cX2_doneBySome 9 = .ok (.if_icmp .ge 26, 3) := by decide +kernel
theorem dX2_doneBySome_12 : decode cX2_doneBySome 12 = .ok (.iload_n 2, 1) := by decide +kernel
theorem dX2_doneBySome_13 : decode cX2_doneBySome 13 = .ok (.aload_n 0, 1) := by decide +kernel
theorem dX2_doneBySome_14 : decode cX2_doneBySome 14 = .ok (.getfield 12, 3) := by decide +kernel
theorem dX2_doneBySome_17 : decode cX2_doneBySome 17 = .ok (.aload_n 1, 1) := by decide +kernel
theorem dX2_doneBySome_18 : decode cX2_doneBySome 18 = .ok (.aload_n 1, 1) := by decide +kernel
theorem dX2_doneBySome_19 : decode cX2_doneBySome 19 = .ok (.iload_n 3, 1) := by decide +kernel
theorem dX2_doneBySome_20 : decode cX2_doneBySome 20 = .ok (.invokevirtual 37, 3) := by decide +kernel
theorem dX2_doneBySome_23 : decode cX2_doneBySome 23 = .ok (.iconst 0, 1) := by decide +kernel
theorem dX2_doneBySome_24 : decode cX2_doneBySome 24 = .ok (.invokevirtual 45, 3) := by decide +kernel
theorem dX2_doneBySome_27 : decode cX2_doneBySome 27 = .ok (.ior, 1) := by decide +kernel
theorem dX2_doneBySome_28 : decode cX2_doneBySome 28 = .ok (.istore_n 2, 1) := by decide +kernel
theorem dX2_doneBySome_29 : decode cX2_doneBySome 29 = .ok (.iinc 3 1, 3) := by decide +kernel
theorem dX2_doneBySome_32 : decode cX2_doneBySome 32 = .ok (.goto (-28), 3) := by decide +kernel
theorem dX2_doneBySome_35 : decode cX2_doneBySome 35 = .ok (.iload_n 2, 1) := by decide +kernel
theorem dX2_doneBySome_36 : decode cX2_doneBySome 36 = .ok (.ireturn, 1) := by decide +kernel
theorem dX2_doneByAll_0 : decode cX2_doneByAll 0 = .ok (.aload_n 1, 1) := by decide +kernel
theorem dX2_doneByAll_1 : decode cX2_doneByAll 1 = .ok (.invokevirtual 33, 3) := by decide +kernel
theorem dX2_doneByAll_4 : decode cX2_doneByAll 4 = .ok (.ifCond .ne 5, 3) := by decide +kernel
theorem dX2_doneByAll_7 : decode cX2_doneByAll 7 = .ok (.iconst 0, 1) := by decide +kernel
theorem dX2_doneByAll_8 : decode cX2_doneByAll 8 = .ok (.ireturn, 1) := by decide +kernel
theorem dX2_doneByAll_9 : decode cX2_doneByAll 9 = .ok (.aload_n 1, 1) := by decide +kernel
theorem dX2_doneByAll_10 : decode cX2_doneByAll 10 = .ok (.invokevirtual 49, 3) := by decide +kernel
theorem dX2_doneByAll_13 : decode cX2_doneByAll 13 = .ok (.istore_n 2, 1) := by decide +kernel
theorem dX2_doneByAll_14 : decode cX2_doneByAll 14 = .ok (.iconst 0, 1) := by decide +kernel
theorem dX2_doneByAll_15 : decode cX2_doneByAll 15 = .ok (.istore_n 3, 1) := by decide +kernel
theorem dX2_doneByAll_16 : decode cX2_doneByAll 16 = .ok (.iload_n 3, 1) := by decide +kernel
theorem dX2_doneByAll_17 : decode cX2_doneByAll 17 = .ok (.aload_n 1, 1) := by decide +kernel
theorem dX2_doneByAll_18 : decode cX2_doneByAll 18 = .ok (.invokevirtual 33, 3) := by decide +kernel
theorem dX2_doneByAll_21 : decode cX2_doneByAll 21 = .ok (.if_icmp .ge 26, 3) := by decide +kernel
theorem dX2_doneByAll_24 : decode cX2_doneByAll 24 = .ok (.iload_n 2, 1) := by decide +kernel
theorem dX2_doneByAll_25 : decode cX2_doneByAll 25 = .ok (.aload_n 0, 1) := by decide +kernel
theorem dX2_doneByAll_26 : decode cX2_doneByAll 26 = .ok (.getfield 12, 3) := by decide +kernel
theorem dX2_doneByAll_29 : decode cX2_doneByAll 29 = .ok (.aload_n 1, 1) := by decide +kernel
theorem dX2_doneByAll_30 : decode cX2_doneByAll 30 = .ok (.aload_n 1, 1) := by decide +kernel
theorem dX2_doneByAll_31 : decode cX2_doneByAll 31 = .ok (.iload_n 3, 1) := by decide +kernel
theorem dX2_doneByAll_32 : decode cX2_doneByAll 32 = .ok (.invokevirtual 37, 3) := by decide +kernel
theorem dX2_doneByAll_35 : decode cX2_doneByAll 35 = .ok (.iconst 0, 1) := by decide +kernel
theorem dX2_doneByAll_36 : decode cX2_doneByAll 36 = .ok (.invokevirtual 45, 3) := by decide +kernel
theorem dX2_doneByAll_39 : decode cX2_doneByAll 39 = .ok (.iand, 1) := by decide +kernel
theorem dX2_doneByAll_40 : decode cX2_doneByAll 40 = .ok (.istore_n 2, 1) := by decide +kernel
theorem dX2_doneByAll_41 : decode cX2_doneByAll 41 = .ok (.iinc 3 1, 3) := by decide +kernel
theorem dX2_doneByAll_44 : decode cX2_doneByAll 44 = .ok (.goto (-28), 3) := by decide +kernel
theorem dX2_doneByAll_47 : decode cX2_doneByAll 47 = .ok (.iload_n 2, 1) := by decide +kernel
theorem dX2_doneByAll_48 : decode cX2_doneByAll 48 = .ok (.ireturn, 1) := by decide +kernel
theorem dX2_mostAlike_0 : decode cX2_mostAlike 0 = .ok (.bipush (-9), 2) := by decide +kernel
theorem dX2_mostAlike_2 : decode cX2_mostAlike 2 = .ok (.istore_n 3, 1) := by decide +kernel
theorem dX2_mostAlike_3 : decode cX2_mostAlike 3 = .ok (.bipush (-9), 2) := by decide +kernel
theorem dX2_mostAlike_5 : decode cX2_mostAlike 5 = .ok (.istore 4, 2) := by decide +kernel
theorem dX2_mostAlike_7 : decode cX2_mostAlike 7 = .ok (.iconst 0, 1) := by decide +kernel
theorem dX2_mostAlike_8 : decode cX2_mostAlike 8 = .ok (.istore 5, 2) := by decide +kernel
theorem dX2_mostAlike_10 : decode cX2_mostAlike 10 = .ok (.iload 5, 2) := by decide +kernel
theorem dX2_mostAlike_12 : decode cX2_mostAlike 12 = .ok (.aload_n 1, 1) := by decide +kernel
theorem dX2_mostAlike_13 : decode cX2_mostAlike 13 = .ok (.invokevirtual 33, 3) := by decide +kernel
theorem dX2_mostAlike_16 : decode cX2_mostAlike 16 = .ok (.if_icmp .ge 90, 3) := by decide +kernel
theorem dX2_mostAlike_19 : decode cX2_mostAlike 19 = .ok (.aload_n 0, 1) := by decide +kernel
theorem dX2_mostAlike_20 : decode cX2_mostAlike 20 = .ok (.getfield 12, 3) := by decide +kernel
theorem dX2_mostAlike_23 : decode cX2_mostAlike 23 = .ok (.aload_n 1, 1) := by decide +kernel
theorem dX2_mostAlike_24 : decode cX2_mostAlike 24 = .ok (.aload_n 1, 1) := by decide +kernel
theorem dX2_mostAlike_25 : decode cX2_mostAlike 25 = .ok (.iload 5, 2) := by decide +kernel
theorem dX2_mostAlike_27 : decode cX2_mostAlike 27 = .ok (.invokevirtual 37, 3) := by decide +kernel
theorem dX2_mostAlike_30 : decode cX2_mostAlike 30 = .ok (.iconst 0, 1) := by decide +kernel
theorem dX2_mostAlike_31 : decode cX2_mostAlike 31 = .ok (.invokevirtual 45, 3) := by decide +kernel
theorem dX2_mostAlike_34 : decode cX2_mostAlike 34 = .ok (.istore 6, 2) := by decide +kernel
theorem dX2_mostAlike_36 : decode cX2_mostAlike 36 = .ok (.iload 5, 2) := by decide +kernel
theorem dX2_mostAlike_38 : decode cX2_mostAlike 38 = .ok (.iconst 1, 1) := by decide +kernel
theorem dX2_mostAlike_39 : decode cX2_mostAlike 39 = .ok (.iadd, 1) := by decide +kernel
theorem dX2_mostAlike_40 : decode cX2_mostAlike 40 = .ok (.istore 7, 2) := by decide +kernel
theorem dX2_mostAlike_42 : decode cX2_mostAlike 42 = .ok (.iload 7, 2) := by decide +kernel
theorem dX2_mostAlike_44 : decode cX2_mostAlike 44 = .ok (.aload_n 1, 1) := by decide +kernel
theorem dX2_mostAlike_45 : decode cX2_mostAlike 45 = .ok (.invokevirtual 33, 3) := by decide +kernel
theorem dX2_mostAlike_48 : decode cX2_mostAlike 48 = .ok (.if_icmp .ge 52, 3) := by decide +kernel
theorem dX2_mostAlike_51 : decode cX2_mostAlike 51 = .ok (.iload 6, 2) := by decide +kernel
theorem dX2_mostAlike_53 : decode cX2_mostAlike 53 = .ok (.aload_n 0, 1) := by decide +kernel
theorem dX2_mostAlike_54 : decode cX2_mostAlike 54 = .ok (.getfield 12, 3) := by decide +kernel
theorem dX2_mostAlike_57 : decode cX2_mostAlike 57 = .ok (.aload_n 1, 1) := by decide +kernel
theorem dX2_mostAlike_58 : decode cX2_mostAlike 58 = .ok (.aload_n 1, 1) := by decide +kernel
theorem dX2_mostAlike_59 : decode cX2_mostAlike 59 = .ok (.iload 7, 2) := by decide +kernel
theorem dX2_mostAlike_61 : decode cX2_mostAlike 61 = .ok (.invokevirtual 37, 3) := by decide +kernel
theorem dX2_mostAlike_64 : decode cX2_mostAlike 64 = .ok (.iconst 0, 1) := by decide +kernel
theorem dX2_mostAlike_65 : decode cX2_mostAlike 65 = .ok (.invokevirtual 45, 3) := by decide +kernel
theorem dX2_mostAlike_68 : decode cX2_mostAlike 68 = .ok (.iand, 1) := by decide +kernel
theorem dX2_mostAlike_69 : decode cX2_mostAlike 69 = .ok (.invokestatic 52, 3) := by decide +kernel
theorem dX2_mostAlike_72 : decode cX2_mostAlike 72 = .ok (.istore 8, 2) := by decide +kernel
theorem dX2_mostAlike_74 : decode cX2_mostAlike 74 = .ok (.iload 8, 2) := by decide +kernel
theorem dX2_mostAlike_76 : decode cX2_mostAlike 76 = .ok (.iload 4, 2) := by decide +kernel
theorem dX2_mostAlike_78 : decode cX2_mostAlike 78 = .ok (.if_icmp .le 16, 3) := by decide +kernel
theorem dX2_mostAlike_81 : decode cX2_mostAlike 81 = .ok (.iload 8, 2) := by decide +kernel
theorem dX2_mostAlike_83 : decode cX2_mostAlike 83 = .ok (.istore 4, 2) := by decide +kernel
theorem dX2_mostAlike_85 : decode cX2_mostAlike 85 = .ok (.bipush 10, 2) := by decide +kernel
theorem dX2_mostAlike_87 : decode cX2_mostAlike 87 = .ok (.iload 5, 2) := by decide +kernel
theorem dX2_mostAlike_89 : decode cX2_mostAlike 89 = .ok (.imul, 1) := by decide +kernel
theorem dX2_mostAlike_90 : decode cX2_mostAlike 90 = .ok (.iload 7, 2) := by decide +kernel
theorem dX2_mostAlike_92 : decode cX2_mostAlike 92 = .ok (.iadd, 1) := by decide +kernel
theorem dX2_mostAlike_93 : decode cX2_mostAlike 93 = .ok (.istore_n 3, 1) := by decide +kernel
theorem dX2_mostAlike_94 : decode cX2_mostAlike 94 = .ok (.iinc 7 1, 3) := by decide +kernel
theorem dX2_mostAlike_97 : decode cX2_mostAlike 97 = .ok (.goto (-55), 3) := by decide +kernel
theorem dX2_mostAlike_100 : decode cX2_mostAlike 100 = .ok (.iinc 5 1, 3) := by decide +kernel
theorem dX2_mostAlike_103 : decode cX2_mostAlike 103 = .ok (.goto (-93), 3) := by decide +kernel
theorem dX2_mostAlike_106 : decode cX2_mostAlike 106 = .ok (.iload_n 2, 1) := by decide +kernel
theorem dX2_mostAlike_107 : decode cX2_mostAlike 107 = .ok (.ifCond .ne 7, 3) := by decide +kernel
theorem dX2_mostAlike_110 : decode cX2_mostAlike 110 = .ok (.iload_n 3, 1) := by decide +kernel
theorem dX2_mostAlike_111 : decode cX2_mostAlike 111 = .ok (.goto 5, 3) := by decide +kernel
theorem dX2_mostAlike_114 : decode cX2_mostAlike 114 = .ok (.iload 4, 2) := by decide +kernel
theorem dX2_mostAlike_116 : decode cX2_mostAlike 116 = .ok (.ireturn, 1) := by decide +kernel
theorem dX2_keyThing_0 : decode cX2_keyThing 0 = .ok (.iconst 0, 1) := by decide +kernel
theorem dX2_keyThing_1 : decode cX2_keyThing 1 = .ok (.istore_n 3, 1) := by decide +kernel
theorem dX2_keyThing_2 : decode cX2_keyThing 2 = .ok (.aload_n 0, 1) := by decide +kernel
theorem dX2_keyThing_3 : decode cX2_keyThing 3 = .ok (.aload_n 1, 1) := by decide +kernel
theorem dX2_keyThing_4 : decode cX2_keyThing 4 = .ok (.iconst 0, 1) := by decide +kernel
theorem dX2_keyThing_5 : decode cX2_keyThing 5 = .ok (.invokestatic 57, 3) := by decide +kernel
theorem dX2_keyThing_8 : decode cX2_keyThing 8 = .ok (.invokevirtual 60, 3) := by decide +kernel
theorem dX2_keyThing_11 : decode cX2_keyThing 11 = .ok (.istore 4, 2) := by decide +kernel
theorem dX2_keyThing_13 : decode cX2_keyThing 13 = .ok (.iconst 1, 1) := by decide +kernel
theorem dX2_keyThing_14 : decode cX2_keyThing 14 = .ok (.istore 5, 2) := by decide +kernel
theorem dX2_keyThing_16 : decode cX2_keyThing 16 = .ok (.iload 5, 2) := by decide +kernel
theorem dX2_keyThing_18 : decode cX2_keyThing 18 = .ok (.bipush 8, 2) := by decide +kernel
theorem dX2_keyThing_20 : decode cX2_keyThing 20 = .ok (.if_icmp .ge 35, 3) := by decide +kernel
theorem dX2_keyThing_23 : decode cX2_keyThing 23 = .ok (.aload_n 0, 1) := by decide +kernel
theorem dX2_keyThing_24 : decode cX2_keyThing 24 = .ok (.aload_n 1, 1) := by decide +kernel
theorem dX2_keyThing_25 : decode cX2_keyThing 25 = .ok (.iload 5, 2) := by decide +kernel
theorem dX2_keyThing_27 : decode cX2_keyThing 27 = .ok (.invokestatic 57, 3) := by decide +kernel
theorem dX2_keyThing_30 : decode cX2_keyThing 30 = .ok (.invokevirtual 60, 3) := by decide +kernel
theorem dX2_keyThing_33 : decode cX2_keyThing 33 = .ok (.istore 6, 2) := by decide +kernel
theorem dX2_keyThing_35 : decode cX2_keyThing 35 = .ok (.iload 6, 2) := by decide +kernel
theorem dX2_keyThing_37 : decode cX2_keyThing 37 = .ok (.iload 4, 2) := by decide +kernel
theorem dX2_keyThing_39 : decode cX2_keyThing 39 = .ok (.if_icmp .ge 10, 3) := by decide +kernel
theorem dX2_keyThing_42 : decode cX2_keyThing 42 = .ok (.iload 6, 2) := by decide +kernel
theorem dX2_keyThing_44 : decode cX2_keyThing 44 = .ok (.istore 4, 2) := by decide +kernel
theorem dX2_keyThing_46 : decode cX2_keyThing 46 = .ok (.iload 5, 2) := by decide +kernel
theorem dX2_keyThing_48 : decode cX2_keyThing 48 = .ok (.istore_n 3, 1) := by decide +kernel
theorem dX2_keyThing_49 : decode cX2_keyThing 49 = .ok (.iinc 5 1, 3) := by decide +kernel
theorem dX2_keyThing_52 : decode cX2_keyThing 52 = .ok (.goto (-36), 3) := by decide +kernel
theorem dX2_keyThing_55 : decode cX2_keyThing 55 = .ok (.iload_n 2, 1) := by decide +kernel
theorem dX2_keyThing_56 : decode cX2_keyThing 56 = .ok (.ifCond .ne 7, 3) := by decide +kernel
theorem dX2_keyThing_59 : decode cX2_keyThing 59 = .ok (.iload_n 3, 1) := by decide +kernel
theorem dX2_keyThing_60 : decode cX2_keyThing 60 = .ok (.goto 5, 3) := by decide +kernel
theorem dX2_keyThing_63 : decode cX2_keyThing 63 = .ok (.iload 4, 2) := by decide +kernel
theorem dX2_keyThing_65 : decode cX2_keyThing 65 = .ok (.ireturn, 1) := by decide +kernel
theorem dX2_spurs_0 : decode cX2_spurs 0 = .ok (.aload_n 0, 1) := by decide +kernel
theorem dX2_spurs_1 : decode cX2_spurs 1 = .ok (.getfield 12, 3) := by decide +kernel
theorem dX2_spurs_4 : decode cX2_spurs 4 = .ok (.aload_n 1, 1) := by decide +kernel
theorem dX2_spurs_5 : decode cX2_spurs 5 = .ok (.iload_n 2, 1) := by decide +kernel
theorem dX2_spurs_6 : decode cX2_spurs 6 = .ok (.invokevirtual 41, 3) := by decide +kernel
theorem dX2_spurs_9 : decode cX2_spurs 9 = .ok (.istore_n 3, 1) := by decide +kernel
theorem dX2_spurs_10 : decode cX2_spurs 10 = .ok (.iconst 0, 1) := by decide +kernel
theorem dX2_spurs_11 : decode cX2_spurs 11 = .ok (.istore 4, 2) := by decide +kernel
theorem dX2_spurs_13 : decode cX2_spurs 13 = .ok (.iconst 0, 1) := by decide +kernel
theorem dX2_spurs_14 : decode cX2_spurs 14 = .ok (.istore 5, 2) := by decide +kernel
theorem dX2_spurs_16 : decode cX2_spurs 16 = .ok (.iload 5, 2) := by decide +kernel
theorem dX2_spurs_18 : decode cX2_spurs 18 = .ok (.bipush 8, 2) := by decide +kernel
theorem dX2_spurs_20 : decode cX2_spurs 20 = .ok (.if_icmp .ge 53, 3) := by decide +kernel
theorem dX2_spurs_23 : decode cX2_spurs 23 = .ok (.aload_n 1, 1) := by decide +kernel
theorem dX2_spurs_24 : decode cX2_spurs 24 = .ok (.invokevirtual 63, 3) := by decide +kernel
theorem dX2_spurs_27 : decode cX2_spurs 27 = .ok (.iload 5, 2) := by decide +kernel
theorem dX2_spurs_29 : decode cX2_spurs 29 = .ok (.invokestatic 66, 3) := by decide +kernel
theorem dX2_spurs_32 : decode cX2_spurs 32 = .ok (.ifCond .ne 6, 3) := by decide +kernel
theorem dX2_spurs_35 : decode cX2_spurs 35 = .ok (.goto 32, 3) := by decide +kernel
theorem dX2_spurs_38 : decode cX2_spurs 38 = .ok (.aload_n 0, 1) := by decide +kernel
theorem dX2_spurs_39 : decode cX2_spurs 39 = .ok (.getfield 12, 3) := by decide +kernel
theorem dX2_spurs_42 : decode cX2_spurs 42 = .ok (.aload_n 1, 1) := by decide +kernel
theorem dX2_spurs_43 : decode cX2_spurs 43 = .ok (.iload_n 2, 1) := by decide +kernel
theorem dX2_spurs_44 : decode cX2_spurs 44 = .ok (.iload 5, 2) := by decide +kernel
theorem dX2_spurs_46 : decode cX2_spurs 46 = .ok (.invokestatic 57, 3) := by decide +kernel
theorem dX2_spurs_49 : decode cX2_spurs 49 = .ok (.ior, 1) := by decide +kernel
theorem dX2_spurs_50 : decode cX2_spurs 50 = .ok (.invokevirtual 41, 3) := by decide +kernel
theorem dX2_spurs_53 : decode cX2_spurs 53 = .ok (.iload_n 3, 1) := by decide +kernel
theorem dX2_spurs_54 : decode cX2_spurs 54 = .ok (.if_icmp .le 13, 3) := by decide +kernel
theorem dX2_spurs_57 : decode cX2_spurs 57 = .ok (.iload 4, 2) := by decide +kernel
theorem dX2_spurs_59 : decode cX2_spurs 59 = .ok (.iload 5, 2) := by decide +kernel
theorem dX2_spurs_61 : decode cX2_spurs 61 = .ok (.invokestatic 57, 3) := by decide +kernel
theorem dX2_spurs_64 : decode cX2_spurs 64 = .ok (.ior, 1) := by decide +kernel
theorem dX2_spurs_65 : decode cX2_spurs 65 = .ok (.istore 4, 2) := by decide +kernel
theorem dX2_spurs_67 : decode cX2_spurs 67 = .ok (.iinc 5 1, 3) := by decide +kernel
theorem dX2_spurs_70 : decode cX2_spurs 70 = .ok (.goto (-54), 3) := by decide +kernel
theorem dX2_spurs_73 : decode cX2_spurs 73 = .ok (.iload 4, 2) := by decide +kernel
theorem dX2_spurs_75 : decode cX2_spurs 75 = .ok (.ireturn, 1) := by decide +kernel
theorem dX2_mostOwners_0 : decode cX2_mostOwners 0 = .ok (.aload_n 0, 1) := by decide +kernel
theorem dX2_mostOwners_1 : decode cX2_mostOwners 1 = .ok (.getfield 29, 3) := by decide +kernel
theorem dX2_mostOwners_4 : decode cX2_mostOwners 4 = .ok (.iconst 0, 1) := by decide +kernel
theorem dX2_mostOwners_5 : decode cX2_mostOwners 5 = .ok (.invokestatic 70, 3) := by decide +kernel
theorem dX2_mostOwners_8 : decode cX2_mostOwners 8 = .ok (.aload_n 0, 1) := by decide +kernel
theorem dX2_mostOwners_9 : decode cX2_mostOwners 9 = .ok (.getfield 29, 3) := by decide +kernel
theorem dX2_mostOwners_12 : decode cX2_mostOwners 12 = .ok (.iconst 0, 1) := by decide +kernel
theorem dX2_mostOwners_13 : decode cX2_mostOwners 13 = .ok (.iconst 1, 1) := by decide +kernel
theorem dX2_mostOwners_14 : decode cX2_mostOwners 14 = .ok (.invokestatic 76, 3) := by decide +kernel
theorem dX2_mostOwners_17 : decode cX2_mostOwners 17 = .ok (.iconst 0, 1) := by decide +kernel
theorem dX2_mostOwners_18 : decode cX2_mostOwners 18 = .ok (.istore_n 2, 1) := by decide +kernel
theorem dX2_mostOwners_19 : decode cX2_mostOwners 19 = .ok (.iload_n 2, 1) := by decide +kernel
theorem dX2_mostOwners_20 : decode cX2_mostOwners 20 = .ok (.aload_n 1, 1) := by decide +kernel
theorem dX2_mostOwners_21 : decode cX2_mostOwners 21 = .ok (.invokevirtual 33, 3) := by decide +kernel
theorem dX2_mostOwners_24 : decode cX2_mostOwners 24 = .ok (.if_icmp .ge 23, 3) := by decide +kernel
theorem dX2_mostOwners_27 : decode cX2_mostOwners 27 = .ok (.aload_n 0, 1) := by decide +kernel
theorem dX2_mostOwners_28 : decode cX2_mostOwners 28 = .ok (.aload_n 0, 1) := by decide +kernel
theorem dX2_mostOwners_29 : decode cX2_mostOwners 29 = .ok (.aload_n 1, 1) := by decide +kernel
theorem dX2_mostOwners_30 : decode cX2_mostOwners 30 = .ok (.aload_n 1, 1) := by decide +kernel
theorem dX2_mostOwners_31 : decode cX2_mostOwners 31 = .ok (.iload_n 2, 1) := by decide +kernel
theorem dX2_mostOwners_32 : decode cX2_mostOwners 32 = .ok (.invokevirtual 37, 3) := by decide +kernel
theorem dX2_mostOwners_35 : decode cX2_mostOwners 35 = .ok (.invokevirtual 80, 3) := by decide +kernel
theorem dX2_mostOwners_38 : decode cX2_mostOwners 38 = .ok (.invokevirtual 83, 3) := by decide +kernel
theorem dX2_mostOwners_41 : decode cX2_mostOwners 41 = .ok (.iinc 2 1, 3) := by decide +kernel
theorem dX2_mostOwners_44 : decode cX2_mostOwners 44 = .ok (.goto (-25), 3) := by decide +kernel
theorem dX2_mostOwners_47 : decode cX2_mostOwners 47 = .ok (.iconst 0, 1) := by decide +kernel
theorem dX2_mostOwners_48 : decode cX2_mostOwners 48 = .ok (.istore_n 2, 1) := by decide +kernel
theorem dX2_mostOwners_49 : decode cX2_mostOwners 49 = .ok (.iconst 0, 1) := by decide +kernel
theorem dX2_mostOwners_50 : decode cX2_mostOwners 50 = .ok (.istore_n 3, 1) := by decide +kernel
theorem dX2_mostOwners_51 : decode cX2_mostOwners 51 = .ok (.iload_n 3, 1) := by decide +kernel
theorem dX2_mostOwners_52 : decode cX2_mostOwners 52 = .ok (.sipush 255, 3) := by decide +kernel
theorem dX2_mostOwners_55 : decode cX2_mostOwners 55 = .ok (.if_icmp .gt 29, 3) := by decide +kernel
theorem dX2_mostOwners_58 : decode cX2_mostOwners 58 = .ok (.aload_n 0, 1) := by decide +kernel
theorem dX2_mostOwners_59 : decode cX2_mostOwners 59 = .ok (.getfield 29, 3) := by decide +kernel
theorem dX2_mostOwners_62 : decode cX2_mostOwners 62 = .ok (.iload_n 3, 1) := by decide +kernel
theorem dX2_mostOwners_63 : decode cX2_mostOwners 63 = .ok (.invokestatic 87, 3) := by decide +kernel
theorem dX2_mostOwners_66 : decode cX2_mostOwners 66 = .ok (.ifCond .eq 12, 3) := by decide +kernel
theorem dX2_mostOwners_69 : decode cX2_mostOwners 69 = .ok (.iload_n 2, 1) := by decide +kernel
theorem dX2_mostOwners_70 : decode cX2_mostOwners 70 = .ok (.iload_n 3, 1) := by decide +kernel
theorem dX2_mostOwners_71 : decode cX2_mostOwners 71 = .ok (.invokestatic 52, 3) := by decide +kernel
theorem dX2_mostOwners_74 : decode cX2_mostOwners 74 = .ok (.invokestatic 91, 3) := by decide +kernel
theorem dX2_mostOwners_77 : decode cX2_mostOwners 77 = .ok (.istore_n 2, 1) := by decide +kernel
theorem dX2_mostOwners_78 : decode cX2_mostOwners 78 = .ok (.iinc 3 1, 3) := by decide +kernel
theorem dX2_mostOwners_81 : decode cX2_mostOwners 81 = .ok (.goto (-30), 3) := by decide +kernel
theorem dX2_mostOwners_84 : decode cX2_mostOwners 84 = .ok (.iload_n 2, 1) := by decide +kernel
theorem dX2_mostOwners_85 : decode cX2_mostOwners 85 = .ok (.ireturn, 1) := by decide +kernel
theorem dX2_serve_0 : decode cX2_serve 0 = .ok (.sipush 255, 3) := by decide +kernel
theorem dX2_serve_3 : decode cX2_serve 3 = .ok (.istore_n 2, 1) := by decide +kernel
theorem dX2_serve_4 : decode cX2_serve 4 = .ok (.iload_n 2, 1) := by decide +kernel
theorem dX2_serve_5 : decode cX2_serve 5 = .ok (.ifCond .lt 63, 3) := by decide +kernel
theorem dX2_serve_8 : decode cX2_serve 8 = .ok (.aload_n 0, 1) := by decide +kernel
theorem dX2_serve_9 : decode cX2_serve 9 = .ok (.getfield 29, 3) := by decide +kernel
theorem dX2_serve_12 : decode cX2_serve 12 = .ok (.iload_n 2, 1) := by decide +kernel
theorem dX2_serve_13 : decode cX2_serve 13 = .ok (.invokestatic 87, 3) := by decide +kernel
theorem dX2_serve_16 : decode cX2_serve 16 = .ok (.ifCond .ne 6, 3) := by decide +kernel
theorem dX2_serve_19 : decode cX2_serve 19 = .ok (.goto 43, 3) := by decide +kernel
theorem dX2_serve_22 : decode cX2_serve 22 = .ok (.iconst 0, 1) := by decide +kernel
theorem dX2_serve_23 : decode cX2_serve 23 = .ok (.istore_n 3, 1) := by decide +kernel
theorem dX2_serve_24 : decode cX2_serve 24 = .ok (.iload_n 3, 1) := by decide +kernel
theorem dX2_serve_25 : decode cX2_serve 25 = .ok (.bipush 8, 2) := by decide +kernel
theorem dX2_serve_27 : decode cX2_serve 27 = .ok (.if_icmp .ge 35, 3) := by decide +kernel
theorem dX2_serve_30 : decode cX2_serve 30 = .ok (.iload_n 1, 1) := by decide +kernel
theorem dX2_serve_31 : decode cX2_serve 31 = .ok (.iload_n 2, 1) := by decide +kernel
theorem dX2_serve_32 : decode cX2_serve 32 = .ok (.iconst (-1), 1) := by decide +kernel
theorem dX2_serve_33 : decode cX2_serve 33 = .ok (.ixor, 1) := by decide +kernel
theorem dX2_serve_34 : decode cX2_serve 34 = .ok (.iand, 1) := by decide +kernel
theorem dX2_serve_35 : decode cX2_serve 35 = .ok (.iload_n 3, 1) := by decide +kernel
theorem dX2_serve_36 : decode cX2_serve 36 = .ok (.invokestatic 66, 3) := by decide +kernel
theorem dX2_serve_39 : decode cX2_serve 39 = .ok (.ifCond .eq 17, 3) := by decide +kernel
theorem dX2_serve_42 : decode cX2_serve 42 = .ok (.aload_n 0, 1) := by decide +kernel
theorem dX2_serve_43 : decode cX2_serve 43 = .ok (.getfield 29, 3) := by decide +kernel
theorem dX2_serve_46 : decode cX2_serve 46 = .ok (.iload_n 2, 1) := by decide +kernel
theorem dX2_serve_47 : decode cX2_serve 47 = .ok (.iload_n 3, 1) := by decide +kernel
theorem dX2_serve_48 : decode cX2_serve 48 = .ok (.invokestatic 57, 3) := by decide +kernel
theorem dX2_serve_51 : decode cX2_serve 51 = .ok (.ior, 1) := by decide +kernel
theorem dX2_serve_52 : decode cX2_serve 52 = .ok (.iconst 1, 1) := by decide +kernel
theorem dX2_serve_53 : decode cX2_serve 53 = .ok (.invokestatic 76, 3) := by decide +kernel
theorem dX2_serve_56 : decode cX2_serve 56 = .ok (.iinc 3 1, 3) := by decide +kernel
theorem dX2_serve_59 : decode cX2_serve 59 = .ok (.goto (-35), 3) := by decide +kernel
theorem dX2_serve_62 : decode cX2_serve 62 = .ok (.iinc 2 (-1), 3) := by decide +kernel
theorem dX2_serve_65 : decode cX2_serve 65 = .ok (.goto (-61), 3) := by decide +kernel
theorem dX2_serve_68 : decode cX2_serve 68 = .ok (.return_, 1) := by decide +kernel
theorem dX2_firstReturn_0 : decode cX2_firstReturn 0 = .ok (.aload_n 0, 1) := by decide +kernel
theorem dX2_firstReturn_1 : decode cX2_firstReturn 1 = .ok (.getfield 21, 3) := by decide +kernel
theorem dX2_firstReturn_4 : decode cX2_firstReturn 4 = .ok (.aload_n 1, 1) := by decide +kernel
theorem dX2_firstReturn_5 : decode cX2_firstReturn 5 = .ok (.invokevirtual 97, 3) := by decide +kernel
theorem dX2_firstReturn_8 : decode cX2_firstReturn 8 = .ok (.aload_n 0, 1) := by decide +kernel
theorem dX2_firstReturn_9 : decode cX2_firstReturn 9 = .ok (.iconst 0, 1) := by decide +kernel
theorem dX2_firstReturn_10 : decode cX2_firstReturn 10 = .ok (.invokevirtual 101, 3) := by decide +kernel
theorem dX2_firstReturn_13 : decode cX2_firstReturn 13 = .ok (.iconst 1, 1) := by decide +kernel
theorem dX2_firstReturn_14 : decode cX2_firstReturn 14 = .ok (.istore_n 2, 1) := by decide +kernel
theorem dX2_firstReturn_15 : decode cX2_firstReturn 15 = .ok (.iload_n 2, 1) := by decide +kernel
theorem dX2_firstReturn_16 : decode cX2_firstReturn 16 = .ok (.bipush 60, 2) := by decide +kernel
theorem dX2_firstReturn_18 : decode cX2_firstReturn 18 = .ok (.if_icmp .gt 36, 3) := by decide +kernel
theorem dX2_firstReturn_21 : decode cX2_firstReturn 21 = .ok (.aload_n 0, 1) := by decide +kernel
theorem dX2_firstReturn_22 : decode cX2_firstReturn 22 = .ok (.getfield 21, 3) := by decide +kernel
theorem dX2_firstReturn_25 : decode cX2_firstReturn 25 = .ok (.aload_n 0, 1) := by decide +kernel
theorem dX2_firstReturn_26 : decode cX2_firstReturn 26 = .ok (.getfield 12, 3) := by decide +kernel
theorem dX2_firstReturn_29 : decode cX2_firstReturn 29 = .ok (.invokevirtual 104, 3) := by decide +kernel
theorem dX2_firstReturn_32 : decode cX2_firstReturn 32 = .ok (.pop, 1) := by decide +kernel
theorem dX2_firstReturn_33 : decode cX2_firstReturn 33 = .ok (.aload_n 0, 1) := by decide +kernel
theorem dX2_firstReturn_34 : decode cX2_firstReturn 34 = .ok (.iload_n 2, 1) := by decide +kernel
theorem dX2_firstReturn_35 : decode cX2_firstReturn 35 = .ok (.invokevirtual 101, 3) := by decide +kernel
theorem dX2_firstReturn_38 : decode cX2_firstReturn 38 = .ok (.aload_n 0, 1) := by decide +kernel
theorem dX2_firstReturn_39 : decode cX2_firstReturn 39 = .ok (.iload_n 2, 1) := by decide +kernel
theorem dX2_firstReturn_40 : decode cX2_firstReturn 40 = .ok (.invokevirtual 108, 3) := by decide +kernel
theorem dX2_firstReturn_43 : decode cX2_firstReturn 43 = .ok (.ifCond .eq 5, 3) := by decide +kernel
theorem dX2_firstReturn_46 : decode cX2_firstReturn 46 = .ok (.iload_n 2, 1) := by decide +kernel
theorem dX2_firstReturn_47 : decode cX2_firstReturn 47 = .ok (.ireturn, 1) := by decide +kernel
theorem dX2_firstReturn_48 : decode cX2_firstReturn 48 = .ok (.iinc 2 1, 3) := by decide +kernel
theorem dX2_firstReturn_51 : decode cX2_firstReturn 51 = .ok (.goto (-36), 3) := by decide +kernel
theorem dX2_firstReturn_54 : decode cX2_firstReturn 54 = .ok (.bipush (-9), 2) := by decide +kernel
theorem dX2_firstReturn_56 : decode cX2_firstReturn 56 = .ok (.ireturn, 1) := by decide +kernel
theorem dX2_keepState_0 : decode cX2_keepState 0 = .ok (.lconst 0, 1) := by decide +kernel
theorem dX2_keepState_1 : decode cX2_keepState 1 = .ok (.lstore_n 2, 1) := by decide +kernel
theorem dX2_keepState_2 : decode cX2_keepState 2 = .ok (.iconst 0, 1) := by decide +kernel
theorem dX2_keepState_3 : decode cX2_keepState 3 = .ok (.istore 4, 2) := by decide +kernel
theorem dX2_keepState_5 : decode cX2_keepState 5 = .ok (.iload 4, 2) := by decide +kernel
theorem dX2_keepState_7 : decode cX2_keepState 7 = .ok (.aload_n 0, 1) := by decide +kernel
theorem dX2_keepState_8 : decode cX2_keepState 8 = .ok (.getfield 21, 3) := by decide +kernel
theorem dX2_keepState_11 : decode cX2_keepState 11 = .ok (.invokevirtual 33, 3) := by decide +kernel
theorem dX2_keepState_14 : decode cX2_keepState 14 = .ok (.if_icmp .ge 25, 3) := by decide +kernel
theorem dX2_keepState_17 : decode cX2_keepState 17 = .ok (.lload_n 2, 1) := by decide +kernel
theorem dX2_keepState_18 : decode cX2_keepState 18 = .ok (.bipush 8, 2) := by decide +kernel
theorem dX2_keepState_20 : decode cX2_keepState 20 = .ok (.lshl, 1) := by decide +kernel
theorem dX2_keepState_21 : decode cX2_keepState 21 = .ok (.aload_n 0, 1) := by decide +kernel
theorem dX2_keepState_22 : decode cX2_keepState 22 = .ok (.getfield 21, 3) := by decide +kernel
theorem dX2_keepState_25 : decode cX2_keepState 25 = .ok (.iload 4, 2) := by decide +kernel
theorem dX2_keepState_27 : decode cX2_keepState 27 = .ok (.invokevirtual 37, 3) := by decide +kernel
theorem dX2_keepState_30 : decode cX2_keepState 30 = .ok (.i2l, 1) := by decide +kernel
theorem dX2_keepState_31 : decode cX2_keepState 31 = .ok (.lor, 1) := by decide +kernel
theorem dX2_keepState_32 : decode cX2_keepState 32 = .ok (.lstore_n 2, 1) := by decide +kernel
theorem dX2_keepState_33 : decode cX2_keepState 33 = .ok (.iinc 4 1, 3) := by decide +kernel
theorem dX2_keepState_36 : decode cX2_keepState 36 = .ok (.goto (-31), 3) := by decide +kernel
theorem dX2_keepState_39 : decode cX2_keepState 39 = .ok (.iload_n 1, 1) := by decide +kernel
theorem dX2_keepState_40 : decode cX2_keepState 40 = .ok (.ifCond .lt 19, 3) := by decide +kernel
theorem dX2_keepState_43 : decode cX2_keepState 43 = .ok (.iload_n 1, 1) := by decide +kernel
theorem dX2_keepState_44 : decode cX2_keepState 44 = .ok (.aload_n 0, 1) := by decide +kernel
theorem dX2_keepState_45 : decode cX2_keepState 45 = .ok (.getfield 25, 3) := by decide +kernel
theorem dX2_keepState_48 : decode cX2_keepState 48 = .ok (.arraylength, 1) := by decide +kernel
theorem dX2_keepState_49 : decode cX2_keepState 49 = .ok (.if_icmp .ge 10, 3) := by decide +kernel
theorem dX2_keepState_52 : decode cX2_keepState 52 = .ok (.aload_n 0, 1) := by decide +kernel
theorem dX2_keepState_53 : decode cX2_keepState 53 = .ok (.getfield 25, 3) := by decide +kernel
theorem dX2_keepState_56 : decode cX2_keepState 56 = .ok (.iload_n 1, 1) := by decide +kernel
theorem dX2_keepState_57 : decode cX2_keepState 57 = .ok (.lload_n 2, 1) := by decide +kernel
theorem dX2_keepState_58 : decode cX2_keepState 58 = .ok (.lastore, 1) := by decide +kernel
theorem dX2_keepState_59 : decode cX2_keepState 59 = .ok (.return_, 1) := by decide +kernel
theorem dX2_isSeenAhead_0 : decode cX2_isSeenAhead 0 = .ok (.iload_n 1, 1) := by decide +kernel
theorem dX2_isSeenAhead_1 : decode cX2_isSeenAhead 1 = .ok (.ifCond .lt 12, 3) := by decide +kernel
theorem dX2_isSeenAhead_4 : decode cX2_isSeenAhead 4 = .ok (.iload_n 1, 1) := by decide +kernel
theorem dX2_isSeenAhead_5 : decode cX2_isSeenAhead 5 = .ok (.aload_n 0, 1) := by decide +kernel
theorem dX2_isSeenAhead_6 : decode cX2_isSeenAhead 6 = .ok (.getfield 25, 3) := by decide +kernel
theorem dX2_isSeenAhead_9 : decode cX2_isSeenAhead 9 = .ok (.arraylength, 1) := by decide +kernel
theorem dX2_isSeenAhead_10 : decode cX2_isSeenAhead 10 = .ok (.if_icmp .lt 5, 3) := by decide +kernel
theorem dX2_isSeenAhead_13 : decode cX2_isSeenAhead 13 = .ok (.iconst 0, 1) := by decide +kernel
theorem dX2_isSeenAhead_14 : decode cX2_isSeenAhead 14 = .ok (.ireturn, 1) := by decide +kernel
theorem dX2_isSeenAhead_15 : decode cX2_isSeenAhead 15 = .ok (.iconst 0, 1) := by decide +kernel
theorem dX2_isSeenAhead_16 : decode cX2_isSeenAhead 16 = .ok (.istore_n 2, 1) := by decide +kernel
theorem dX2_isSeenAhead_17 : decode cX2_isSeenAhead 17 = .ok (.iload_n 2, 1) := by decide +kernel
theorem dX2_isSeenAhead_18 : decode cX2_isSeenAhead 18 = .ok (.iload_n 1, 1) := by decide +kernel
theorem dX2_isSeenAhead_19 : decode cX2_isSeenAhead 19 = .ok (.if_icmp .ge 27, 3) := by decide +kernel
theorem dX2_isSeenAhead_22 : decode cX2_isSeenAhead 22 = .ok (.aload_n 0, 1) := by decide +kernel
theorem dX2_isSeenAhead_23 : decode cX2_isSeenAhead 23 = .ok (.getfield 25, 3) := by decide +kernel
theorem dX2_isSeenAhead_26 : decode cX2_isSeenAhead 26 = .ok (.iload_n 2, 1) := by decide +kernel
theorem dX2_isSeenAhead_27 : decode cX2_isSeenAhead 27 = .ok (.laload, 1) := by decide +kernel
theorem dX2_isSeenAhead_28 : decode cX2_isSeenAhead 28 = .ok (.aload_n 0, 1) := by decide +kernel
theorem dX2_isSeenAhead_29 : decode cX2_isSeenAhead 29 = .ok (.getfield 25, 3) := by decide +kernel
theorem dX2_isSeenAhead_32 : decode cX2_isSeenAhead 32 = .ok (.iload_n 1, 1) := by decide +kernel
theorem dX2_isSeenAhead_33 : decode cX2_isSeenAhead 33 = .ok (.laload, 1) := by decide +kernel
theorem dX2_isSeenAhead_34 : decode cX2_isSeenAhead 34 = .ok (.lcmp, 1) := by decide +kernel
theorem dX2_isSeenAhead_35 : decode cX2_isSeenAhead 35 = .ok (.ifCond .ne 5, 3) := by decide +kernel
theorem dX2_isSeenAhead_38 : decode cX2_isSeenAhead 38 = .ok (.iconst 1, 1) := by decide +kernel
theorem dX2_isSeenAhead_39 : decode cX2_isSeenAhead 39 = .ok (.ireturn, 1) := by decide +kernel
theorem dX2_isSeenAhead_40 : decode cX2_isSeenAhead 40 = .ok (.iinc 2 1, 3) := by decide +kernel
theorem dX2_isSeenAhead_43 : decode cX2_isSeenAhead 43 = .ok (.goto (-26), 3) := by decide +kernel
theorem dX2_isSeenAhead_46 : decode cX2_isSeenAhead 46 = .ok (.iconst 0, 1) := by decide +kernel
theorem dX2_isSeenAhead_47 : decode cX2_isSeenAhead 47 = .ok (.ireturn, 1) := by decide +kernel
theorem dX2_doneByBoth_0 : decode cX2_doneByBoth 0 = .ok (.aload_n 0, 1) := by decide +kernel
theorem dX2_doneByBoth_1 : decode cX2_doneByBoth 1 = .ok (.getfield 12, 3) := by decide +kernel
theorem dX2_doneByBoth_4 : decode cX2_doneByBoth 4 = .ok (.aload_n 1, 1) := by decide +kernel
theorem dX2_doneByBoth_5 : decode cX2_doneByBoth 5 = .ok (.iload_n 2, 1) := by decide +kernel
theorem dX2_doneByBoth_6 : decode cX2_doneByBoth 6 = .ok (.invokevirtual 41, 3) := by decide +kernel
theorem dX2_doneByBoth_9 : decode cX2_doneByBoth 9 = .ok (.aload_n 0, 1) := by decide +kernel
theorem dX2_doneByBoth_10 : decode cX2_doneByBoth 10 = .ok (.getfield 12, 3) := by decide +kernel
theorem dX2_doneByBoth_13 : decode cX2_doneByBoth 13 = .ok (.aload_n 1, 1) := by decide +kernel
theorem dX2_doneByBoth_14 : decode cX2_doneByBoth 14 = .ok (.iload_n 3, 1) := by decide +kernel
theorem dX2_doneByBoth_15 : decode cX2_doneByBoth 15 = .ok (.invokevirtual 41, 3) := by decide +kernel
theorem dX2_doneByBoth_18 : decode cX2_doneByBoth 18 = .ok (.iadd, 1) := by decide +kernel
theorem dX2_doneByBoth_19 : decode cX2_doneByBoth 19 = .ok (.ireturn, 1) := by decide +kernel
theorem dX2_bestTrade_0 : decode cX2_bestTrade 0 = .ok (.aload_n 0, 1) := by decide +kernel
theorem dX2_bestTrade_1 : decode cX2_bestTrade 1 = .ok (.aload_n 1, 1) := by decide +kernel
theorem dX2_bestTrade_2 : decode cX2_bestTrade 2 = .ok (.iload_n 2, 1) := by decide +kernel
theorem dX2_bestTrade_3 : decode cX2_bestTrade 3 = .ok (.iload_n 3, 1) := by decide +kernel
theorem dX2_bestTrade_4 : decode cX2_bestTrade 4 = .ok (.invokevirtual 112, 3) := by decide +kernel
theorem dX2_bestTrade_7 : decode cX2_bestTrade 7 = .ok (.istore 5, 2) := by decide +kernel
theorem dX2_bestTrade_9 : decode cX2_bestTrade 9 = .ok (.bipush 88, 2) := by decide +kernel
theorem dX2_bestTrade_11 : decode cX2_bestTrade 11 = .ok (.istore 6, 2) := by decide +kernel
theorem dX2_bestTrade_13 : decode cX2_bestTrade 13 = .ok (.iconst 0, 1) := by decide +kernel
theorem dX2_bestTrade_14 : decode cX2_bestTrade 14 = .ok (.istore 7, 2) := by decide +kernel
theorem dX2_bestTrade_16 : decode cX2_bestTrade 16 = .ok (.iload 7, 2) := by decide +kernel
theorem dX2_bestTrade_18 : decode cX2_bestTrade 18 = .ok (.bipush 8, 2) := by decide +kernel
theorem dX2_bestTrade_20 : decode cX2_bestTrade 20 = .ok (.if_icmp .ge 115, 3) := by decide +kernel
theorem dX2_bestTrade_23 : decode cX2_bestTrade 23 = .ok (.iload_n 2, 1) := by decide +kernel
theorem dX2_bestTrade_24 : decode cX2_bestTrade 24 = .ok (.iload 7, 2) := by decide +kernel
theorem dX2_bestTrade_26 : decode cX2_bestTrade 26 = .ok (.invokestatic 66, 3) := by decide +kernel
theorem dX2_bestTrade_29 : decode cX2_bestTrade 29 = .ok (.ifCond .ne 6, 3) := by decide +kernel
theorem dX2_bestTrade_32 : decode cX2_bestTrade 32 = .ok (.goto 97, 3) := by decide +kernel
theorem dX2_bestTrade_35 : decode cX2_bestTrade 35 = .ok (.iconst 0, 1) := by decide +kernel
theorem dX2_bestTrade_36 : decode cX2_bestTrade 36 = .ok (.istore 8, 2) := by decide +kernel
theorem dX2_bestTrade_38 : decode cX2_bestTrade 38 = .ok (.iload 8, 2) := by decide +kernel
theorem dX2_bestTrade_40 : decode cX2_bestTrade 40 = .ok (.bipush 8, 2) := by decide +kernel
theorem dX2_bestTrade_42 : decode cX2_bestTrade 42 = .ok (.if_icmp .ge 87, 3) := by decide +kernel
theorem dX2_bestTrade_45 : decode cX2_bestTrade 45 = .ok (.iload_n 3, 1) := by decide +kernel
theorem dX2_bestTrade_46 : decode cX2_bestTrade 46 = .ok (.iload 8, 2) := by decide +kernel
theorem dX2_bestTrade_48 : decode cX2_bestTrade 48 = .ok (.invokestatic 66, 3) := by decide +kernel
theorem dX2_bestTrade_51 : decode cX2_bestTrade 51 = .ok (.ifCond .ne 6, 3) := by decide +kernel
theorem dX2_bestTrade_54 : decode cX2_bestTrade 54 = .ok (.goto 69, 3) := by decide +kernel
theorem dX2_bestTrade_57 : decode cX2_bestTrade 57 = .ok (.iload_n 2, 1) := by decide +kernel
theorem dX2_bestTrade_58 : decode cX2_bestTrade 58 = .ok (.iload 7, 2) := by decide +kernel
theorem dX2_bestTrade_60 : decode cX2_bestTrade 60 = .ok (.invokestatic 57, 3) := by decide +kernel
theorem dX2_bestTrade_63 : decode cX2_bestTrade 63 = .ok (.iconst (-1), 1) := by decide +kernel
theorem dX2_bestTrade_64 : decode cX2_bestTrade 64 = .ok (.ixor, 1) := by decide +kernel
theorem dX2_bestTrade_65 : decode cX2_bestTrade 65 = .ok (.iand, 1) := by decide +kernel
theorem dX2_bestTrade_66 : decode cX2_bestTrade 66 = .ok (.iload 8, 2) := by decide +kernel
theorem dX2_bestTrade_68 : decode cX2_bestTrade 68 = .ok (.invokestatic 57, 3) := by decide +kernel
theorem dX2_bestTrade_71 : decode cX2_bestTrade 71 = .ok (.ior, 1) := by decide +kernel
theorem dX2_bestTrade_72 : decode cX2_bestTrade 72 = .ok (.istore 9, 2) := by decide +kernel
theorem dX2_bestTrade_74 : decode cX2_bestTrade 74 = .ok (.iload_n 3, 1) := by decide +kernel
theorem dX2_bestTrade_75 : decode cX2_bestTrade 75 = .ok (.iload 8, 2) := by decide +kernel
theorem dX2_bestTrade_77 : decode cX2_bestTrade 77 = .ok (.invokestatic 57, 3) := by decide +kernel
theorem dX2_bestTrade_80 : decode cX2_bestTrade 80 = .ok (.iconst (-1), 1) := by decide +kernel
theorem dX2_bestTrade_81 : decode cX2_bestTrade 81 = .ok (.ixor, 1) := by decide +kernel
theorem dX2_bestTrade_82 : decode cX2_bestTrade 82 = .ok (.iand, 1) := by decide +kernel
theorem dX2_bestTrade_83 : decode cX2_bestTrade 83 = .ok (.iload 7, 2) := by decide +kernel
theorem dX2_bestTrade_85 : decode cX2_bestTrade 85 = .ok (.invokestatic 57, 3) := by decide +kernel
theorem dX2_bestTrade_88 : decode cX2_bestTrade 88 = .ok (.ior, 1) := by decide +kernel
theorem dX2_bestTrade_89 : decode cX2_bestTrade 89 = .ok (.istore 10, 2) := by decide +kernel
theorem dX2_bestTrade_91 : decode cX2_bestTrade 91 = .ok (.aload_n 0, 1) := by decide +kernel
theorem dX2_bestTrade_92 : decode cX2_bestTrade 92 = .ok (.aload_n 1, 1) := by decide +kernel
theorem dX2_bestTrade_93 : decode cX2_bestTrade 93 = .ok (.iload 9, 2) := by decide +kernel
theorem dX2_bestTrade_95 : decode cX2_bestTrade 95 = .ok (.iload 10, 2) := by decide +kernel
theorem dX2_bestTrade_97 : decode cX2_bestTrade 97 = .ok (.invokevirtual 112, 3) := by decide +kernel
theorem dX2_bestTrade_100 : decode cX2_bestTrade 100 = .ok (.istore 11, 2) := by decide +kernel
theorem dX2_bestTrade_102 : decode cX2_bestTrade 102 = .ok (.iload 11, 2) := by decide +kernel
theorem dX2_bestTrade_104 : decode cX2_bestTrade 104 = .ok (.iload 5, 2) := by decide +kernel
theorem dX2_bestTrade_106 : decode cX2_bestTrade 106 = .ok (.if_icmp .le 17, 3) := by decide +kernel
theorem dX2_bestTrade_109 : decode cX2_bestTrade 109 = .ok (.iload 11, 2) := by decide +kernel
theorem dX2_bestTrade_111 : decode cX2_bestTrade 111 = .ok (.istore 5, 2) := by decide +kernel
theorem dX2_bestTrade_113 : decode cX2_bestTrade 113 = .ok (.bipush 10, 2) := by decide +kernel
theorem dX2_bestTrade_115 : decode cX2_bestTrade 115 = .ok (.iload 7, 2) := by decide +kernel
theorem dX2_bestTrade_117 : decode cX2_bestTrade 117 = .ok (.imul, 1) := by decide +kernel
theorem dX2_bestTrade_118 : decode cX2_bestTrade 118 = .ok (.iload 8, 2) := by decide +kernel
theorem dX2_bestTrade_120 : decode cX2_bestTrade 120 = .ok (.iadd, 1) := by decide +kernel
theorem dX2_bestTrade_121 : decode cX2_bestTrade 121 = .ok (.istore 6, 2) := by decide +kernel
theorem dX2_bestTrade_123 : decode cX2_bestTrade 123 = .ok (.iinc 8 1, 3) := by decide +kernel
theorem dX2_bestTrade_126 : decode cX2_bestTrade 126 = .ok (.goto (-88), 3) := by decide +kernel
theorem dX2_bestTrade_129 : decode cX2_bestTrade 129 = .ok (.iinc 7 1, 3) := by decide +kernel
theorem dX2_bestTrade_132 : decode cX2_bestTrade 132 = .ok (.goto (-116), 3) := by decide +kernel
theorem dX2_bestTrade_135 : decode cX2_bestTrade 135 = .ok (.iload 4, 2) := by decide +kernel
theorem dX2_bestTrade_137 : decode cX2_bestTrade 137 = .ok (.ifCond .ne 8, 3) := by decide +kernel
theorem dX2_bestTrade_140 : decode cX2_bestTrade 140 = .ok (.iload 5, 2) := by decide +kernel
theorem dX2_bestTrade_142 : decode cX2_bestTrade 142 = .ok (.goto 5, 3) := by decide +kernel
theorem dX2_bestTrade_145 : decode cX2_bestTrade 145 = .ok (.iload 6, 2) := by decide +kernel
theorem dX2_bestTrade_147 : decode cX2_bestTrade 147 = .ok (.ireturn, 1) := by decide +kernel
theorem dX2_bestGift_0 : decode cX2_bestGift 0 = .ok (.aload_n 0, 1) := by decide +kernel
theorem dX2_bestGift_1 : decode cX2_bestGift 1 = .ok (.aload_n 1, 1) := by decide +kernel
theorem dX2_bestGift_2 : decode cX2_bestGift 2 = .ok (.iload_n 2, 1) := by decide +kernel
theorem dX2_bestGift_3 : decode cX2_bestGift 3 = .ok (.iload_n 3, 1) := by decide +kernel
theorem dX2_bestGift_4 : decode cX2_bestGift 4 = .ok (.invokevirtual 112, 3) := by decide +kernel
theorem dX2_bestGift_7 : decode cX2_bestGift 7 = .ok (.istore 4, 2) := by decide +kernel
theorem dX2_bestGift_9 : decode cX2_bestGift 9 = .ok (.bipush (-9), 2) := by decide +kernel
theorem dX2_bestGift_11 : decode cX2_bestGift 11 = .ok (.istore 5, 2) := by decide +kernel
theorem dX2_bestGift_13 : decode cX2_bestGift 13 = .ok (.iconst 0, 1) := by decide +kernel
theorem dX2_bestGift_14 : decode cX2_bestGift 14 = .ok (.istore 6, 2) := by decide +kernel
theorem dX2_bestGift_16 : decode cX2_bestGift 16 = .ok (.iload 6, 2) := by decide +kernel
theorem dX2_bestGift_18 : decode cX2_bestGift 18 = .ok (.bipush 8, 2) := by decide +kernel
theorem dX2_bestGift_20 : decode cX2_bestGift 20 = .ok (.if_icmp .ge 59, 3) := by decide +kernel
theorem dX2_bestGift_23 : decode cX2_bestGift 23 = .ok (.iload_n 2, 1) := by decide +kernel
theorem dX2_bestGift_24 : decode cX2_bestGift 24 = .ok (.iload 6, 2) := by decide +kernel
theorem dX2_bestGift_26 : decode cX2_bestGift 26 = .ok (.invokestatic 66, 3) := by decide +kernel
theorem dX2_bestGift_29 : decode cX2_bestGift 29 = .ok (.ifCond .ne 6, 3) := by decide +kernel
theorem dX2_bestGift_32 : decode cX2_bestGift 32 = .ok (.goto 41, 3) := by decide +kernel
theorem dX2_bestGift_35 : decode cX2_bestGift 35 = .ok (.aload_n 0, 1) := by decide +kernel
theorem dX2_bestGift_36 : decode cX2_bestGift 36 = .ok (.aload_n 1, 1) := by decide +kernel
theorem dX2_bestGift_37 : decode cX2_bestGift 37 = .ok (.iload_n 2, 1) := by decide +kernel
theorem dX2_bestGift_38 : decode cX2_bestGift 38 = .ok (.iload 6, 2) := by decide +kernel
theorem dX2_bestGift_40 : decode cX2_bestGift 40 = .ok (.invokestatic 57, 3) := by decide +kernel
theorem dX2_bestGift_43 : decode cX2_bestGift 43 = .ok (.iconst (-1), 1) := by decide +kernel
theorem dX2_bestGift_44 : decode cX2_bestGift 44 = .ok (.ixor, 1) := by decide +kernel
theorem dX2_bestGift_45 : decode cX2_bestGift 45 = .ok (.iand, 1) := by decide +kernel
theorem dX2_bestGift_46 : decode cX2_bestGift 46 = .ok (.iload_n 3, 1) := by decide +kernel
theorem dX2_bestGift_47 : decode cX2_bestGift 47 = .ok (.iload 6, 2) := by decide +kernel
theorem dX2_bestGift_49 : decode cX2_bestGift 49 = .ok (.invokestatic 57, 3) := by decide +kernel
theorem dX2_bestGift_52 : decode cX2_bestGift 52 = .ok (.ior, 1) := by decide +kernel
theorem dX2_bestGift_53 : decode cX2_bestGift 53 = .ok (.invokevirtual 112, 3) := by decide +kernel
theorem dX2_bestGift_56 : decode cX2_bestGift 56 = .ok (.istore 7, 2) := by decide +kernel
theorem dX2_bestGift_58 : decode cX2_bestGift 58 = .ok (.iload 7, 2) := by decide +kernel
theorem dX2_bestGift_60 : decode cX2_bestGift 60 = .ok (.iload 4, 2) := by decide +kernel
theorem dX2_bestGift_62 : decode cX2_bestGift 62 = .ok (.if_icmp .le 11, 3) := by decide +kernel
theorem dX2_bestGift_65 : decode cX2_bestGift 65 = .ok (.iload 7, 2) := by decide +kernel
theorem dX2_bestGift_67 : decode cX2_bestGift 67 = .ok (.istore 4, 2) := by decide +kernel
theorem dX2_bestGift_69 : decode cX2_bestGift 69 = .ok (.iload 6, 2) := by decide +kernel
theorem dX2_bestGift_71 : decode cX2_bestGift 71 = .ok (.istore 5, 2) := by decide +kernel
theorem dX2_bestGift_73 : decode cX2_bestGift 73 = .ok (.iinc 6 1, 3) := by decide +kernel
theorem dX2_bestGift_76 : decode cX2_bestGift 76 = .ok (.goto (-60), 3) := by decide +kernel
theorem dX2_bestGift_79 : decode cX2_bestGift 79 = .ok (.iload 5, 2) := by decide +kernel
theorem dX2_bestGift_81 : decode cX2_bestGift 81 = .ok (.ireturn, 1) := by decide +kernel
theorem dX2_drawn_0 : decode cX2_drawn 0 = .ok (.iload_n 3, 1) := by decide +kernel
theorem dX2_drawn_1 : decode cX2_drawn 1 = .ok (.istore 5, 2) := by decide +kernel
theorem dX2_drawn_3 : decode cX2_drawn 3 = .ok (.iconst 0, 1) := by decide +kernel
theorem dX2_drawn_4 : decode cX2_drawn 4 = .ok (.istore 6, 2) := by decide +kernel
theorem dX2_drawn_6 : decode cX2_drawn 6 = .ok (.iconst 0, 1) := by decide +kernel
theorem dX2_drawn_7 : decode cX2_drawn 7 = .ok (.istore 7, 2) := by decide +kernel
theorem dX2_drawn_9 : decode cX2_drawn 9 = .ok (.iconst 0, 1) := by decide +kernel
theorem dX2_drawn_10 : decode cX2_drawn 10 = .ok (.istore 8, 2) := by decide +kernel
theorem dX2_drawn_12 : decode cX2_drawn 12 = .ok (.iload 8, 2) := by decide +kernel
theorem dX2_drawn_14 : decode cX2_drawn 14 = .ok (.iload_n 2, 1) := by decide +kernel
theorem dX2_drawn_15 : decode cX2_drawn 15 = .ok (.if_icmp .ge 95, 3) := by decide +kernel
theorem dX2_drawn_18 : decode cX2_drawn 18 = .ok (.iconst 0, 1) := by decide +kernel
theorem dX2_drawn_19 : decode cX2_drawn 19 = .ok (.istore 9, 2) := by decide +kernel
theorem dX2_drawn_21 : decode cX2_drawn 21 = .ok (.iload 9, 2) := by decide +kernel
theorem dX2_drawn_23 : decode cX2_drawn 23 = .ok (.aload_n 1, 1) := by decide +kernel
theorem dX2_drawn_24 : decode cX2_drawn 24 = .ok (.invokevirtual 33, 3) := by decide +kernel
theorem dX2_drawn_27 : decode cX2_drawn 27 = .ok (.if_icmp .ge 77, 3) := by decide +kernel
theorem dX2_drawn_30 : decode cX2_drawn 30 = .ok (.iload 5, 2) := by decide +kernel
theorem dX2_drawn_32 : decode cX2_drawn 32 = .ok (.ldc 115, 2) := by decide +kernel
theorem dX2_drawn_34 : decode cX2_drawn 34 = .ok (.imul, 1) := by decide +kernel
theorem dX2_drawn_35 : decode cX2_drawn 35 = .ok (.sipush 12345, 3) := by decide +kernel
theorem dX2_drawn_38 : decode cX2_drawn 38 = .ok (.iadd, 1) := by decide +kernel
theorem dX2_drawn_39 : decode cX2_drawn 39 = .ok (.istore 5, 2) := by decide +kernel
theorem dX2_drawn_41 : decode cX2_drawn 41 = .ok (.iload 5, 2) := by decide +kernel
theorem dX2_drawn_43 : decode cX2_drawn 43 = .ok (.ldc 116, 2) := by decide +kernel
theorem dX2_drawn_45 : decode cX2_drawn 45 = .ok (.iand, 1) := by decide +kernel
theorem dX2_drawn_46 : decode cX2_drawn 46 = .ok (.bipush 16, 2) := by decide +kernel
theorem dX2_drawn_48 : decode cX2_drawn 48 = .ok (.iushr, 1) := by decide +kernel
theorem dX2_drawn_49 : decode cX2_drawn 49 = .ok (.bipush 8, 2) := by decide +kernel
theorem dX2_drawn_51 : decode cX2_drawn 51 = .ok (.irem, 1) := by decide +kernel
theorem dX2_drawn_52 : decode cX2_drawn 52 = .ok (.istore 10, 2) := by decide +kernel
theorem dX2_drawn_54 : decode cX2_drawn 54 = .ok (.aload_n 1, 1) := by decide +kernel
theorem dX2_drawn_55 : decode cX2_drawn 55 = .ok (.iload 9, 2) := by decide +kernel
theorem dX2_drawn_57 : decode cX2_drawn 57 = .ok (.invokevirtual 37, 3) := by decide +kernel
theorem dX2_drawn_60 : decode cX2_drawn 60 = .ok (.istore 11, 2) := by decide +kernel
theorem dX2_drawn_62 : decode cX2_drawn 62 = .ok (.iload 11, 2) := by decide +kernel
theorem dX2_drawn_64 : decode cX2_drawn 64 = .ok (.iload 10, 2) := by decide +kernel
theorem dX2_drawn_66 : decode cX2_drawn 66 = .ok (.invokestatic 66, 3) := by decide +kernel
theorem dX2_drawn_69 : decode cX2_drawn 69 = .ok (.ifCond .eq 6, 3) := by decide +kernel
theorem dX2_drawn_72 : decode cX2_drawn 72 = .ok (.iinc 7 1, 3) := by decide +kernel
theorem dX2_drawn_75 : decode cX2_drawn 75 = .ok (.iload 6, 2) := by decide +kernel
theorem dX2_drawn_77 : decode cX2_drawn 77 = .ok (.aload_n 0, 1) := by decide +kernel
theorem dX2_drawn_78 : decode cX2_drawn 78 = .ok (.getfield 12, 3) := by decide +kernel
theorem dX2_drawn_81 : decode cX2_drawn 81 = .ok (.aload_n 1, 1) := by decide +kernel
theorem dX2_drawn_82 : decode cX2_drawn 82 = .ok (.iload 11, 2) := by decide +kernel
theorem dX2_drawn_84 : decode cX2_drawn 84 = .ok (.iload 10, 2) := by decide +kernel
theorem dX2_drawn_86 : decode cX2_drawn 86 = .ok (.invokestatic 57, 3) := by decide +kernel
theorem dX2_drawn_89 : decode cX2_drawn 89 = .ok (.iconst (-1), 1) := by decide +kernel
theorem dX2_drawn_90 : decode cX2_drawn 90 = .ok (.ixor, 1) := by decide +kernel
theorem dX2_drawn_91 : decode cX2_drawn 91 = .ok (.iand, 1) := by decide +kernel
theorem dX2_drawn_92 : decode cX2_drawn 92 = .ok (.invokevirtual 41, 3) := by decide +kernel
theorem dX2_drawn_95 : decode cX2_drawn 95 = .ok (.iadd, 1) := by decide +kernel
theorem dX2_drawn_96 : decode cX2_drawn 96 = .ok (.istore 6, 2) := by decide +kernel
theorem dX2_drawn_98 : decode cX2_drawn 98 = .ok (.iinc 9 1, 3) := by decide +kernel
theorem dX2_drawn_101 : decode cX2_drawn 101 = .ok (.goto (-80), 3) := by decide +kernel
theorem dX2_drawn_104 : decode cX2_drawn 104 = .ok (.iinc 8 1, 3) := by decide +kernel
theorem dX2_drawn_107 : decode cX2_drawn 107 = .ok (.goto (-95), 3) := by decide +kernel
theorem dX2_drawn_110 : decode cX2_drawn 110 = .ok (.iload 4, 2) := by decide +kernel
theorem dX2_drawn_112 : decode cX2_drawn 112 = .ok (.ifCond .ne 8, 3) := by decide +kernel
theorem dX2_drawn_115 : decode cX2_drawn 115 = .ok (.iload 6, 2) := by decide +kernel
theorem dX2_drawn_117 : decode cX2_drawn 117 = .ok (.goto 5, 3) := by decide +kernel
theorem dX2_drawn_120 : decode cX2_drawn 120 = .ok (.iload 7, 2) := by decide +kernel
theorem dX2_drawn_122 : decode cX2_drawn 122 = .ok (.ireturn, 1) := by decide +kernel
theorem dX3_init_0 : decode cX3_init 0 = .ok (.aload_n 0, 1) := by decide +kernel
theorem dX3_init_1 : decode cX3_init 1 = .ok (.invokespecial 3, 3) := by decide +kernel
theorem dX3_init_4 : decode cX3_init 4 = .ok (.aload_n 0, 1) := by decide +kernel
theorem dX3_init_5 : decode cX3_init 5 = .ok (.sipush 256, 3) := by decide +kernel
theorem dX3_init_8 : decode cX3_init 8 = .ok (.newarray .int, 2) := by decide +kernel
theorem dX3_init_10 : decode cX3_init 10 = .ok (.putfield 9, 3) := by decide +kernel
theorem dX3_init_13 : decode cX3_init 13 = .ok (.aload_n 0, 1) := by decide +kernel
theorem dX3_init_14 : decode cX3_init 14 = .ok (.new 15, 3) := by decide +kernel
theorem dX3_init_17 : decode cX3_init 17 = .ok (.dup, 1) := by decide +kernel
theorem dX3_init_18 : decode cX3_init 18 = .ok (.invokespecial 17, 3) := by decide +kernel
theorem dX3_init_21 : decode cX3_init 21 = .ok (.putfield 18, 3) := by decide +kernel
theorem dX3_init_24 : decode cX3_init 24 = .ok (.return_, 1) := by decide +kernel
theorem dX3_learn_0 : decode cX3_learn 0 = .ok (.aload_n 0, 1) := by decide +kernel
theorem dX3_learn_1 : decode cX3_learn 1 = .ok (.iconst 0, 1) := by decide +kernel
theorem dX3_learn_2 : decode cX3_learn 2 = .ok (.putfield 22, 3) := by decide +kernel
theorem dX3_learn_5 : decode cX3_learn 5 = .ok (.iconst 0, 1) := by decide +kernel
theorem dX3_learn_6 : decode cX3_learn 6 = .ok (.istore_n 3, 1) := by decide +kernel
theorem dX3_learn_7 : decode cX3_learn 7 = .ok (.iload_n 3, 1) := by decide +kernel
theorem dX3_learn_8 : decode cX3_learn 8 = .ok (.sipush 255, 3) := by decide +kernel
theorem dX3_learn_11 : decode cX3_learn 11 = .ok (.if_icmp .gt 55, 3) := by decide +kernel
theorem dX3_learn_14 : decode cX3_learn 14 = .ok (.aload_n 0, 1) := by decide +kernel
theorem dX3_learn_15 : decode cX3_learn 15 = .ok (.getfield 18, 3) := by decide +kernel
theorem dX3_learn_18 : decode cX3_learn 18 = .ok (.aload_n 1, 1) := by decide +kernel
theorem dX3_learn_19 : decode cX3_learn 19 = .ok (.iload_n 3, 1) := by decide +kernel
theorem dX3_learn_20 : decode cX3_learn 20 = .ok (.iconst 0, 1) := by decide +kernel
theorem dX3_learn_21 : decode cX3_learn 21 = .ok (.invokevirtual 26, 3) := by decide +kernel
theorem dX3_learn_24 : decode cX3_learn 24 = .ok (.pop, 1) := by decide +kernel
theorem dX3_learn_25 : decode cX3_learn 25 = .ok (.aload_n 2, 1) := by decide +kernel
theorem dX3_learn_26 : decode cX3_learn 26 = .ok (.aload_n 0, 1) := by decide +kernel
theorem dX3_learn_27 : decode cX3_learn 27 = .ok (.getfield 18, 3) := by decide +kernel
theorem dX3_learn_30 : decode cX3_learn 30 = .ok (.invokevirtual 30, 3) := by decide +kernel
theorem dX3_learn_33 : decode cX3_learn 33 = .ok (.bipush (-9), 2) := by decide +kernel
theorem dX3_learn_35 : decode cX3_learn 35 = .ok (.if_icmp .ne 25, 3) := by decide +kernel
theorem dX3_learn_38 : decode cX3_learn 38 = .ok (.aload_n 0, 1) := by decide +kernel
theorem dX3_learn_39 : decode cX3_learn 39 = .ok (.getfield 9, 3) := by decide +kernel
theorem dX3_learn_42 : decode cX3_learn 42 = .ok (.aload_n 0, 1) := by decide +kernel
theorem dX3_learn_43 : decode cX3_learn 43 = .ok (.getfield 22, 3) := by decide +kernel
theorem dX3_learn_46 : decode cX3_learn 46 = .ok (.iload_n 3, 1) := by decide +kernel
theorem dX3_learn_47 : decode cX3_learn 47 = .ok (.invokestatic 36, 3) := by decide +kernel
theorem dX3_learn_50 : decode cX3_learn 50 = .ok (.aload_n 0, 1) := by decide +kernel
theorem dX3_learn_51 : decode cX3_learn 51 = .ok (.dup, 1) := by decide +kernel
theorem dX3_learn_52 : decode cX3_learn 52 = .ok (.getfield 22, 3) := by decide +kernel
theorem dX3_learn_55 : decode cX3_learn 55 = .ok (.iconst 1, 1) := by decide +kernel
theorem dX3_learn_56 : decode cX3_learn 56 = .ok (.iadd, 1) := by decide +kernel
theorem dX3_learn_57 : decode cX3_learn 57 = .ok (.putfield 22, 3) := by decide +kernel
theorem dX3_learn_60 : decode cX3_learn 60 = .ok (.iinc 3 1, 3) := by decide +kernel
theorem dX3_learn_63 : decode cX3_learn 63 = .ok (.goto (-56), 3) := by decide +kernel
theorem dX3_learn_66 : decode cX3_learn 66 = .ok (.return_, 1) := by decide +kernel
theorem dX3_howMany_0 : decode cX3_howMany 0 = .ok (.aload_n 0, 1) := by decide +kernel
theorem dX3_howMany_1 : decode cX3_howMany 1 = .ok (.getfield 22, 3) := by decide +kernel
theorem dX3_howMany_4 : decode cX3_howMany 4 = .ok (.ireturn, 1) := by decide +kernel
theorem dX3_least_0 : decode cX3_least 0 = .ok (.aload_n 0, 1) := by decide +kernel
theorem dX3_least_1 : decode cX3_least 1 = .ok (.getfield 22, 3) := by decide +kernel
theorem dX3_least_4 : decode cX3_least 4 = .ok (.ifCond .ne 8, 3) := by decide +kernel
theorem dX3_least_7 : decode cX3_least 7 = .ok (.bipush (-9), 2) := by decide +kernel
theorem dX3_least_9 : decode cX3_least 9 = .ok (.goto 11, 3) := by decide +kernel
theorem dX3_least_12 : decode cX3_least 12 = .ok (.aload_n 0, 1) := by decide +kernel
theorem dX3_least_13 : decode cX3_least 13 = .ok (.getfield 9, 3) := by decide +kernel
theorem dX3_least_16 : decode cX3_least 16 = .ok (.iconst 0, 1) := by decide +kernel
theorem dX3_least_17 : decode cX3_least 17 = .ok (.invokestatic 40, 3) := by decide +kernel
theorem dX3_least_20 : decode cX3_least 20 = .ok (.ireturn, 1) := by decide +kernel
theorem dX3_howManyWith_0 : decode cX3_howManyWith 0 = .ok (.iconst 0, 1) := by decide +kernel
theorem dX3_howManyWith_1 : decode cX3_howManyWith 1 = .ok (.istore_n 2, 1) := by decide +kernel
theorem dX3_howManyWith_2 : decode cX3_howManyWith 2 = .ok (.iconst 0, 1) := by decide +kernel
theorem dX3_howManyWith_3 : decode cX3_howManyWith 3 = .ok (.istore_n 3, 1) := by decide +kernel
theorem dX3_howManyWith_4 : decode cX3_howManyWith 4 = .ok (.iload_n 3, 1) := by decide +kernel
theorem dX3_howManyWith_5 : decode cX3_howManyWith 5 = .ok (.aload_n 0, 1) := by decide +kernel
theorem dX3_howManyWith_6 : decode cX3_howManyWith 6 = .ok (.getfield 22, 3) := by decide +kernel
theorem dX3_howManyWith_9 : decode cX3_howManyWith 9 = .ok (.if_icmp .ge 27, 3) := by decide +kernel
theorem dX3_howManyWith_12 : decode cX3_howManyWith 12 = .ok (.aload_n 0, 1) := by decide +kernel
theorem dX3_howManyWith_13 : decode cX3_howManyWith 13 = .ok (.getfield 9, 3) := by decide +kernel
theorem dX3_howManyWith_16 : decode cX3_howManyWith 16 = .ok (.iload_n 3, 1) := by decide +kernel
theorem dX3_howManyWith_17 : decode cX3_howManyWith 17 = .ok (.invokestatic 40, 3) := by decide +kernel
theorem dX3_howManyWith_20 : decode cX3_howManyWith 20 = .ok (.iload_n 1, 1) := by decide +kernel
theorem dX3_howManyWith_21 : decode cX3_howManyWith 21 = .ok (.invokestatic 44, 3) := by decide +kernel
theorem dX3_howManyWith_24 : decode cX3_howManyWith 24 = .ok (.ifCond .eq 6, 3) := by decide +kernel
theorem dX3_howManyWith_27 : decode cX3_howManyWith 27 = .ok (.iinc 2 1, 3) := by decide +kernel
theorem dX3_howManyWith_30 : decode cX3_howManyWith 30 = .ok (.iinc 3 1, 3) := by decide +kernel
theorem dX3_howManyWith_33 : decode cX3_howManyWith 33 = .ok (.goto (-29), 3) := by decide +kernel
theorem dX3_howManyWith_36 : decode cX3_howManyWith 36 = .ok (.iload_n 2, 1) := by decide +kernel
theorem dX3_howManyWith_37 : decode cX3_howManyWith 37 = .ok (.ireturn, 1) := by decide +kernel
theorem dX3_lesserPart_0 : decode cX3_lesserPart 0 = .ok (.aload_n 0, 1) := by decide +kernel
theorem dX3_lesserPart_1 : decode cX3_lesserPart 1 = .ok (.iload_n 1, 1) := by decide +kernel
theorem dX3_lesserPart_2 : decode cX3_lesserPart 2 = .ok (.invokevirtual 48, 3) := by decide +kernel
theorem dX3_lesserPart_5 : decode cX3_lesserPart 5 = .ok (.istore_n 2, 1) := by decide +kernel
theorem dX3_lesserPart_6 : decode cX3_lesserPart 6 = .ok (.iload_n 2, 1) := by decide +kernel
theorem dX3_lesserPart_7 : decode cX3_lesserPart 7 = .ok (.aload_n 0, 1) := by decide +kernel
theorem dX3_lesserPart_8 : decode cX3_lesserPart 8 = .ok (.getfield 22, 3) := by decide +kernel
theorem dX3_lesserPart_11 : decode cX3_lesserPart 11 = .ok (.iload_n 2, 1) := by decide +kernel
theorem dX3_lesserPart_12 : decode cX3_lesserPart 12 = .ok (.isub, 1) := by decide +kernel
theorem dX3_lesserPart_13 : decode cX3_lesserPart 13 = .ok (.invokestatic 52, 3) := by decide +kernel
theorem dX3_lesserPart_16 : decode cX3_lesserPart 16 = .ok (.ireturn, 1) := by decide +kernel
theorem dX3_evenestThing_0 : decode cX3_evenestThing 0 = .ok (.aload_n 0, 1) := by decide +kernel
theorem dX3_evenestThing_1 : decode cX3_evenestThing 1 = .ok (.getfield 22, 3) := by decide +kernel
theorem dX3_evenestThing_4 : decode cX3_evenestThing 4 = .ok (.ifCond .ne 6, 3) := by decide +kernel
theorem dX3_evenestThing_7 : decode cX3_evenestThing 7 = .ok (.bipush (-9), 2) := by decide +kernel
theorem dX3_evenestThing_9 : decode cX3_evenestThing 9 = .ok (.ireturn, 1) := by decide +kernel
theorem dX3_evenestThing_10 : decode cX3_evenestThing 10 = .ok (.iconst 0, 1) := by decide +kernel
theorem dX3_evenestThing_11 : decode cX3_evenestThing 11 = .ok (.istore_n 1, 1) := by decide +kernel
theorem dX3_evenestThing_12 : decode cX3_evenestThing 12 = .ok (.iconst 1, 1) := by decide +kernel
theorem dX3_evenestThing_13 : decode cX3_evenestThing 13 = .ok (.istore_n 2, 1) := by decide +kernel
theorem dX3_evenestThing_14 : decode cX3_evenestThing 14 = .ok (.iload_n 2, 1) := by decide +kernel
theorem dX3_evenestThing_15 : decode cX3_evenestThing 15 = .ok (.bipush 8, 2) := by decide +kernel
theorem dX3_evenestThing_17 : decode cX3_evenestThing 17 = .ok (.if_icmp .ge 24, 3) := by decide +kernel
theorem dX3_evenestThing_20 : decode cX3_evenestThing 20 = .ok (.aload_n 0, 1) := by decide +kernel
theorem dX3_evenestThing_21 : decode cX3_evenestThing 21 = .ok (.iload_n 2, 1) := by decide +kernel
theorem dX3_evenestThing_22 : decode cX3_evenestThing 22 = .ok (.invokevirtual 58, 3) := by decide +kernel
theorem dX3_evenestThing_25 : decode cX3_evenestThing 25 = .ok (.aload_n 0, 1) := by decide +kernel
theorem dX3_evenestThing_26 : decode cX3_evenestThing 26 = .ok (.iload_n 1, 1) := by decide +kernel
theorem dX3_evenestThing_27 : decode cX3_evenestThing 27 = .ok (.invokevirtual 58, 3) := by decide +kernel
theorem dX3_evenestThing_30 : decode cX3_evenestThing 30 = .ok (.if_icmp .le 5, 3) := by decide +kernel
theorem dX3_evenestThing_33 : decode cX3_evenestThing 33 = .ok (.iload_n 2, 1) := by decide +kernel
theorem dX3_evenestThing_34 : decode cX3_evenestThing 34 = .ok (.istore_n 1, 1) := by decide +kernel
theorem dX3_evenestThing_35 : decode cX3_evenestThing 35 = .ok (.iinc 2 1, 3) := by decide +kernel
theorem dX3_evenestThing_38 : decode cX3_evenestThing 38 = .ok (.goto (-24), 3) := by decide +kernel
theorem dX3_evenestThing_41 : decode cX3_evenestThing 41 = .ok (.iload_n 1, 1) := by decide +kernel
theorem dX3_evenestThing_42 : decode cX3_evenestThing 42 = .ok (.ireturn, 1) := by decide +kernel
theorem dX4_init_0 : decode cX4_init 0 = .ok (.aload_n 0, 1) := by decide +kernel
theorem dX4_init_1 : decode cX4_init 1 = .ok (.invokespecial 3, 3) := by decide +kernel
theorem dX4_init_4 : decode cX4_init 4 = .ok (.aload_n 0, 1) := by decide +kernel
theorem dX4_init_5 : decode cX4_init 5 = .ok (.bipush 96, 2) := by decide +kernel
theorem dX4_init_7 : decode cX4_init 7 = .ok (.newarray .int, 2) := by decide +kernel
theorem dX4_init_9 : decode cX4_init 9 = .ok (.putfield 11, 3) := by decide +kernel
theorem dX4_init_12 : decode cX4_init 12 = .ok (.aload_n 0, 1) := by decide +kernel
theorem dX4_init_13 : decode cX4_init 13 = .ok (.new 15, 3) := by decide +kernel
theorem dX4_init_16 : decode cX4_init 16 = .ok (.dup, 1) := by decide +kernel
theorem dX4_init_17 : decode cX4_init 17 = .ok (.invokespecial 17, 3) := by decide +kernel
theorem dX4_init_20 : decode cX4_init 20 = .ok (.putfield 18, 3) := by decide +kernel
theorem dX4_init_23 : decode cX4_init 23 = .ok (.aload_n 0, 1) := by decide +kernel
theorem dX4_init_24 : decode cX4_init 24 = .ok (.new 22, 3) := by decide +kernel
theorem dX4_init_27 : decode cX4_init 27 = .ok (.dup, 1) := by decide +kernel
theorem dX4_init_28 : decode cX4_init 28 = .ok (.invokespecial 24, 3) := by decide +kernel
theorem dX4_init_31 : decode cX4_init 31 = .ok (.putfield 25, 3) := by decide +kernel
theorem dX4_init_34 : decode cX4_init 34 = .ok (.return_, 1) := by decide +kernel
theorem dX4_size_0 : decode cX4_size 0 = .ok (.aload_n 0, 1) := by decide +kernel
theorem dX4_size_1 : decode cX4_size 1 = .ok (.getfield 29, 3) := by decide +kernel
theorem dX4_size_4 : decode cX4_size 4 = .ok (.ireturn, 1) := by decide +kernel
theorem dX4_isFull_0 : decode cX4_isFull 0 = .ok (.aload_n 0, 1) := by decide +kernel
theorem dX4_isFull_1 : decode cX4_isFull 1 = .ok (.getfield 29, 3) := by decide +kernel
theorem dX4_isFull_4 : decode cX4_isFull 4 = .ok (.bipush 96, 2) := by decide +kernel
theorem dX4_isFull_6 : decode cX4_isFull 6 = .ok (.if_icmp .lt 7, 3) := by decide +kernel
theorem dX4_isFull_9 : decode cX4_isFull 9 = .ok (.iconst 1, 1) := by decide +kernel
theorem dX4_isFull_10 : decode cX4_isFull 10 = .ok (.goto 4, 3) := by decide +kernel
theorem dX4_isFull_13 : decode cX4_isFull 13 = .ok (.iconst 0, 1) := by decide +kernel
theorem dX4_isFull_14 : decode cX4_isFull 14 = .ok (.ireturn, 1) := by decide +kernel
theorem dX4_put_0 : decode cX4_put 0 = .ok (.aload_n 0, 1) := by decide +kernel
theorem dX4_put_1 : decode cX4_put 1 = .ok (.getfield 11, 3) := by decide +kernel
theorem dX4_put_4 : decode cX4_put 4 = .ok (.aload_n 0, 1) := by decide +kernel
theorem dX4_put_5 : decode cX4_put 5 = .ok (.getfield 29, 3) := by decide +kernel
theorem dX4_put_8 : decode cX4_put 8 = .ok (.iload_n 1, 1) := by decide +kernel
theorem dX4_put_9 : decode cX4_put 9 = .ok (.invokestatic 33, 3) := by decide +kernel
theorem dX4_put_12 : decode cX4_put 12 = .ok (.aload_n 0, 1) := by decide +kernel
theorem dX4_put_13 : decode cX4_put 13 = .ok (.dup, 1) := by decide +kernel
theorem dX4_put_14 : decode cX4_put 14 = .ok (.getfield 29, 3) := by decide +kernel
theorem dX4_put_17 : decode cX4_put 17 = .ok (.iconst 1, 1) := by decide +kernel
theorem dX4_put_18 : decode cX4_put 18 = .ok (.iadd, 1) := by decide +kernel
theorem dX4_put_19 : decode cX4_put 19 = .ok (.putfield 29, 3) := by decide +kernel
theorem dX4_put_22 : decode cX4_put 22 = .ok (.aload_n 0, 1) := by decide +kernel
theorem dX4_put_23 : decode cX4_put 23 = .ok (.getfield 29, 3) := by decide +kernel
theorem dX4_put_26 : decode cX4_put 26 = .ok (.ireturn, 1) := by decide +kernel
theorem dX4_wipe_0 : decode cX4_wipe 0 = .ok (.aload_n 0, 1) := by decide +kernel
theorem dX4_wipe_1 : decode cX4_wipe 1 = .ok (.iconst 0, 1) := by decide +kernel
theorem dX4_wipe_2 : decode cX4_wipe 2 = .ok (.putfield 29, 3) := by decide +kernel
theorem dX4_wipe_5 : decode cX4_wipe 5 = .ok (.return_, 1) := by decide +kernel
theorem dX4_statementsTold_0 : decode cX4_statementsTold 0 = .ok (.aload_n 0, 1) := by decide +kernel
theorem dX4_statementsTold_1 : decode cX4_statementsTold 1 = .ok (.getfield 37, 3) := by decide +kernel
theorem dX4_statementsTold_4 : decode cX4_statementsTold 4 = .ok (.ireturn, 1) := by decide +kernel
theorem dX4_handOver_0 : decode cX4_handOver 0 = .ok (.aload_n 1, 1) := by decide +kernel
theorem dX4_handOver_1 : decode cX4_handOver 1 = .ok (.aload_n 0, 1) := by decide +kernel
theorem dX4_handOver_2 : decode cX4_handOver 2 = .ok (.getfield 18, 3) := by decide +kernel
theorem dX4_handOver_5 : decode cX4_handOver 5 = .ok (.invokevirtual 40, 3) := by decide +kernel
theorem dX4_handOver_8 : decode cX4_handOver 8 = .ok (.return_, 1) := by decide +kernel
theorem dX4_faultOfForm_0 : decode cX4_faultOfForm 0 = .ok (.iconst (-1), 1) := by decide +kernel
theorem dX4_faultOfForm_1 : decode cX4_faultOfForm 1 = .ok (.istore_n 1, 1) := by decide +kernel
theorem dX4_faultOfForm_2 : decode cX4_faultOfForm 2 = .ok (.iconst 0, 1) := by decide +kernel
theorem dX4_faultOfForm_3 : decode cX4_faultOfForm 3 = .ok (.istore_n 2, 1) := by decide +kernel
theorem dX4_faultOfForm_4 : decode cX4_faultOfForm 4 = .ok (.iload_n 2, 1) := by decide +kernel
theorem dX4_faultOfForm_5 : decode cX4_faultOfForm 5 = .ok (.aload_n 0, 1) := by decide +kernel
theorem dX4_faultOfForm_6 : decode cX4_faultOfForm 6 = .ok (.getfield 29, 3) := by decide +kernel
theorem dX4_faultOfForm_9 : decode cX4_faultOfForm 9 = .ok (.if_icmp .ge 68, 3) := by decide +kernel
theorem dX4_faultOfForm_12 : decode cX4_faultOfForm 12 = .ok (.aload_n 0, 1) := by decide +kernel
theorem dX4_faultOfForm_13 : decode cX4_faultOfForm 13 = .ok (.getfield 11, 3) := by decide +kernel
theorem dX4_faultOfForm_16 : decode cX4_faultOfForm 16 = .ok (.iload_n 2, 1) := by decide +kernel
theorem dX4_faultOfForm_17 : decode cX4_faultOfForm 17 = .ok (.invokestatic 44, 3) := by decide +kernel
theorem dX4_faultOfForm_20 : decode cX4_faultOfForm 20 = .ok (.istore_n 3, 1) := by decide +kernel
theorem dX4_faultOfForm_21 : decode cX4_faultOfForm 21 = .ok (.iload_n 1, 1) := by decide +kernel
theorem dX4_faultOfForm_22 : decode cX4_faultOfForm 22 = .ok (.iconst (-1), 1) := by decide +kernel
theorem dX4_faultOfForm_23 : decode cX4_faultOfForm 23 = .ok (.if_icmp .ne 14, 3) := by decide +kernel
theorem dX4_faultOfForm_26 : decode cX4_faultOfForm 26 = .ok (.iload_n 3, 1) := by decide +kernel
theorem dX4_faultOfForm_27 : decode cX4_faultOfForm 27 = .ok (.invokestatic 48, 3) := by decide +kernel
theorem dX4_faultOfForm_30 : decode cX4_faultOfForm 30 = .ok (.istore_n 1, 1) := by decide +kernel
theorem dX4_faultOfForm_31 : decode cX4_faultOfForm 31 = .ok (.iload_n 1, 1) := by decide +kernel
