theorem dX13_fit_125 : decode cX13_fit 125 = .ok (.goto (-76), 3) := by decide +kernel
theorem dX13_fit_128 : decode cX13_fit 128 = .ok (.iinc 4 1, 3) := by decide +kernel
theorem dX13_fit_131 : decode cX13_fit 131 = .ok (.goto (-96), 3) := by decide +kernel
theorem dX13_fit_134 : decode cX13_fit 134 = .ok (.iconst 1, 1) := by decide +kernel
theorem dX13_fit_135 : decode cX13_fit 135 = .ok (.ireturn, 1) := by decide +kernel
theorem dX13_fits_0 : decode cX13_fits 0 = .ok (.iload_n 1, 1) := by decide +kernel
theorem dX13_fits_1 : decode cX13_fits 1 = .ok (.invokestatic 315, 3) := by decide +kernel
theorem dX13_fits_4 : decode cX13_fits 4 = .ok (.ifCond .eq 10, 3) := by decide +kernel
theorem dX13_fits_7 : decode cX13_fits 7 = .ok (.iload_n 2, 1) := by decide +kernel
theorem dX13_fits_8 : decode cX13_fits 8 = .ok (.invokestatic 315, 3) := by decide +kernel
theorem dX13_fits_11 : decode cX13_fits 11 = .ok (.ifCond .ne 8, 3) := by decide +kernel
theorem dX13_fits_14 : decode cX13_fits 14 = .ok (.bipush (-2), 2) := by decide +kernel
theorem dX13_fits_16 : decode cX13_fits 16 = .ok (.goto 18, 3) := by decide +kernel
theorem dX13_fits_19 : decode cX13_fits 19 = .ok (.aload_n 0, 1) := by decide +kernel
theorem dX13_fits_20 : decode cX13_fits 20 = .ok (.iload_n 1, 1) := by decide +kernel
theorem dX13_fits_21 : decode cX13_fits 21 = .ok (.iload_n 2, 1) := by decide +kernel
theorem dX13_fits_22 : decode cX13_fits 22 = .ok (.iconst 1, 1) := by decide +kernel
theorem dX13_fits_23 : decode cX13_fits 23 = .ok (.invokevirtual 333, 3) := by decide +kernel
theorem dX13_fits_26 : decode cX13_fits 26 = .ok (.ifCond .eq 7, 3) := by decide +kernel
theorem dX13_fits_29 : decode cX13_fits 29 = .ok (.iconst 1, 1) := by decide +kernel
theorem dX13_fits_30 : decode cX13_fits 30 = .ok (.goto 4, 3) := by decide +kernel
theorem dX13_fits_33 : decode cX13_fits 33 = .ok (.iconst 0, 1) := by decide +kernel
theorem dX13_fits_34 : decode cX13_fits 34 = .ok (.ireturn, 1) := by decide +kernel
theorem dX13_step_0 : decode cX13_step 0 = .ok (.iload_n 1, 1) := by decide +kernel
theorem dX13_step_1 : decode cX13_step 1 = .ok (.invokestatic 315, 3) := by decide +kernel
theorem dX13_step_4 : decode cX13_step 4 = .ok (.ifCond .eq 15, 3) := by decide +kernel
theorem dX13_step_7 : decode cX13_step 7 = .ok (.iload_n 2, 1) := by decide +kernel
theorem dX13_step_8 : decode cX13_step 8 = .ok (.i2l, 1) := by decide +kernel
theorem dX13_step_9 : decode cX13_step 9 = .ok (.lconst 1, 1) := by decide +kernel
theorem dX13_step_10 : decode cX13_step 10 = .ok (.ldc2_w 337, 3) := by decide +kernel
theorem dX13_step_13 : decode cX13_step 13 = .ok (.invokestatic 113, 3) := by decide +kernel
theorem dX13_step_16 : decode cX13_step 16 = .ok (.ifCond .ne 6, 3) := by decide +kernel
theorem dX13_step_19 : decode cX13_step 19 = .ok (.bipush (-2), 2) := by decide +kernel
theorem dX13_step_21 : decode cX13_step 21 = .ok (.ireturn, 1) := by decide +kernel
theorem dX13_step_22 : decode cX13_step 22 = .ok (.aload_n 0, 1) := by decide +kernel
theorem dX13_step_23 : decode cX13_step 23 = .ok (.iload_n 1, 1) := by decide +kernel
theorem dX13_step_24 : decode cX13_step 24 = .ok (.iload_n 2, 1) := by decide +kernel
theorem dX13_step_25 : decode cX13_step 25 = .ok (.iload_n 3, 1) := by decide +kernel
theorem dX13_step_26 : decode cX13_step 26 = .ok (.iload 4, 2) := by decide +kernel
theorem dX13_step_28 : decode cX13_step 28 = .ok (.invokevirtual 229, 3) := by decide +kernel
theorem dX13_step_31 : decode cX13_step 31 = .ok (.ifCond .ne 5, 3) := by decide +kernel
theorem dX13_step_34 : decode cX13_step 34 = .ok (.iconst (-1), 1) := by decide +kernel
theorem dX13_step_35 : decode cX13_step 35 = .ok (.ireturn, 1) := by decide +kernel
theorem dX13_step_36 : decode cX13_step 36 = .ok (.aload_n 0, 1) := by decide +kernel
theorem dX13_step_37 : decode cX13_step 37 = .ok (.iload_n 1, 1) := by decide +kernel
theorem dX13_step_38 : decode cX13_step 38 = .ok (.bipush 10, 2) := by decide +kernel
theorem dX13_step_40 : decode cX13_step 40 = .ok (.invokevirtual 196, 3) := by decide +kernel
theorem dX13_step_43 : decode cX13_step 43 = .ok (.aload_n 0, 1) := by decide +kernel
theorem dX13_step_44 : decode cX13_step 44 = .ok (.getfield 9, 3) := by decide +kernel
theorem dX13_step_47 : decode cX13_step 47 = .ok (.iload_n 1, 1) := by decide +kernel
theorem dX13_step_48 : decode cX13_step 48 = .ok (.iaload, 1) := by decide +kernel
theorem dX13_step_49 : decode cX13_step 49 = .ok (.ireturn, 1) := by decide +kernel
theorem dX13_walk_0 : decode cX13_walk 0 = .ok (.iload_n 1, 1) := by decide +kernel
theorem dX13_walk_1 : decode cX13_walk 1 = .ok (.invokestatic 321, 3) := by decide +kernel
theorem dX13_walk_4 : decode cX13_walk 4 = .ok (.ifCond .eq 17, 3) := by decide +kernel
theorem dX13_walk_7 : decode cX13_walk 7 = .ok (.iload_n 2, 1) := by decide +kernel
theorem dX13_walk_8 : decode cX13_walk 8 = .ok (.invokestatic 315, 3) := by decide +kernel
theorem dX13_walk_11 : decode cX13_walk 11 = .ok (.ifCond .eq 10, 3) := by decide +kernel
theorem dX13_walk_14 : decode cX13_walk 14 = .ok (.iload_n 3, 1) := by decide +kernel
theorem dX13_walk_15 : decode cX13_walk 15 = .ok (.invokestatic 315, 3) := by decide +kernel
theorem dX13_walk_18 : decode cX13_walk 18 = .ok (.ifCond .ne 6, 3) := by decide +kernel
theorem dX13_walk_21 : decode cX13_walk 21 = .ok (.bipush (-2), 2) := by decide +kernel
theorem dX13_walk_23 : decode cX13_walk 23 = .ok (.ireturn, 1) := by decide +kernel
theorem dX13_walk_24 : decode cX13_walk 24 = .ok (.aload_n 0, 1) := by decide +kernel
theorem dX13_walk_25 : decode cX13_walk 25 = .ok (.bipush 8, 2) := by decide +kernel
theorem dX13_walk_27 : decode cX13_walk 27 = .ok (.iload_n 2, 1) := by decide +kernel
theorem dX13_walk_28 : decode cX13_walk 28 = .ok (.invokevirtual 196, 3) := by decide +kernel
theorem dX13_walk_31 : decode cX13_walk 31 = .ok (.aload_n 0, 1) := by decide +kernel
theorem dX13_walk_32 : decode cX13_walk 32 = .ok (.iload_n 1, 1) := by decide +kernel
theorem dX13_walk_33 : decode cX13_walk 33 = .ok (.bipush 8, 2) := by decide +kernel
theorem dX13_walk_35 : decode cX13_walk 35 = .ok (.invokevirtual 339, 3) := by decide +kernel
theorem dX13_walk_38 : decode cX13_walk 38 = .ok (.istore 4, 2) := by decide +kernel
theorem dX13_walk_40 : decode cX13_walk 40 = .ok (.iload 4, 2) := by decide +kernel
theorem dX13_walk_42 : decode cX13_walk 42 = .ok (.iconst (-1), 1) := by decide +kernel
theorem dX13_walk_43 : decode cX13_walk 43 = .ok (.if_icmp .eq 9, 3) := by decide +kernel
theorem dX13_walk_46 : decode cX13_walk 46 = .ok (.bipush (-10), 2) := by decide +kernel
theorem dX13_walk_48 : decode cX13_walk 48 = .ok (.iload 4, 2) := by decide +kernel
theorem dX13_walk_50 : decode cX13_walk 50 = .ok (.isub, 1) := by decide +kernel
theorem dX13_walk_51 : decode cX13_walk 51 = .ok (.ireturn, 1) := by decide +kernel
theorem dX13_walk_52 : decode cX13_walk 52 = .ok (.aload_n 0, 1) := by decide +kernel
theorem dX13_walk_53 : decode cX13_walk 53 = .ok (.iload_n 3, 1) := by decide +kernel
theorem dX13_walk_54 : decode cX13_walk 54 = .ok (.bipush 8, 2) := by decide +kernel
theorem dX13_walk_56 : decode cX13_walk 56 = .ok (.invokevirtual 196, 3) := by decide +kernel
theorem dX13_walk_59 : decode cX13_walk 59 = .ok (.aload_n 0, 1) := by decide +kernel
theorem dX13_walk_60 : decode cX13_walk 60 = .ok (.getfield 9, 3) := by decide +kernel
theorem dX13_walk_63 : decode cX13_walk 63 = .ok (.iload_n 3, 1) := by decide +kernel
theorem dX13_walk_64 : decode cX13_walk 64 = .ok (.iaload, 1) := by decide +kernel
theorem dX13_walk_65 : decode cX13_walk 65 = .ok (.ireturn, 1) := by decide +kernel
theorem dX13_steps_0 : decode cX13_steps 0 = .ok (.iload_n 1, 1) := by decide +kernel
theorem dX13_steps_1 : decode cX13_steps 1 = .ok (.invokestatic 321, 3) := by decide +kernel
theorem dX13_steps_4 : decode cX13_steps 4 = .ok (.ifCond .eq 12, 3) := by decide +kernel
theorem dX13_steps_7 : decode cX13_steps 7 = .ok (.aload_n 0, 1) := by decide +kernel
theorem dX13_steps_8 : decode cX13_steps 8 = .ok (.getfield 29, 3) := by decide +kernel
theorem dX13_steps_11 : decode cX13_steps 11 = .ok (.iload_n 1, 1) := by decide +kernel
theorem dX13_steps_12 : decode cX13_steps 12 = .ok (.iaload, 1) := by decide +kernel
theorem dX13_steps_13 : decode cX13_steps 13 = .ok (.goto 5, 3) := by decide +kernel
theorem dX13_steps_16 : decode cX13_steps 16 = .ok (.bipush (-2), 2) := by decide +kernel
theorem dX13_steps_18 : decode cX13_steps 18 = .ok (.ireturn, 1) := by decide +kernel
theorem dX13_stepAt_0 : decode cX13_stepAt 0 = .ok (.iload_n 1, 1) := by decide +kernel
theorem dX13_stepAt_1 : decode cX13_stepAt 1 = .ok (.invokestatic 321, 3) := by decide +kernel
theorem dX13_stepAt_4 : decode cX13_stepAt 4 = .ok (.ifCond .eq 21, 3) := by decide +kernel
theorem dX13_stepAt_7 : decode cX13_stepAt 7 = .ok (.iload_n 2, 1) := by decide +kernel
theorem dX13_stepAt_8 : decode cX13_stepAt 8 = .ok (.i2l, 1) := by decide +kernel
theorem dX13_stepAt_9 : decode cX13_stepAt 9 = .ok (.lconst 0, 1) := by decide +kernel
theorem dX13_stepAt_10 : decode cX13_stepAt 10 = .ok (.aload_n 0, 1) := by decide +kernel
theorem dX13_stepAt_11 : decode cX13_stepAt 11 = .ok (.getfield 29, 3) := by decide +kernel
theorem dX13_stepAt_14 : decode cX13_stepAt 14 = .ok (.iload_n 1, 1) := by decide +kernel
theorem dX13_stepAt_15 : decode cX13_stepAt 15 = .ok (.iaload, 1) := by decide +kernel
theorem dX13_stepAt_16 : decode cX13_stepAt 16 = .ok (.i2l, 1) := by decide +kernel
theorem dX13_stepAt_17 : decode cX13_stepAt 17 = .ok (.lconst 1, 1) := by decide +kernel
theorem dX13_stepAt_18 : decode cX13_stepAt 18 = .ok (.lsub, 1) := by decide +kernel
theorem dX13_stepAt_19 : decode cX13_stepAt 19 = .ok (.invokestatic 113, 3) := by decide +kernel
theorem dX13_stepAt_22 : decode cX13_stepAt 22 = .ok (.ifCond .ne 5, 3) := by decide +kernel
theorem dX13_stepAt_25 : decode cX13_stepAt 25 = .ok (.iconst (-1), 1) := by decide +kernel
theorem dX13_stepAt_26 : decode cX13_stepAt 26 = .ok (.ireturn, 1) := by decide +kernel
theorem dX13_stepAt_27 : decode cX13_stepAt 27 = .ok (.bipush 12, 2) := by decide +kernel
theorem dX13_stepAt_29 : decode cX13_stepAt 29 = .ok (.iload_n 1, 1) := by decide +kernel
theorem dX13_stepAt_30 : decode cX13_stepAt 30 = .ok (.imul, 1) := by decide +kernel
theorem dX13_stepAt_31 : decode cX13_stepAt 31 = .ok (.iload_n 2, 1) := by decide +kernel
theorem dX13_stepAt_32 : decode cX13_stepAt 32 = .ok (.iadd, 1) := by decide +kernel
theorem dX13_stepAt_33 : decode cX13_stepAt 33 = .ok (.istore 4, 2) := by decide +kernel
theorem dX13_stepAt_35 : decode cX13_stepAt 35 = .ok (.iload_n 3, 1) := by decide +kernel
theorem dX13_stepAt_36 : decode cX13_stepAt 36 = .ok (.ifCond .ne 13, 3) := by decide +kernel
theorem dX13_stepAt_39 : decode cX13_stepAt 39 = .ok (.aload_n 0, 1) := by decide +kernel
theorem dX13_stepAt_40 : decode cX13_stepAt 40 = .ok (.getfield 32, 3) := by decide +kernel
theorem dX13_stepAt_43 : decode cX13_stepAt 43 = .ok (.iload 4, 2) := by decide +kernel
theorem dX13_stepAt_45 : decode cX13_stepAt 45 = .ok (.iaload, 1) := by decide +kernel
theorem dX13_stepAt_46 : decode cX13_stepAt 46 = .ok (.goto 34, 3) := by decide +kernel
theorem dX13_stepAt_49 : decode cX13_stepAt 49 = .ok (.iload_n 3, 1) := by decide +kernel
theorem dX13_stepAt_50 : decode cX13_stepAt 50 = .ok (.iconst 1, 1) := by decide +kernel
theorem dX13_stepAt_51 : decode cX13_stepAt 51 = .ok (.if_icmp .ne 13, 3) := by decide +kernel
theorem dX13_stepAt_54 : decode cX13_stepAt 54 = .ok (.aload_n 0, 1) := by decide +kernel
theorem dX13_stepAt_55 : decode cX13_stepAt 55 = .ok (.getfield 35, 3) := by decide +kernel
theorem dX13_stepAt_58 : decode cX13_stepAt 58 = .ok (.iload 4, 2) := by decide +kernel
theorem dX13_stepAt_60 : decode cX13_stepAt 60 = .ok (.iaload, 1) := by decide +kernel
theorem dX13_stepAt_61 : decode cX13_stepAt 61 = .ok (.goto 19, 3) := by decide +kernel
theorem dX13_stepAt_64 : decode cX13_stepAt 64 = .ok (.iload_n 3, 1) := by decide +kernel
theorem dX13_stepAt_65 : decode cX13_stepAt 65 = .ok (.iconst 2, 1) := by decide +kernel
theorem dX13_stepAt_66 : decode cX13_stepAt 66 = .ok (.if_icmp .ne 13, 3) := by decide +kernel
theorem dX13_stepAt_69 : decode cX13_stepAt 69 = .ok (.aload_n 0, 1) := by decide +kernel
theorem dX13_stepAt_70 : decode cX13_stepAt 70 = .ok (.getfield 38, 3) := by decide +kernel
theorem dX13_stepAt_73 : decode cX13_stepAt 73 = .ok (.iload 4, 2) := by decide +kernel
theorem dX13_stepAt_75 : decode cX13_stepAt 75 = .ok (.iaload, 1) := by decide +kernel
theorem dX13_stepAt_76 : decode cX13_stepAt 76 = .ok (.goto 4, 3) := by decide +kernel
theorem dX13_stepAt_79 : decode cX13_stepAt 79 = .ok (.iconst (-1), 1) := by decide +kernel
theorem dX13_stepAt_80 : decode cX13_stepAt 80 = .ok (.ireturn, 1) := by decide +kernel
theorem dX13_chain_0 : decode cX13_chain 0 = .ok (.iload_n 1, 1) := by decide +kernel
theorem dX13_chain_1 : decode cX13_chain 1 = .ok (.invokestatic 321, 3) := by decide +kernel
theorem dX13_chain_4 : decode cX13_chain 4 = .ok (.ifCond .eq 17, 3) := by decide +kernel
theorem dX13_chain_7 : decode cX13_chain 7 = .ok (.iload_n 2, 1) := by decide +kernel
theorem dX13_chain_8 : decode cX13_chain 8 = .ok (.invokestatic 321, 3) := by decide +kernel
theorem dX13_chain_11 : decode cX13_chain 11 = .ok (.ifCond .eq 10, 3) := by decide +kernel
theorem dX13_chain_14 : decode cX13_chain 14 = .ok (.iload_n 3, 1) := by decide +kernel
theorem dX13_chain_15 : decode cX13_chain 15 = .ok (.invokestatic 321, 3) := by decide +kernel
theorem dX13_chain_18 : decode cX13_chain 18 = .ok (.ifCond .ne 6, 3) := by decide +kernel
theorem dX13_chain_21 : decode cX13_chain 21 = .ok (.bipush (-2), 2) := by decide +kernel
theorem dX13_chain_23 : decode cX13_chain 23 = .ok (.ireturn, 1) := by decide +kernel
theorem dX13_chain_24 : decode cX13_chain 24 = .ok (.aload_n 0, 1) := by decide +kernel
theorem dX13_chain_25 : decode cX13_chain 25 = .ok (.getfield 29, 3) := by decide +kernel
theorem dX13_chain_28 : decode cX13_chain 28 = .ok (.iload_n 1, 1) := by decide +kernel
theorem dX13_chain_29 : decode cX13_chain 29 = .ok (.iaload, 1) := by decide +kernel
theorem dX13_chain_30 : decode cX13_chain 30 = .ok (.aload_n 0, 1) := by decide +kernel
theorem dX13_chain_31 : decode cX13_chain 31 = .ok (.getfield 29, 3) := by decide +kernel
theorem dX13_chain_34 : decode cX13_chain 34 = .ok (.iload_n 2, 1) := by decide +kernel
theorem dX13_chain_35 : decode cX13_chain 35 = .ok (.iaload, 1) := by decide +kernel
theorem dX13_chain_36 : decode cX13_chain 36 = .ok (.iadd, 1) := by decide +kernel
theorem dX13_chain_37 : decode cX13_chain 37 = .ok (.bipush 12, 2) := by decide +kernel
theorem dX13_chain_39 : decode cX13_chain 39 = .ok (.if_icmp .le 6, 3) := by decide +kernel
theorem dX13_chain_42 : decode cX13_chain 42 = .ok (.bipush (-3), 2) := by decide +kernel
theorem dX13_chain_44 : decode cX13_chain 44 = .ok (.ireturn, 1) := by decide +kernel
theorem dX13_chain_45 : decode cX13_chain 45 = .ok (.aload_n 0, 1) := by decide +kernel
theorem dX13_chain_46 : decode cX13_chain 46 = .ok (.bipush 8, 2) := by decide +kernel
theorem dX13_chain_48 : decode cX13_chain 48 = .ok (.iload_n 1, 1) := by decide +kernel
theorem dX13_chain_49 : decode cX13_chain 49 = .ok (.invokevirtual 324, 3) := by decide +kernel
theorem dX13_chain_52 : decode cX13_chain 52 = .ok (.iconst 0, 1) := by decide +kernel
theorem dX13_chain_53 : decode cX13_chain 53 = .ok (.istore 4, 2) := by decide +kernel
theorem dX13_chain_55 : decode cX13_chain 55 = .ok (.iload 4, 2) := by decide +kernel
theorem dX13_chain_57 : decode cX13_chain 57 = .ok (.aload_n 0, 1) := by decide +kernel
theorem dX13_chain_58 : decode cX13_chain 58 = .ok (.getfield 29, 3) := by decide +kernel
theorem dX13_chain_61 : decode cX13_chain 61 = .ok (.iload_n 2, 1) := by decide +kernel
theorem dX13_chain_62 : decode cX13_chain 62 = .ok (.iaload, 1) := by decide +kernel
theorem dX13_chain_63 : decode cX13_chain 63 = .ok (.if_icmp .ge 89, 3) := by decide +kernel
theorem dX13_chain_66 : decode cX13_chain 66 = .ok (.bipush 96, 2) := by decide +kernel
theorem dX13_chain_68 : decode cX13_chain 68 = .ok (.aload_n 0, 1) := by decide +kernel
theorem dX13_chain_69 : decode cX13_chain 69 = .ok (.getfield 29, 3) := by decide +kernel
theorem dX13_chain_72 : decode cX13_chain 72 = .ok (.bipush 8, 2) := by decide +kernel
theorem dX13_chain_74 : decode cX13_chain 74 = .ok (.iaload, 1) := by decide +kernel
theorem dX13_chain_75 : decode cX13_chain 75 = .ok (.iadd, 1) := by decide +kernel
theorem dX13_chain_76 : decode cX13_chain 76 = .ok (.istore 5, 2) := by decide +kernel
theorem dX13_chain_78 : decode cX13_chain 78 = .ok (.aload_n 0, 1) := by decide +kernel
theorem dX13_chain_79 : decode cX13_chain 79 = .ok (.getfield 32, 3) := by decide +kernel
theorem dX13_chain_82 : decode cX13_chain 82 = .ok (.iload 5, 2) := by decide +kernel
theorem dX13_chain_84 : decode cX13_chain 84 = .ok (.aload_n 0, 1) := by decide +kernel
theorem dX13_chain_85 : decode cX13_chain 85 = .ok (.getfield 32, 3) := by decide +kernel
theorem dX13_chain_88 : decode cX13_chain 88 = .ok (.bipush 12, 2) := by decide +kernel
theorem dX13_chain_90 : decode cX13_chain 90 = .ok (.iload_n 2, 1) := by decide +kernel
theorem dX13_chain_91 : decode cX13_chain 91 = .ok (.imul, 1) := by decide +kernel
theorem dX13_chain_92 : decode cX13_chain 92 = .ok (.iload 4, 2) := by decide +kernel
theorem dX13_chain_94 : decode cX13_chain 94 = .ok (.iadd, 1) := by decide +kernel
theorem dX13_chain_95 : decode cX13_chain 95 = .ok (.iaload, 1) := by decide +kernel
theorem dX13_chain_96 : decode cX13_chain 96 = .ok (.iastore, 1) := by decide +kernel
theorem dX13_chain_97 : decode cX13_chain 97 = .ok (.aload_n 0, 1) := by decide +kernel
theorem dX13_chain_98 : decode cX13_chain 98 = .ok (.getfield 35, 3) := by decide +kernel
theorem dX13_chain_101 : decode cX13_chain 101 = .ok (.iload 5, 2) := by decide +kernel
theorem dX13_chain_103 : decode cX13_chain 103 = .ok (.aload_n 0, 1) := by decide +kernel
theorem dX13_chain_104 : decode cX13_chain 104 = .ok (.getfield 35, 3) := by decide +kernel
theorem dX13_chain_107 : decode cX13_chain 107 = .ok (.bipush 12, 2) := by decide +kernel
theorem dX13_chain_109 : decode cX13_chain 109 = .ok (.iload_n 2, 1) := by decide +kernel
theorem dX13_chain_110 : decode cX13_chain 110 = .ok (.imul, 1) := by decide +kernel
theorem dX13_chain_111 : decode cX13_chain 111 = .ok (.iload 4, 2) := by decide +kernel
theorem dX13_chain_113 : decode cX13_chain 113 = .ok (.iadd, 1) := by decide +kernel
theorem dX13_chain_114 : decode cX13_chain 114 = .ok (.iaload, 1) := by decide +kernel
theorem dX13_chain_115 : decode cX13_chain 115 = .ok (.iastore, 1) := by decide +kernel
theorem dX13_chain_116 : decode cX13_chain 116 = .ok (.aload_n 0, 1) := by decide +kernel
theorem dX13_chain_117 : decode cX13_chain 117 = .ok (.getfield 38, 3) := by decide +kernel
theorem dX13_chain_120 : decode cX13_chain 120 = .ok (.iload 5, 2) := by decide +kernel
theorem dX13_chain_122 : decode cX13_chain 122 = .ok (.aload_n 0, 1) := by decide +kernel
theorem dX13_chain_123 : decode cX13_chain 123 = .ok (.getfield 38, 3) := by decide +kernel
theorem dX13_chain_126 : decode cX13_chain 126 = .ok (.bipush 12, 2) := by decide +kernel
theorem dX13_chain_128 : decode cX13_chain 128 = .ok (.iload_n 2, 1) := by decide +kernel
theorem dX13_chain_129 : decode cX13_chain 129 = .ok (.imul, 1) := by decide +kernel
theorem dX13_chain_130 : decode cX13_chain 130 = .ok (.iload 4, 2) := by decide +kernel
theorem dX13_chain_132 : decode cX13_chain 132 = .ok (.iadd, 1) := by decide +kernel
theorem dX13_chain_133 : decode cX13_chain 133 = .ok (.iaload, 1) := by decide +kernel
theorem dX13_chain_134 : decode cX13_chain 134 = .ok (.iastore, 1) := by decide +kernel
theorem dX13_chain_135 : decode cX13_chain 135 = .ok (.aload_n 0, 1) := by decide +kernel
theorem dX13_chain_136 : decode cX13_chain 136 = .ok (.getfield 29, 3) := by decide +kernel
theorem dX13_chain_139 : decode cX13_chain 139 = .ok (.bipush 8, 2) := by decide +kernel
theorem dX13_chain_141 : decode cX13_chain 141 = .ok (.dup2, 1) := by decide +kernel
theorem dX13_chain_142 : decode cX13_chain 142 = .ok (.iaload, 1) := by decide +kernel
theorem dX13_chain_143 : decode cX13_chain 143 = .ok (.iconst 1, 1) := by decide +kernel
theorem dX13_chain_144 : decode cX13_chain 144 = .ok (.iadd, 1) := by decide +kernel
theorem dX13_chain_145 : decode cX13_chain 145 = .ok (.iastore, 1) := by decide +kernel
theorem dX13_chain_146 : decode cX13_chain 146 = .ok (.iinc 4 1, 3) := by decide +kernel
theorem dX13_chain_149 : decode cX13_chain 149 = .ok (.goto (-94), 3) := by decide +kernel
theorem dX13_chain_152 : decode cX13_chain 152 = .ok (.aload_n 0, 1) := by decide +kernel
theorem dX13_chain_153 : decode cX13_chain 153 = .ok (.iload_n 3, 1) := by decide +kernel
theorem dX13_chain_154 : decode cX13_chain 154 = .ok (.bipush 8, 2) := by decide +kernel
theorem dX13_chain_156 : decode cX13_chain 156 = .ok (.invokevirtual 324, 3) := by decide +kernel
theorem dX13_chain_159 : decode cX13_chain 159 = .ok (.aload_n 0, 1) := by decide +kernel
theorem dX13_chain_160 : decode cX13_chain 160 = .ok (.getfield 29, 3) := by decide +kernel
theorem dX13_chain_163 : decode cX13_chain 163 = .ok (.iload_n 3, 1) := by decide +kernel
theorem dX13_chain_164 : decode cX13_chain 164 = .ok (.iaload, 1) := by decide +kernel
theorem dX13_chain_165 : decode cX13_chain 165 = .ok (.ireturn, 1) := by decide +kernel
theorem dX13_search_0 : decode cX13_search 0 = .ok (.aload_n 0, 1) := by decide +kernel
theorem dX13_search_1 : decode cX13_search 1 = .ok (.getfield 66, 3) := by decide +kernel
theorem dX13_search_4 : decode cX13_search 4 = .ok (.aload_n 0, 1) := by decide +kernel
theorem dX13_search_5 : decode cX13_search 5 = .ok (.invokevirtual 342, 3) := by decide +kernel
theorem dX13_search_8 : decode cX13_search 8 = .ok (.iaload, 1) := by decide +kernel
theorem dX13_search_9 : decode cX13_search 9 = .ok (.istore_n 1, 1) := by decide +kernel
theorem dX13_search_10 : decode cX13_search 10 = .ok (.iload_n 1, 1) := by decide +kernel
theorem dX13_search_11 : decode cX13_search 11 = .ok (.iconst (-1), 1) := by decide +kernel
theorem dX13_search_12 : decode cX13_search 12 = .ok (.if_icmp .eq 23, 3) := by decide +kernel
theorem dX13_search_15 : decode cX13_search 15 = .ok (.aload_n 0, 1) := by decide +kernel
theorem dX13_search_16 : decode cX13_search 16 = .ok (.iload_n 1, 1) := by decide +kernel
theorem dX13_search_17 : decode cX13_search 17 = .ok (.invokevirtual 345, 3) := by decide +kernel
theorem dX13_search_20 : decode cX13_search 20 = .ok (.ifCond .eq 5, 3) := by decide +kernel
theorem dX13_search_23 : decode cX13_search 23 = .ok (.iload_n 1, 1) := by decide +kernel
theorem dX13_search_24 : decode cX13_search 24 = .ok (.ireturn, 1) := by decide +kernel
theorem dX13_search_25 : decode cX13_search 25 = .ok (.aload_n 0, 1) := by decide +kernel
theorem dX13_search_26 : decode cX13_search 26 = .ok (.getfield 63, 3) := by decide +kernel
theorem dX13_search_29 : decode cX13_search 29 = .ok (.iload_n 1, 1) := by decide +kernel
theorem dX13_search_30 : decode cX13_search 30 = .ok (.iaload, 1) := by decide +kernel
theorem dX13_search_31 : decode cX13_search 31 = .ok (.istore_n 1, 1) := by decide +kernel
theorem dX13_search_32 : decode cX13_search 32 = .ok (.goto (-22), 3) := by decide +kernel
theorem dX13_search_35 : decode cX13_search 35 = .ok (.iconst (-1), 1) := by decide +kernel
theorem dX13_search_36 : decode cX13_search 36 = .ok (.ireturn, 1) := by decide +kernel
theorem dX13_shapeNow_0 : decode cX13_shapeNow 0 = .ok (.aload_n 0, 1) := by decide +kernel
theorem dX13_shapeNow_1 : decode cX13_shapeNow 1 = .ok (.getfield 9, 3) := by decide +kernel
theorem dX13_shapeNow_4 : decode cX13_shapeNow 4 = .ok (.bipush 8, 2) := by decide +kernel
theorem dX13_shapeNow_6 : decode cX13_shapeNow 6 = .ok (.iaload, 1) := by decide +kernel
theorem dX13_shapeNow_7 : decode cX13_shapeNow 7 = .ok (.bipush 8, 2) := by decide +kernel
theorem dX13_shapeNow_9 : decode cX13_shapeNow 9 = .ok (.imul, 1) := by decide +kernel
theorem dX13_shapeNow_10 : decode cX13_shapeNow 10 = .ok (.aload_n 0, 1) := by decide +kernel
theorem dX13_shapeNow_11 : decode cX13_shapeNow 11 = .ok (.getfield 13, 3) := by decide +kernel
theorem dX13_shapeNow_14 : decode cX13_shapeNow 14 = .ok (.bipush 8, 2) := by decide +kernel
theorem dX13_shapeNow_16 : decode cX13_shapeNow 16 = .ok (.iaload, 1) := by decide +kernel
theorem dX13_shapeNow_17 : decode cX13_shapeNow 17 = .ok (.iadd, 1) := by decide +kernel
theorem dX13_shapeNow_18 : decode cX13_shapeNow 18 = .ok (.sipush 128, 3) := by decide +kernel
theorem dX13_shapeNow_21 : decode cX13_shapeNow 21 = .ok (.imul, 1) := by decide +kernel
theorem dX13_shapeNow_22 : decode cX13_shapeNow 22 = .ok (.aload_n 0, 1) := by decide +kernel
theorem dX13_shapeNow_23 : decode cX13_shapeNow 23 = .ok (.getfield 348, 3) := by decide +kernel
theorem dX13_shapeNow_26 : decode cX13_shapeNow 26 = .ok (.ifCond .eq 24, 3) := by decide +kernel
theorem dX13_shapeNow_29 : decode cX13_shapeNow 29 = .ok (.aload_n 0, 1) := by decide +kernel
theorem dX13_shapeNow_30 : decode cX13_shapeNow 30 = .ok (.getfield 9, 3) := by decide +kernel
theorem dX13_shapeNow_33 : decode cX13_shapeNow 33 = .ok (.bipush 9, 2) := by decide +kernel
theorem dX13_shapeNow_35 : decode cX13_shapeNow 35 = .ok (.iaload, 1) := by decide +kernel
theorem dX13_shapeNow_36 : decode cX13_shapeNow 36 = .ok (.bipush 8, 2) := by decide +kernel
theorem dX13_shapeNow_38 : decode cX13_shapeNow 38 = .ok (.imul, 1) := by decide +kernel
theorem dX13_shapeNow_39 : decode cX13_shapeNow 39 = .ok (.aload_n 0, 1) := by decide +kernel
theorem dX13_shapeNow_40 : decode cX13_shapeNow 40 = .ok (.getfield 13, 3) := by decide +kernel
theorem dX13_shapeNow_43 : decode cX13_shapeNow 43 = .ok (.bipush 9, 2) := by decide +kernel
theorem dX13_shapeNow_45 : decode cX13_shapeNow 45 = .ok (.iaload, 1) := by decide +kernel
theorem dX13_shapeNow_46 : decode cX13_shapeNow 46 = .ok (.iadd, 1) := by decide +kernel
theorem dX13_shapeNow_47 : decode cX13_shapeNow 47 = .ok (.goto 4, 3) := by decide +kernel
theorem dX13_shapeNow_50 : decode cX13_shapeNow 50 = .ok (.iconst 0, 1) := by decide +kernel
theorem dX13_shapeNow_51 : decode cX13_shapeNow 51 = .ok (.iadd, 1) := by decide +kernel
theorem dX13_shapeNow_52 : decode cX13_shapeNow 52 = .ok (.ireturn, 1) := by decide +kernel
theorem dX13_sum_0 : decode cX13_sum 0 = .ok (.aload_n 0, 1) := by decide +kernel
theorem dX13_sum_1 : decode cX13_sum 1 = .ok (.invokevirtual 352, 3) := by decide +kernel
theorem dX13_sum_4 : decode cX13_sum 4 = .ok (.i2l, 1) := by decide +kernel
theorem dX13_sum_5 : decode cX13_sum 5 = .ok (.lstore_n 1, 1) := by decide +kernel
theorem dX13_sum_6 : decode cX13_sum 6 = .ok (.iconst 0, 1) := by decide +kernel
theorem dX13_sum_7 : decode cX13_sum 7 = .ok (.istore_n 3, 1) := by decide +kernel
theorem dX13_sum_8 : decode cX13_sum 8 = .ok (.iload_n 3, 1) := by decide +kernel
theorem dX13_sum_9 : decode cX13_sum 9 = .ok (.bipush 72, 2) := by decide +kernel
theorem dX13_sum_11 : decode cX13_sum 11 = .ok (.if_icmp .ge 26, 3) := by decide +kernel
theorem dX13_sum_14 : decode cX13_sum 14 = .ok (.ldc2_w 355, 3) := by decide +kernel
theorem dX13_sum_17 : decode cX13_sum 17 = .ok (.lload_n 1, 1) := by decide +kernel
theorem dX13_sum_18 : decode cX13_sum 18 = .ok (.lmul, 1) := by decide +kernel
theorem dX13_sum_19 : decode cX13_sum 19 = .ok (.aload_n 0, 1) := by decide +kernel
theorem dX13_sum_20 : decode cX13_sum 20 = .ok (.getfield 16, 3) := by decide +kernel
theorem dX13_sum_23 : decode cX13_sum 23 = .ok (.sipush 576, 3) := by decide +kernel
theorem dX13_sum_26 : decode cX13_sum 26 = .ok (.iload_n 3, 1) := by decide +kernel
theorem dX13_sum_27 : decode cX13_sum 27 = .ok (.iadd, 1) := by decide +kernel
theorem dX13_sum_28 : decode cX13_sum 28 = .ok (.laload, 1) := by decide +kernel
theorem dX13_sum_29 : decode cX13_sum 29 = .ok (.ladd, 1) := by decide +kernel
theorem dX13_sum_30 : decode cX13_sum 30 = .ok (.lstore_n 1, 1) := by decide +kernel
theorem dX13_sum_31 : decode cX13_sum 31 = .ok (.iinc 3 1, 3) := by decide +kernel
theorem dX13_sum_34 : decode cX13_sum 34 = .ok (.goto (-26), 3) := by decide +kernel
theorem dX13_sum_37 : decode cX13_sum 37 = .ok (.iconst 0, 1) := by decide +kernel
theorem dX13_sum_38 : decode cX13_sum 38 = .ok (.istore_n 3, 1) := by decide +kernel
theorem dX13_sum_39 : decode cX13_sum 39 = .ok (.aload_n 0, 1) := by decide +kernel
theorem dX13_sum_40 : decode cX13_sum 40 = .ok (.getfield 348, 3) := by decide +kernel
theorem dX13_sum_43 : decode cX13_sum 43 = .ok (.ifCond .eq 32, 3) := by decide +kernel
theorem dX13_sum_46 : decode cX13_sum 46 = .ok (.iload_n 3, 1) := by decide +kernel
theorem dX13_sum_47 : decode cX13_sum 47 = .ok (.bipush 72, 2) := by decide +kernel
theorem dX13_sum_49 : decode cX13_sum 49 = .ok (.if_icmp .ge 26, 3) := by decide +kernel
theorem dX13_sum_52 : decode cX13_sum 52 = .ok (.ldc2_w 355, 3) := by decide +kernel
theorem dX13_sum_55 : decode cX13_sum 55 = .ok (.lload_n 1, 1) := by decide +kernel
theorem dX13_sum_56 : decode cX13_sum 56 = .ok (.lmul, 1) := by decide +kernel
theorem dX13_sum_57 : decode cX13_sum 57 = .ok (.aload_n 0, 1) := by decide +kernel
theorem dX13_sum_58 : decode cX13_sum 58 = .ok (.getfield 16, 3) := by decide +kernel
theorem dX13_sum_61 : decode cX13_sum 61 = .ok (.sipush 648, 3) := by decide +kernel
theorem dX13_sum_64 : decode cX13_sum 64 = .ok (.iload_n 3, 1) := by decide +kernel
theorem dX13_sum_65 : decode cX13_sum 65 = .ok (.iadd, 1) := by decide +kernel
theorem dX13_sum_66 : decode cX13_sum 66 = .ok (.laload, 1) := by decide +kernel
theorem dX13_sum_67 : decode cX13_sum 67 = .ok (.ladd, 1) := by decide +kernel
theorem dX13_sum_68 : decode cX13_sum 68 = .ok (.lstore_n 1, 1) := by decide +kernel
theorem dX13_sum_69 : decode cX13_sum 69 = .ok (.iinc 3 1, 3) := by decide +kernel
theorem dX13_sum_72 : decode cX13_sum 72 = .ok (.goto (-33), 3) := by decide +kernel
theorem dX13_sum_75 : decode cX13_sum 75 = .ok (.lload_n 1, 1) := by decide +kernel
theorem dX13_sum_76 : decode cX13_sum 76 = .ok (.lload_n 1, 1) := by decide +kernel
theorem dX13_sum_77 : decode cX13_sum 77 = .ok (.bipush 21, 2) := by decide +kernel
theorem dX13_sum_79 : decode cX13_sum 79 = .ok (.lushr, 1) := by decide +kernel
theorem dX13_sum_80 : decode cX13_sum 80 = .ok (.lxor, 1) := by decide +kernel
theorem dX13_sum_81 : decode cX13_sum 81 = .ok (.lload_n 1, 1) := by decide +kernel
theorem dX13_sum_82 : decode cX13_sum 82 = .ok (.bipush 43, 2) := by decide +kernel
theorem dX13_sum_84 : decode cX13_sum 84 = .ok (.lushr, 1) := by decide +kernel
theorem dX13_sum_85 : decode cX13_sum 85 = .ok (.lxor, 1) := by decide +kernel
theorem dX13_sum_86 : decode cX13_sum 86 = .ok (.ldc2_w 357, 3) := by decide +kernel
theorem dX13_sum_89 : decode cX13_sum 89 = .ok (.land, 1) := by decide +kernel
theorem dX13_sum_90 : decode cX13_sum 90 = .ok (.l2i, 1) := by decide +kernel
theorem dX13_sum_91 : decode cX13_sum 91 = .ok (.ireturn, 1) := by decide +kernel
theorem dX13_isState_0 : decode cX13_isState 0 = .ok (.aload_n 0, 1) := by decide +kernel
theorem dX13_isState_1 : decode cX13_isState 1 = .ok (.getfield 60, 3) := by decide +kernel
theorem dX13_isState_4 : decode cX13_isState 4 = .ok (.iload_n 1, 1) := by decide +kernel
theorem dX13_isState_5 : decode cX13_isState 5 = .ok (.iaload, 1) := by decide +kernel
theorem dX13_isState_6 : decode cX13_isState 6 = .ok (.aload_n 0, 1) := by decide +kernel
theorem dX13_isState_7 : decode cX13_isState 7 = .ok (.invokevirtual 352, 3) := by decide +kernel
theorem dX13_isState_10 : decode cX13_isState 10 = .ok (.if_icmp .eq 5, 3) := by decide +kernel
theorem dX13_isState_13 : decode cX13_isState 13 = .ok (.iconst 0, 1) := by decide +kernel
theorem dX13_isState_14 : decode cX13_isState 14 = .ok (.ireturn, 1) := by decide +kernel
theorem dX13_isState_15 : decode cX13_isState 15 = .ok (.iconst 0, 1) := by decide +kernel
theorem dX13_isState_16 : decode cX13_isState 16 = .ok (.istore_n 2, 1) := by decide +kernel
theorem dX13_isState_17 : decode cX13_isState 17 = .ok (.iload_n 2, 1) := by decide +kernel
theorem dX13_isState_18 : decode cX13_isState 18 = .ok (.bipush 72, 2) := by decide +kernel
theorem dX13_isState_20 : decode cX13_isState 20 = .ok (.if_icmp .ge 37, 3) := by decide +kernel
theorem dX13_isState_23 : decode cX13_isState 23 = .ok (.aload_n 0, 1) := by decide +kernel
theorem dX13_isState_24 : decode cX13_isState 24 = .ok (.getfield 57, 3) := by decide +kernel
theorem dX13_isState_27 : decode cX13_isState 27 = .ok (.sipush 144, 3) := by decide +kernel
theorem dX13_isState_30 : decode cX13_isState 30 = .ok (.iload_n 1, 1) := by decide +kernel
theorem dX13_isState_31 : decode cX13_isState 31 = .ok (.imul, 1) := by decide +kernel
theorem dX13_isState_32 : decode cX13_isState 32 = .ok (.iload_n 2, 1) := by decide +kernel
theorem dX13_isState_33 : decode cX13_isState 33 = .ok (.iadd, 1) := by decide +kernel
theorem dX13_isState_34 : decode cX13_isState 34 = .ok (.laload, 1) := by decide +kernel
theorem dX13_isState_35 : decode cX13_isState 35 = .ok (.aload_n 0, 1) := by decide +kernel
theorem dX13_isState_36 : decode cX13_isState 36 = .ok (.getfield 16, 3) := by decide +kernel
theorem dX13_isState_39 : decode cX13_isState 39 = .ok (.sipush 576, 3) := by decide +kernel
theorem dX13_isState_42 : decode cX13_isState 42 = .ok (.iload_n 2, 1) := by decide +kernel
theorem dX13_isState_43 : decode cX13_isState 43 = .ok (.iadd, 1) := by decide +kernel
theorem dX13_isState_44 : decode cX13_isState 44 = .ok (.laload, 1) := by decide +kernel
theorem dX13_isState_45 : decode cX13_isState 45 = .ok (.lcmp, 1) := by decide +kernel
theorem dX13_isState_46 : decode cX13_isState 46 = .ok (.ifCond .eq 5, 3) := by decide +kernel
theorem dX13_isState_49 : decode cX13_isState 49 = .ok (.iconst 0, 1) := by decide +kernel
theorem dX13_isState_50 : decode cX13_isState 50 = .ok (.ireturn, 1) := by decide +kernel
theorem dX13_isState_51 : decode cX13_isState 51 = .ok (.iinc 2 1, 3) := by decide +kernel
theorem dX13_isState_54 : decode cX13_isState 54 = .ok (.goto (-37), 3) := by decide +kernel
theorem dX13_isState_57 : decode cX13_isState 57 = .ok (.iconst 0, 1) := by decide +kernel
theorem dX13_isState_58 : decode cX13_isState 58 = .ok (.istore_n 2, 1) := by decide +kernel
theorem dX13_isState_59 : decode cX13_isState 59 = .ok (.aload_n 0, 1) := by decide +kernel
theorem dX13_isState_60 : decode cX13_isState 60 = .ok (.getfield 348, 3) := by decide +kernel
theorem dX13_isState_63 : decode cX13_isState 63 = .ok (.ifCond .eq 46, 3) := by decide +kernel
theorem dX13_isState_66 : decode cX13_isState 66 = .ok (.iload_n 2, 1) := by decide +kernel
theorem dX13_isState_67 : decode cX13_isState 67 = .ok (.bipush 72, 2) := by decide +kernel
theorem dX13_isState_69 : decode cX13_isState 69 = .ok (.if_icmp .ge 40, 3) := by decide +kernel
theorem dX13_isState_72 : decode cX13_isState 72 = .ok (.aload_n 0, 1) := by decide +kernel
theorem dX13_isState_73 : decode cX13_isState 73 = .ok (.getfield 57, 3) := by decide +kernel
theorem dX13_isState_76 : decode cX13_isState 76 = .ok (.sipush 144, 3) := by decide +kernel
theorem dX13_isState_79 : decode cX13_isState 79 = .ok (.iload_n 1, 1) := by decide +kernel
theorem dX13_isState_80 : decode cX13_isState 80 = .ok (.imul, 1) := by decide +kernel
theorem dX13_isState_81 : decode cX13_isState 81 = .ok (.bipush 72, 2) := by decide +kernel
theorem dX13_isState_83 : decode cX13_isState 83 = .ok (.iadd, 1) := by decide +kernel
theorem dX13_isState_84 : decode cX13_isState 84 = .ok (.iload_n 2, 1) := by decide +kernel
theorem dX13_isState_85 : decode cX13_isState 85 = .ok (.iadd, 1) := by decide +kernel
theorem dX13_isState_86 : decode cX13_isState 86 = .ok (.laload, 1) := by decide +kernel
theorem dX13_isState_87 : decode cX13_isState 87 = .ok (.aload_n 0, 1) := by decide +kernel
theorem dX13_isState_88 : decode cX13_isState 88 = .ok (.getfield 16, 3) := by decide +kernel
theorem dX13_isState_91 : decode cX13_isState 91 = .ok (.sipush 648, 3) := by decide +kernel
theorem dX13_isState_94 : decode cX13_isState 94 = .ok (.iload_n 2, 1) := by decide +kernel
theorem dX13_isState_95 : decode cX13_isState 95 = .ok (.iadd, 1) := by decide +kernel
theorem dX13_isState_96 : decode cX13_isState 96 = .ok (.laload, 1) := by decide +kernel
theorem dX13_isState_97 : decode cX13_isState 97 = .ok (.lcmp, 1) := by decide +kernel
theorem dX13_isState_98 : decode cX13_isState 98 = .ok (.ifCond .eq 5, 3) := by decide +kernel
theorem dX13_isState_101 : decode cX13_isState 101 = .ok (.iconst 0, 1) := by decide +kernel
theorem dX13_isState_102 : decode cX13_isState 102 = .ok (.ireturn, 1) := by decide +kernel
theorem dX13_isState_103 : decode cX13_isState 103 = .ok (.iinc 2 1, 3) := by decide +kernel
theorem dX13_isState_106 : decode cX13_isState 106 = .ok (.goto (-47), 3) := by decide +kernel
theorem dX13_isState_109 : decode cX13_isState 109 = .ok (.iconst 1, 1) := by decide +kernel
theorem dX13_isState_110 : decode cX13_isState 110 = .ok (.ireturn, 1) := by decide +kernel
theorem dX13_keepState_0 : decode cX13_keepState 0 = .ok (.aload_n 0, 1) := by decide +kernel
theorem dX13_keepState_1 : decode cX13_keepState 1 = .ok (.invokevirtual 342, 3) := by decide +kernel
theorem dX13_keepState_4 : decode cX13_keepState 4 = .ok (.istore_n 1, 1) := by decide +kernel
theorem dX13_keepState_5 : decode cX13_keepState 5 = .ok (.aload_n 0, 1) := by decide +kernel
theorem dX13_keepState_6 : decode cX13_keepState 6 = .ok (.getfield 60, 3) := by decide +kernel
theorem dX13_keepState_9 : decode cX13_keepState 9 = .ok (.aload_n 0, 1) := by decide +kernel
theorem dX13_keepState_10 : decode cX13_keepState 10 = .ok (.getfield 359, 3) := by decide +kernel
theorem dX13_keepState_13 : decode cX13_keepState 13 = .ok (.aload_n 0, 1) := by decide +kernel
theorem dX13_keepState_14 : decode cX13_keepState 14 = .ok (.invokevirtual 352, 3) := by decide +kernel
theorem dX13_keepState_17 : decode cX13_keepState 17 = .ok (.iastore, 1) := by decide +kernel
theorem dX13_keepState_18 : decode cX13_keepState 18 = .ok (.iconst 0, 1) := by decide +kernel
theorem dX13_keepState_19 : decode cX13_keepState 19 = .ok (.istore_n 2, 1) := by decide +kernel
theorem dX13_keepState_20 : decode cX13_keepState 20 = .ok (.iload_n 2, 1) := by decide +kernel
theorem dX13_keepState_21 : decode cX13_keepState 21 = .ok (.bipush 72, 2) := by decide +kernel
theorem dX13_keepState_23 : decode cX13_keepState 23 = .ok (.if_icmp .ge 62, 3) := by decide +kernel
theorem dX13_keepState_26 : decode cX13_keepState 26 = .ok (.aload_n 0, 1) := by decide +kernel
theorem dX13_keepState_27 : decode cX13_keepState 27 = .ok (.getfield 57, 3) := by decide +kernel
theorem dX13_keepState_30 : decode cX13_keepState 30 = .ok (.sipush 144, 3) := by decide +kernel
theorem dX13_keepState_33 : decode cX13_keepState 33 = .ok (.aload_n 0, 1) := by decide +kernel
theorem dX13_keepState_34 : decode cX13_keepState 34 = .ok (.getfield 359, 3) := by decide +kernel
theorem dX13_keepState_37 : decode cX13_keepState 37 = .ok (.imul, 1) := by decide +kernel
theorem dX13_keepState_38 : decode cX13_keepState 38 = .ok (.iload_n 2, 1) := by decide +kernel
theorem dX13_keepState_39 : decode cX13_keepState 39 = .ok (.iadd, 1) := by decide +kernel
theorem dX13_keepState_40 : decode cX13_keepState 40 = .ok (.aload_n 0, 1) := by decide +kernel
theorem dX13_keepState_41 : decode cX13_keepState 41 = .ok (.getfield 16, 3) := by decide +kernel
theorem dX13_keepState_44 : decode cX13_keepState 44 = .ok (.sipush 576, 3) := by decide +kernel
theorem dX13_keepState_47 : decode cX13_keepState 47 = .ok (.iload_n 2, 1) := by decide +kernel
theorem dX13_keepState_48 : decode cX13_keepState 48 = .ok (.iadd, 1) := by decide +kernel
theorem dX13_keepState_49 : decode cX13_keepState 49 = .ok (.laload, 1) := by decide +kernel
theorem dX13_keepState_50 : decode cX13_keepState 50 = .ok (.lastore, 1) := by decide +kernel
theorem dX13_keepState_51 : decode cX13_keepState 51 = .ok (.aload_n 0, 1) := by decide +kernel
theorem dX13_keepState_52 : decode cX13_keepState 52 = .ok (.getfield 57, 3) := by decide +kernel
theorem dX13_keepState_55 : decode cX13_keepState 55 = .ok (.sipush 144, 3) := by decide +kernel
theorem dX13_keepState_58 : decode cX13_keepState 58 = .ok (.aload_n 0, 1) := by decide +kernel
theorem dX13_keepState_59 : decode cX13_keepState 59 = .ok (.getfield 359, 3) := by decide +kernel
theorem dX13_keepState_62 : decode cX13_keepState 62 = .ok (.imul, 1) := by decide +kernel
theorem dX13_keepState_63 : decode cX13_keepState 63 = .ok (.bipush 72, 2) := by decide +kernel
theorem dX13_keepState_65 : decode cX13_keepState 65 = .ok (.iadd, 1) := by decide +kernel
theorem dX13_keepState_66 : decode cX13_keepState 66 = .ok (.iload_n 2, 1) := by decide +kernel
theorem dX13_keepState_67 : decode cX13_keepState 67 = .ok (.iadd, 1) := by decide +kernel
theorem dX13_keepState_68 : decode cX13_keepState 68 = .ok (.aload_n 0, 1) := by decide +kernel
theorem dX13_keepState_69 : decode cX13_keepState 69 = .ok (.getfield 16, 3) := by decide +kernel
theorem dX13_keepState_72 : decode cX13_keepState 72 = .ok (.sipush 648, 3) := by decide +kernel
theorem dX13_keepState_75 : decode cX13_keepState 75 = .ok (.iload_n 2, 1) := by decide +kernel
theorem dX13_keepState_76 : decode cX13_keepState 76 = .ok (.iadd, 1) := by decide +kernel
theorem dX13_keepState_77 : decode cX13_keepState 77 = .ok (.laload, 1) := by decide +kernel
theorem dX13_keepState_78 : decode cX13_keepState 78 = .ok (.lastore, 1) := by decide +kernel
theorem dX13_keepState_79 : decode cX13_keepState 79 = .ok (.iinc 2 1, 3) := by decide +kernel
theorem dX13_keepState_82 : decode cX13_keepState 82 = .ok (.goto (-62), 3) := by decide +kernel
theorem dX13_keepState_85 : decode cX13_keepState 85 = .ok (.aload_n 0, 1) := by decide +kernel
theorem dX13_keepState_86 : decode cX13_keepState 86 = .ok (.getfield 63, 3) := by decide +kernel
theorem dX13_keepState_89 : decode cX13_keepState 89 = .ok (.aload_n 0, 1) := by decide +kernel
theorem dX13_keepState_90 : decode cX13_keepState 90 = .ok (.getfield 359, 3) := by decide +kernel
theorem dX13_keepState_93 : decode cX13_keepState 93 = .ok (.aload_n 0, 1) := by decide +kernel
theorem dX13_keepState_94 : decode cX13_keepState 94 = .ok (.getfield 66, 3) := by decide +kernel
theorem dX13_keepState_97 : decode cX13_keepState 97 = .ok (.iload_n 1, 1) := by decide +kernel
theorem dX13_keepState_98 : decode cX13_keepState 98 = .ok (.iaload, 1) := by decide +kernel
theorem dX13_keepState_99 : decode cX13_keepState 99 = .ok (.iastore, 1) := by decide +kernel
theorem dX13_keepState_100 : decode cX13_keepState 100 = .ok (.aload_n 0, 1) := by decide +kernel
theorem dX13_keepState_101 : decode cX13_keepState 101 = .ok (.getfield 66, 3) := by decide +kernel
theorem dX13_keepState_104 : decode cX13_keepState 104 = .ok (.iload_n 1, 1) := by decide +kernel
theorem dX13_keepState_105 : decode cX13_keepState 105 = .ok (.aload_n 0, 1) := by decide +kernel
theorem dX13_keepState_106 : decode cX13_keepState 106 = .ok (.getfield 359, 3) := by decide +kernel
theorem dX13_keepState_109 : decode cX13_keepState 109 = .ok (.iastore, 1) := by decide +kernel
theorem dX13_keepState_110 : decode cX13_keepState 110 = .ok (.aload_n 0, 1) := by decide +kernel
theorem dX13_keepState_111 : decode cX13_keepState 111 = .ok (.dup, 1) := by decide +kernel
theorem dX13_keepState_112 : decode cX13_keepState 112 = .ok (.getfield 359, 3) := by decide +kernel
theorem dX13_keepState_115 : decode cX13_keepState 115 = .ok (.iconst 1, 1) := by decide +kernel
theorem dX13_keepState_116 : decode cX13_keepState 116 = .ok (.iadd, 1) := by decide +kernel
theorem dX13_keepState_117 : decode cX13_keepState 117 = .ok (.putfield 359, 3) := by decide +kernel
theorem dX13_keepState_120 : decode cX13_keepState 120 = .ok (.return_, 1) := by decide +kernel
theorem dX13_takeState_0 : decode cX13_takeState 0 = .ok (.aload_n 0, 1) := by decide +kernel
theorem dX13_takeState_1 : decode cX13_takeState 1 = .ok (.getfield 60, 3) := by decide +kernel
theorem dX13_takeState_4 : decode cX13_takeState 4 = .ok (.iload_n 1, 1) := by decide +kernel
theorem dX13_takeState_5 : decode cX13_takeState 5 = .ok (.iaload, 1) := by decide +kernel
theorem dX13_takeState_6 : decode cX13_takeState 6 = .ok (.istore_n 2, 1) := by decide +kernel
theorem dX13_takeState_7 : decode cX13_takeState 7 = .ok (.aload_n 0, 1) := by decide +kernel
theorem dX13_takeState_8 : decode cX13_takeState 8 = .ok (.getfield 9, 3) := by decide +kernel
theorem dX13_takeState_11 : decode cX13_takeState 11 = .ok (.bipush 8, 2) := by decide +kernel
theorem dX13_takeState_13 : decode cX13_takeState 13 = .ok (.iload_n 2, 1) := by decide +kernel
theorem dX13_takeState_14 : decode cX13_takeState 14 = .ok (.sipush 1024, 3) := by decide +kernel
theorem dX13_takeState_17 : decode cX13_takeState 17 = .ok (.idiv, 1) := by decide +kernel
theorem dX13_takeState_18 : decode cX13_takeState 18 = .ok (.iastore, 1) := by decide +kernel
theorem dX13_takeState_19 : decode cX13_takeState 19 = .ok (.aload_n 0, 1) := by decide +kernel
theorem dX13_takeState_20 : decode cX13_takeState 20 = .ok (.getfield 13, 3) := by decide +kernel
theorem dX13_takeState_23 : decode cX13_takeState 23 = .ok (.bipush 8, 2) := by decide +kernel
theorem dX13_takeState_25 : decode cX13_takeState 25 = .ok (.iload_n 2, 1) := by decide +kernel
theorem dX13_takeState_26 : decode cX13_takeState 26 = .ok (.sipush 128, 3) := by decide +kernel
theorem dX13_takeState_29 : decode cX13_takeState 29 = .ok (.idiv, 1) := by decide +kernel
theorem dX13_takeState_30 : decode cX13_takeState 30 = .ok (.bipush 8, 2) := by decide +kernel
theorem dX13_takeState_32 : decode cX13_takeState 32 = .ok (.irem, 1) := by decide +kernel
theorem dX13_takeState_33 : decode cX13_takeState 33 = .ok (.iastore, 1) := by decide +kernel
theorem dX13_takeState_34 : decode cX13_takeState 34 = .ok (.aload_n 0, 1) := by decide +kernel
theorem dX13_takeState_35 : decode cX13_takeState 35 = .ok (.getfield 9, 3) := by decide +kernel
theorem dX13_takeState_38 : decode cX13_takeState 38 = .ok (.bipush 9, 2) := by decide +kernel
theorem dX13_takeState_40 : decode cX13_takeState 40 = .ok (.iload_n 2, 1) := by decide +kernel
theorem dX13_takeState_41 : decode cX13_takeState 41 = .ok (.sipush 128, 3) := by decide +kernel
theorem dX13_takeState_44 : decode cX13_takeState 44 = .ok (.irem, 1) := by decide +kernel
theorem dX13_takeState_45 : decode cX13_takeState 45 = .ok (.bipush 8, 2) := by decide +kernel
theorem dX13_takeState_47 : decode cX13_takeState 47 = .ok (.idiv, 1) := by decide +kernel
theorem dX13_takeState_48 : decode cX13_takeState 48 = .ok (.iastore, 1) := by decide +kernel
theorem dX13_takeState_49 : decode cX13_takeState 49 = .ok (.aload_n 0, 1) := by decide +kernel
theorem dX13_takeState_50 : decode cX13_takeState 50 = .ok (.getfield 13, 3) := by decide +kernel
theorem dX13_takeState_53 : decode cX13_takeState 53 = .ok (.bipush 9, 2) := by decide +kernel
theorem dX13_takeState_55 : decode cX13_takeState 55 = .ok (.iload_n 2, 1) := by decide +kernel
theorem dX13_takeState_56 : decode cX13_takeState 56 = .ok (.bipush 8, 2) := by decide +kernel
theorem dX13_takeState_58 : decode cX13_takeState 58 = .ok (.irem, 1) := by decide +kernel
theorem dX13_takeState_59 : decode cX13_takeState 59 = .ok (.iastore, 1) := by decide +kernel
theorem dX13_takeState_60 : decode cX13_takeState 60 = .ok (.iconst 0, 1) := by decide +kernel
theorem dX13_takeState_61 : decode cX13_takeState 61 = .ok (.istore_n 3, 1) := by decide +kernel
theorem dX13_takeState_62 : decode cX13_takeState 62 = .ok (.iload_n 3, 1) := by decide +kernel
theorem dX13_takeState_63 : decode cX13_takeState 63 = .ok (.bipush 72, 2) := by decide +kernel
theorem dX13_takeState_65 : decode cX13_takeState 65 = .ok (.if_icmp .ge 56, 3) := by decide +kernel
theorem dX13_takeState_68 : decode cX13_takeState 68 = .ok (.aload_n 0, 1) := by decide +kernel
theorem dX13_takeState_69 : decode cX13_takeState 69 = .ok (.getfield 16, 3) := by decide +kernel
theorem dX13_takeState_72 : decode cX13_takeState 72 = .ok (.sipush 576, 3) := by decide +kernel
theorem dX13_takeState_75 : decode cX13_takeState 75 = .ok (.iload_n 3, 1) := by decide +kernel
theorem dX13_takeState_76 : decode cX13_takeState 76 = .ok (.iadd, 1) := by decide +kernel
theorem dX13_takeState_77 : decode cX13_takeState 77 = .ok (.aload_n 0, 1) := by decide +kernel
theorem dX13_takeState_78 : decode cX13_takeState 78 = .ok (.getfield 57, 3) := by decide +kernel
theorem dX13_takeState_81 : decode cX13_takeState 81 = .ok (.sipush 144, 3) := by decide +kernel
theorem dX13_takeState_84 : decode cX13_takeState 84 = .ok (.iload_n 1, 1) := by decide +kernel
theorem dX13_takeState_85 : decode cX13_takeState 85 = .ok (.imul, 1) := by decide +kernel
theorem dX13_takeState_86 : decode cX13_takeState 86 = .ok (.iload_n 3, 1) := by decide +kernel
theorem dX13_takeState_87 : decode cX13_takeState 87 = .ok (.iadd, 1) := by decide +kernel
theorem dX13_takeState_88 : decode cX13_takeState 88 = .ok (.laload, 1) := by decide +kernel
theorem dX13_takeState_89 : decode cX13_takeState 89 = .ok (.lastore, 1) := by decide +kernel
theorem dX13_takeState_90 : decode cX13_takeState 90 = .ok (.aload_n 0, 1) := by decide +kernel
theorem dX13_takeState_91 : decode cX13_takeState 91 = .ok (.getfield 16, 3) := by decide +kernel
theorem dX13_takeState_94 : decode cX13_takeState 94 = .ok (.sipush 648, 3) := by decide +kernel
theorem dX13_takeState_97 : decode cX13_takeState 97 = .ok (.iload_n 3, 1) := by decide +kernel
theorem dX13_takeState_98 : decode cX13_takeState 98 = .ok (.iadd, 1) := by decide +kernel
theorem dX13_takeState_99 : decode cX13_takeState 99 = .ok (.aload_n 0, 1) := by decide +kernel
theorem dX13_takeState_100 : decode cX13_takeState 100 = .ok (.getfield 57, 3) := by decide +kernel
theorem dX13_takeState_103 : decode cX13_takeState 103 = .ok (.sipush 144, 3) := by decide +kernel
theorem dX13_takeState_106 : decode cX13_takeState 106 = .ok (.iload_n 1, 1) := by decide +kernel
theorem dX13_takeState_107 : decode cX13_takeState 107 = .ok (.imul, 1) := by decide +kernel
theorem dX13_takeState_108 : decode cX13_takeState 108 = .ok (.bipush 72, 2) := by decide +kernel
theorem dX13_takeState_110 : decode cX13_takeState 110 = .ok (.iadd, 1) := by decide +kernel
theorem dX13_takeState_111 : decode cX13_takeState 111 = .ok (.iload_n 3, 1) := by decide +kernel
theorem dX13_takeState_112 : decode cX13_takeState 112 = .ok (.iadd, 1) := by decide +kernel
theorem dX13_takeState_113 : decode cX13_takeState 113 = .ok (.laload, 1) := by decide +kernel
theorem dX13_takeState_114 : decode cX13_takeState 114 = .ok (.lastore, 1) := by decide +kernel
theorem dX13_takeState_115 : decode cX13_takeState 115 = .ok (.iinc 3 1, 3) := by decide +kernel
theorem dX13_takeState_118 : decode cX13_takeState 118 = .ok (.goto (-56), 3) := by decide +kernel
theorem dX13_takeState_121 : decode cX13_takeState 121 = .ok (.return_, 1) := by decide +kernel
theorem dX13_goes_0 : decode cX13_goes 0 = .ok (.iload_n 2, 1) := by decide +kernel
theorem dX13_goes_1 : decode cX13_goes 1 = .ok (.iconst 1, 1) := by decide +kernel
theorem dX13_goes_2 : decode cX13_goes 2 = .ok (.if_icmp .eq 21, 3) := by decide +kernel
theorem dX13_goes_5 : decode cX13_goes 5 = .ok (.iload_n 2, 1) := by decide +kernel
theorem dX13_goes_6 : decode cX13_goes 6 = .ok (.bipush 7, 2) := by decide +kernel
theorem dX13_goes_8 : decode cX13_goes 8 = .ok (.if_icmp .eq 15, 3) := by decide +kernel
theorem dX13_goes_11 : decode cX13_goes 11 = .ok (.iload_n 2, 1) := by decide +kernel
theorem dX13_goes_12 : decode cX13_goes 12 = .ok (.bipush 9, 2) := by decide +kernel
theorem dX13_goes_14 : decode cX13_goes 14 = .ok (.if_icmp .eq 9, 3) := by decide +kernel
theorem dX13_goes_17 : decode cX13_goes 17 = .ok (.iload_n 2, 1) := by decide +kernel
theorem dX13_goes_18 : decode cX13_goes 18 = .ok (.bipush 13, 2) := by decide +kernel
theorem dX13_goes_20 : decode cX13_goes 20 = .ok (.if_icmp .ne 7, 3) := by decide +kernel
theorem dX13_goes_23 : decode cX13_goes 23 = .ok (.iconst 1, 1) := by decide +kernel
theorem dX13_goes_24 : decode cX13_goes 24 = .ok (.goto 4, 3) := by decide +kernel
theorem dX13_goes_27 : decode cX13_goes 27 = .ok (.iconst 0, 1) := by decide +kernel
theorem dX13_goes_28 : decode cX13_goes 28 = .ok (.istore 5, 2) := by decide +kernel
theorem dX13_goes_30 : decode cX13_goes 30 = .ok (.iload_n 2, 1) := by decide +kernel
theorem dX13_goes_31 : decode cX13_goes 31 = .ok (.iconst 3, 1) := by decide +kernel
theorem dX13_goes_32 : decode cX13_goes 32 = .ok (.if_icmp .eq 14, 3) := by decide +kernel
theorem dX13_goes_35 : decode cX13_goes 35 = .ok (.iload_n 2, 1) := by decide +kernel
theorem dX13_goes_36 : decode cX13_goes 36 = .ok (.iconst 5, 1) := by decide +kernel
theorem dX13_goes_37 : decode cX13_goes 37 = .ok (.if_icmp .eq 9, 3) := by decide +kernel
theorem dX13_goes_40 : decode cX13_goes 40 = .ok (.iload_n 2, 1) := by decide +kernel
theorem dX13_goes_41 : decode cX13_goes 41 = .ok (.bipush 11, 2) := by decide +kernel
theorem dX13_goes_43 : decode cX13_goes 43 = .ok (.if_icmp .ne 7, 3) := by decide +kernel
theorem dX13_goes_46 : decode cX13_goes 46 = .ok (.iconst 1, 1) := by decide +kernel
theorem dX13_goes_47 : decode cX13_goes 47 = .ok (.goto 4, 3) := by decide +kernel
theorem dX13_goes_50 : decode cX13_goes 50 = .ok (.iconst 0, 1) := by decide +kernel
theorem dX13_goes_51 : decode cX13_goes 51 = .ok (.istore 6, 2) := by decide +kernel
theorem dX13_goes_53 : decode cX13_goes 53 = .ok (.iload 5, 2) := by decide +kernel
theorem dX13_goes_55 : decode cX13_goes 55 = .ok (.ifCond .eq 7, 3) := by decide +kernel
theorem dX13_goes_58 : decode cX13_goes 58 = .ok (.iload_n 3, 1) := by decide +kernel
theorem dX13_goes_59 : decode cX13_goes 59 = .ok (.ifCond .gt 30, 3) := by decide +kernel
theorem dX13_goes_62 : decode cX13_goes 62 = .ok (.iload 6, 2) := by decide +kernel
theorem dX13_goes_64 : decode cX13_goes 64 = .ok (.ifCond .ne 8, 3) := by decide +kernel
theorem dX13_goes_67 : decode cX13_goes 67 = .ok (.iload 4, 2) := by decide +kernel
theorem dX13_goes_69 : decode cX13_goes 69 = .ok (.ifCond .gt 20, 3) := by decide +kernel
theorem dX13_goes_72 : decode cX13_goes 72 = .ok (.iload_n 3, 1) := by decide +kernel
theorem dX13_goes_73 : decode cX13_goes 73 = .ok (.aload_n 0, 1) := by decide +kernel
theorem dX13_goes_74 : decode cX13_goes 74 = .ok (.getfield 60, 3) := by decide +kernel
theorem dX13_goes_77 : decode cX13_goes 77 = .ok (.iload_n 1, 1) := by decide +kernel
theorem dX13_goes_78 : decode cX13_goes 78 = .ok (.iaload, 1) := by decide +kernel
theorem dX13_goes_79 : decode cX13_goes 79 = .ok (.sipush 128, 3) := by decide +kernel
theorem dX13_goes_82 : decode cX13_goes 82 = .ok (.idiv, 1) := by decide +kernel
theorem dX13_goes_83 : decode cX13_goes 83 = .ok (.bipush 8, 2) := by decide +kernel
theorem dX13_goes_85 : decode cX13_goes 85 = .ok (.irem, 1) := by decide +kernel
theorem dX13_goes_86 : decode cX13_goes 86 = .ok (.if_icmp .lt 5, 3) := by decide +kernel
theorem dX13_goes_89 : decode cX13_goes 89 = .ok (.iconst 0, 1) := by decide +kernel
theorem dX13_goes_90 : decode cX13_goes 90 = .ok (.ireturn, 1) := by decide +kernel
theorem dX13_goes_91 : decode cX13_goes 91 = .ok (.aload_n 0, 1) := by decide +kernel
theorem dX13_goes_92 : decode cX13_goes 92 = .ok (.iload_n 1, 1) := by decide +kernel
theorem dX13_goes_93 : decode cX13_goes 93 = .ok (.invokevirtual 362, 3) := by decide +kernel
theorem dX13_goes_96 : decode cX13_goes 96 = .ok (.aload_n 0, 1) := by decide +kernel
theorem dX13_goes_97 : decode cX13_goes 97 = .ok (.bipush 8, 2) := by decide +kernel
theorem dX13_goes_99 : decode cX13_goes 99 = .ok (.iload_n 2, 1) := by decide +kernel
theorem dX13_goes_100 : decode cX13_goes 100 = .ok (.iload_n 3, 1) := by decide +kernel
theorem dX13_goes_101 : decode cX13_goes 101 = .ok (.iload 4, 2) := by decide +kernel
theorem dX13_goes_103 : decode cX13_goes 103 = .ok (.invokevirtual 229, 3) := by decide +kernel
theorem dX13_goes_106 : decode cX13_goes 106 = .ok (.ifCond .ne 5, 3) := by decide +kernel
theorem dX13_goes_109 : decode cX13_goes 109 = .ok (.iconst 0, 1) := by decide +kernel
theorem dX13_goes_110 : decode cX13_goes 110 = .ok (.ireturn, 1) := by decide +kernel
theorem dX13_goes_111 : decode cX13_goes 111 = .ok (.aload_n 0, 1) := by decide +kernel
theorem dX13_goes_112 : decode cX13_goes 112 = .ok (.bipush 8, 2) := by decide +kernel
theorem dX13_goes_114 : decode cX13_goes 114 = .ok (.bipush 10, 2) := by decide +kernel
theorem dX13_goes_116 : decode cX13_goes 116 = .ok (.invokevirtual 196, 3) := by decide +kernel
theorem dX13_goes_119 : decode cX13_goes 119 = .ok (.aload_n 0, 1) := by decide +kernel
theorem dX13_goes_120 : decode cX13_goes 120 = .ok (.getfield 348, 3) := by decide +kernel
theorem dX13_goes_123 : decode cX13_goes 123 = .ok (.ifCond .ne 5, 3) := by decide +kernel
theorem dX13_goes_126 : decode cX13_goes 126 = .ok (.iconst 1, 1) := by decide +kernel
theorem dX13_goes_127 : decode cX13_goes 127 = .ok (.ireturn, 1) := by decide +kernel
theorem dX13_goes_128 : decode cX13_goes 128 = .ok (.aload_n 0, 1) := by decide +kernel
theorem dX13_goes_129 : decode cX13_goes 129 = .ok (.bipush 9, 2) := by decide +kernel
theorem dX13_goes_131 : decode cX13_goes 131 = .ok (.iload_n 2, 1) := by decide +kernel
theorem dX13_goes_132 : decode cX13_goes 132 = .ok (.iload_n 3, 1) := by decide +kernel
theorem dX13_goes_133 : decode cX13_goes 133 = .ok (.iload 4, 2) := by decide +kernel
theorem dX13_goes_135 : decode cX13_goes 135 = .ok (.invokevirtual 229, 3) := by decide +kernel
theorem dX13_goes_138 : decode cX13_goes 138 = .ok (.ifCond .ne 5, 3) := by decide +kernel
theorem dX13_goes_141 : decode cX13_goes 141 = .ok (.iconst 0, 1) := by decide +kernel
theorem dX13_goes_142 : decode cX13_goes 142 = .ok (.ireturn, 1) := by decide +kernel
theorem dX13_goes_143 : decode cX13_goes 143 = .ok (.aload_n 0, 1) := by decide +kernel
theorem dX13_goes_144 : decode cX13_goes 144 = .ok (.bipush 9, 2) := by decide +kernel
theorem dX13_goes_146 : decode cX13_goes 146 = .ok (.bipush 10, 2) := by decide +kernel
theorem dX13_goes_148 : decode cX13_goes 148 = .ok (.invokevirtual 196, 3) := by decide +kernel
theorem dX13_goes_151 : decode cX13_goes 151 = .ok (.iconst 1, 1) := by decide +kernel
theorem dX13_goes_152 : decode cX13_goes 152 = .ok (.ireturn, 1) := by decide +kernel
theorem dX13_noteEnd_0 : decode cX13_noteEnd 0 = .ok (.aload_n 0, 1) := by decide +kernel
theorem dX13_noteEnd_1 : decode cX13_noteEnd 1 = .ok (.getfield 75, 3) := by decide +kernel
theorem dX13_noteEnd_4 : decode cX13_noteEnd 4 = .ok (.iload_n 1, 1) := by decide +kernel
theorem dX13_noteEnd_5 : decode cX13_noteEnd 5 = .ok (.aload_n 0, 1) := by decide +kernel
theorem dX13_noteEnd_6 : decode cX13_noteEnd 6 = .ok (.bipush 8, 2) := by decide +kernel
theorem dX13_noteEnd_8 : decode cX13_noteEnd 8 = .ok (.aload_n 0, 1) := by decide +kernel
theorem dX13_noteEnd_9 : decode cX13_noteEnd 9 = .ok (.getfield 365, 3) := by decide +kernel
theorem dX13_noteEnd_12 : decode cX13_noteEnd 12 = .ok (.iconst 1, 1) := by decide +kernel
theorem dX13_noteEnd_13 : decode cX13_noteEnd 13 = .ok (.invokevirtual 333, 3) := by decide +kernel
theorem dX13_noteEnd_16 : decode cX13_noteEnd 16 = .ok (.ifCond .eq 28, 3) := by decide +kernel
theorem dX13_noteEnd_19 : decode cX13_noteEnd 19 = .ok (.aload_n 0, 1) := by decide +kernel
theorem dX13_noteEnd_20 : decode cX13_noteEnd 20 = .ok (.getfield 348, 3) := by decide +kernel
theorem dX13_noteEnd_23 : decode cX13_noteEnd 23 = .ok (.ifCond .eq 17, 3) := by decide +kernel
theorem dX13_noteEnd_26 : decode cX13_noteEnd 26 = .ok (.aload_n 0, 1) := by decide +kernel
theorem dX13_noteEnd_27 : decode cX13_noteEnd 27 = .ok (.bipush 9, 2) := by decide +kernel
theorem dX13_noteEnd_29 : decode cX13_noteEnd 29 = .ok (.aload_n 0, 1) := by decide +kernel
theorem dX13_noteEnd_30 : decode cX13_noteEnd 30 = .ok (.getfield 368, 3) := by decide +kernel
theorem dX13_noteEnd_33 : decode cX13_noteEnd 33 = .ok (.iconst 1, 1) := by decide +kernel
theorem dX13_noteEnd_34 : decode cX13_noteEnd 34 = .ok (.invokevirtual 333, 3) := by decide +kernel
theorem dX13_noteEnd_37 : decode cX13_noteEnd 37 = .ok (.ifCond .eq 7, 3) := by decide +kernel
theorem dX13_noteEnd_40 : decode cX13_noteEnd 40 = .ok (.iconst 1, 1) := by decide +kernel
theorem dX13_noteEnd_41 : decode cX13_noteEnd 41 = .ok (.goto 4, 3) := by decide +kernel
theorem dX13_noteEnd_44 : decode cX13_noteEnd 44 = .ok (.iconst 0, 1) := by decide +kernel
theorem dX13_noteEnd_45 : decode cX13_noteEnd 45 = .ok (.bastore, 1) := by decide +kernel
theorem dX13_noteEnd_46 : decode cX13_noteEnd 46 = .ok (.aload_n 0, 1) := by decide +kernel
theorem dX13_noteEnd_47 : decode cX13_noteEnd 47 = .ok (.dup, 1) := by decide +kernel
theorem dX13_noteEnd_48 : decode cX13_noteEnd 48 = .ok (.getfield 371, 3) := by decide +kernel
theorem dX13_noteEnd_51 : decode cX13_noteEnd 51 = .ok (.aload_n 0, 1) := by decide +kernel
theorem dX13_noteEnd_52 : decode cX13_noteEnd 52 = .ok (.getfield 75, 3) := by decide +kernel
theorem dX13_noteEnd_55 : decode cX13_noteEnd 55 = .ok (.iload_n 1, 1) := by decide +kernel
theorem dX13_noteEnd_56 : decode cX13_noteEnd 56 = .ok (.baload, 1) := by decide +kernel
theorem dX13_noteEnd_57 : decode cX13_noteEnd 57 = .ok (.ifCond .eq 7, 3) := by decide +kernel
theorem dX13_noteEnd_60 : decode cX13_noteEnd 60 = .ok (.iconst 1, 1) := by decide +kernel
theorem dX13_noteEnd_61 : decode cX13_noteEnd 61 = .ok (.goto 4, 3) := by decide +kernel
theorem dX13_noteEnd_64 : decode cX13_noteEnd 64 = .ok (.iconst 0, 1) := by decide +kernel
theorem dX13_noteEnd_65 : decode cX13_noteEnd 65 = .ok (.iadd, 1) := by decide +kernel
theorem dX13_noteEnd_66 : decode cX13_noteEnd 66 = .ok (.putfield 371, 3) := by decide +kernel
theorem dX13_noteEnd_69 : decode cX13_noteEnd 69 = .ok (.return_, 1) := by decide +kernel
theorem dX13_find_0 : decode cX13_find 0 = .ok (.iload_n 1, 1) := by decide +kernel
theorem dX13_find_1 : decode cX13_find 1 = .ok (.invokestatic 315, 3) := by decide +kernel
theorem dX13_find_4 : decode cX13_find 4 = .ok (.ifCond .eq 73, 3) := by decide +kernel
theorem dX13_find_7 : decode cX13_find 7 = .ok (.iload_n 2, 1) := by decide +kernel
theorem dX13_find_8 : decode cX13_find 8 = .ok (.invokestatic 315, 3) := by decide +kernel
theorem dX13_find_11 : decode cX13_find 11 = .ok (.ifCond .eq 66, 3) := by decide +kernel
theorem dX13_find_14 : decode cX13_find 14 = .ok (.iload_n 3, 1) := by decide +kernel
theorem dX13_find_15 : decode cX13_find 15 = .ok (.iconst (-1), 1) := by decide +kernel
theorem dX13_find_16 : decode cX13_find 16 = .ok (.if_icmp .eq 10, 3) := by decide +kernel
theorem dX13_find_19 : decode cX13_find 19 = .ok (.iload_n 3, 1) := by decide +kernel
theorem dX13_find_20 : decode cX13_find 20 = .ok (.invokestatic 315, 3) := by decide +kernel
theorem dX13_find_23 : decode cX13_find 23 = .ok (.ifCond .eq 54, 3) := by decide +kernel
theorem dX13_find_26 : decode cX13_find 26 = .ok (.iload 4, 2) := by decide +kernel
theorem dX13_find_28 : decode cX13_find 28 = .ok (.iconst (-1), 1) := by decide +kernel
theorem dX13_find_29 : decode cX13_find 29 = .ok (.if_icmp .eq 11, 3) := by decide +kernel
theorem dX13_find_32 : decode cX13_find 32 = .ok (.iload 4, 2) := by decide +kernel
theorem dX13_find_34 : decode cX13_find 34 = .ok (.invokestatic 315, 3) := by decide +kernel
theorem dX13_find_37 : decode cX13_find 37 = .ok (.ifCond .eq 40, 3) := by decide +kernel
theorem dX13_find_40 : decode cX13_find 40 = .ok (.iload_n 3, 1) := by decide +kernel
theorem dX13_find_41 : decode cX13_find 41 = .ok (.iconst (-1), 1) := by decide +kernel
theorem dX13_find_42 : decode cX13_find 42 = .ok (.if_icmp .ne 7, 3) := by decide +kernel
theorem dX13_find_45 : decode cX13_find 45 = .ok (.iconst 1, 1) := by decide +kernel
theorem dX13_find_46 : decode cX13_find 46 = .ok (.goto 4, 3) := by decide +kernel
theorem dX13_find_49 : decode cX13_find 49 = .ok (.iconst 0, 1) := by decide +kernel
theorem dX13_find_50 : decode cX13_find 50 = .ok (.iload 4, 2) := by decide +kernel
theorem dX13_find_52 : decode cX13_find 52 = .ok (.iconst (-1), 1) := by decide +kernel
theorem dX13_find_53 : decode cX13_find 53 = .ok (.if_icmp .ne 7, 3) := by decide +kernel
theorem dX13_find_56 : decode cX13_find 56 = .ok (.iconst 1, 1) := by decide +kernel
theorem dX13_find_57 : decode cX13_find 57 = .ok (.goto 4, 3) := by decide +kernel
theorem dX13_find_60 : decode cX13_find 60 = .ok (.iconst 0, 1) := by decide +kernel
theorem dX13_find_61 : decode cX13_find 61 = .ok (.if_icmp .ne 16, 3) := by decide +kernel
theorem dX13_find_64 : decode cX13_find 64 = .ok (.iload 5, 2) := by decide +kernel
theorem dX13_find_66 : decode cX13_find 66 = .ok (.i2l, 1) := by decide +kernel
theorem dX13_find_67 : decode cX13_find 67 = .ok (.lconst 0, 1) := by decide +kernel
theorem dX13_find_68 : decode cX13_find 68 = .ok (.ldc2_w 374, 3) := by decide +kernel
theorem dX13_find_71 : decode cX13_find 71 = .ok (.invokestatic 113, 3) := by decide +kernel
theorem dX13_find_74 : decode cX13_find 74 = .ok (.ifCond .ne 6, 3) := by decide +kernel
theorem dX13_find_77 : decode cX13_find 77 = .ok (.bipush (-2), 2) := by decide +kernel
theorem dX13_find_79 : decode cX13_find 79 = .ok (.ireturn, 1) := by decide +kernel
theorem dX13_find_80 : decode cX13_find 80 = .ok (.aload_n 0, 1) := by decide +kernel
theorem dX13_find_81 : decode cX13_find 81 = .ok (.iconst 0, 1) := by decide +kernel
theorem dX13_find_82 : decode cX13_find 82 = .ok (.putfield 359, 3) := by decide +kernel
theorem dX13_find_85 : decode cX13_find 85 = .ok (.aload_n 0, 1) := by decide +kernel
theorem dX13_find_86 : decode cX13_find 86 = .ok (.iconst 0, 1) := by decide +kernel
theorem dX13_find_87 : decode cX13_find 87 = .ok (.putfield 371, 3) := by decide +kernel
theorem dX13_find_90 : decode cX13_find 90 = .ok (.aload_n 0, 1) := by decide +kernel
theorem dX13_find_91 : decode cX13_find 91 = .ok (.iconst 0, 1) := by decide +kernel
theorem dX13_find_92 : decode cX13_find 92 = .ok (.putfield 376, 3) := by decide +kernel
theorem dX13_find_95 : decode cX13_find 95 = .ok (.aload_n 0, 1) := by decide +kernel
theorem dX13_find_96 : decode cX13_find 96 = .ok (.iconst 0, 1) := by decide +kernel
theorem dX13_find_97 : decode cX13_find 97 = .ok (.putfield 379, 3) := by decide +kernel
theorem dX13_find_100 : decode cX13_find 100 = .ok (.aload_n 0, 1) := by decide +kernel
theorem dX13_find_101 : decode cX13_find 101 = .ok (.iload_n 3, 1) := by decide +kernel
theorem dX13_find_102 : decode cX13_find 102 = .ok (.iconst (-1), 1) := by decide +kernel
theorem dX13_find_103 : decode cX13_find 103 = .ok (.if_icmp .eq 7, 3) := by decide +kernel
theorem dX13_find_106 : decode cX13_find 106 = .ok (.iconst 1, 1) := by decide +kernel
theorem dX13_find_107 : decode cX13_find 107 = .ok (.goto 4, 3) := by decide +kernel
theorem dX13_find_110 : decode cX13_find 110 = .ok (.iconst 0, 1) := by decide +kernel
theorem dX13_find_111 : decode cX13_find 111 = .ok (.putfield 348, 3) := by decide +kernel
theorem dX13_find_114 : decode cX13_find 114 = .ok (.aload_n 0, 1) := by decide +kernel
theorem dX13_find_115 : decode cX13_find 115 = .ok (.iload_n 2, 1) := by decide +kernel
theorem dX13_find_116 : decode cX13_find 116 = .ok (.putfield 365, 3) := by decide +kernel
theorem dX13_find_119 : decode cX13_find 119 = .ok (.aload_n 0, 1) := by decide +kernel
theorem dX13_find_120 : decode cX13_find 120 = .ok (.iload 4, 2) := by decide +kernel
theorem dX13_find_122 : decode cX13_find 122 = .ok (.putfield 368, 3) := by decide +kernel
theorem dX13_find_125 : decode cX13_find 125 = .ok (.iconst 0, 1) := by decide +kernel
theorem dX13_find_126 : decode cX13_find 126 = .ok (.istore 6, 2) := by decide +kernel
theorem dX13_find_128 : decode cX13_find 128 = .ok (.iload 6, 2) := by decide +kernel
theorem dX13_find_130 : decode cX13_find 130 = .ok (.aload_n 0, 1) := by decide +kernel
theorem dX13_find_131 : decode cX13_find 131 = .ok (.getfield 66, 3) := by decide +kernel
theorem dX13_find_134 : decode cX13_find 134 = .ok (.arraylength, 1) := by decide +kernel
theorem dX13_find_135 : decode cX13_find 135 = .ok (.if_icmp .ge 17, 3) := by decide +kernel
theorem dX13_find_138 : decode cX13_find 138 = .ok (.aload_n 0, 1) := by decide +kernel
theorem dX13_find_139 : decode cX13_find 139 = .ok (.getfield 66, 3) := by decide +kernel
theorem dX13_find_142 : decode cX13_find 142 = .ok (.iload 6, 2) := by decide +kernel
theorem dX13_find_144 : decode cX13_find 144 = .ok (.iconst (-1), 1) := by decide +kernel
theorem dX13_find_145 : decode cX13_find 145 = .ok (.iastore, 1) := by decide +kernel
theorem dX13_find_146 : decode cX13_find 146 = .ok (.iinc 6 1, 3) := by decide +kernel
theorem dX13_find_149 : decode cX13_find 149 = .ok (.goto (-21), 3) := by decide +kernel
theorem dX13_find_152 : decode cX13_find 152 = .ok (.aload_n 0, 1) := by decide +kernel
theorem dX13_find_153 : decode cX13_find 153 = .ok (.bipush 8, 2) := by decide +kernel
theorem dX13_find_155 : decode cX13_find 155 = .ok (.iload_n 1, 1) := by decide +kernel
theorem dX13_find_156 : decode cX13_find 156 = .ok (.invokevirtual 196, 3) := by decide +kernel
theorem dX13_find_159 : decode cX13_find 159 = .ok (.aload_n 0, 1) := by decide +kernel
theorem dX13_find_160 : decode cX13_find 160 = .ok (.getfield 348, 3) := by decide +kernel
theorem dX13_find_163 : decode cX13_find 163 = .ok (.ifCond .eq 10, 3) := by decide +kernel
theorem dX13_find_166 : decode cX13_find 166 = .ok (.aload_n 0, 1) := by decide +kernel
theorem dX13_find_167 : decode cX13_find 167 = .ok (.bipush 9, 2) := by decide +kernel
theorem dX13_find_169 : decode cX13_find 169 = .ok (.iload_n 3, 1) := by decide +kernel
theorem dX13_find_170 : decode cX13_find 170 = .ok (.invokevirtual 196, 3) := by decide +kernel
theorem dX13_find_173 : decode cX13_find 173 = .ok (.aload_n 0, 1) := by decide +kernel
theorem dX13_find_174 : decode cX13_find 174 = .ok (.bipush 8, 2) := by decide +kernel
theorem dX13_find_176 : decode cX13_find 176 = .ok (.invokevirtual 382, 3) := by decide +kernel
theorem dX13_find_179 : decode cX13_find 179 = .ok (.aload_n 0, 1) := by decide +kernel
theorem dX13_find_180 : decode cX13_find 180 = .ok (.getfield 348, 3) := by decide +kernel
theorem dX13_find_183 : decode cX13_find 183 = .ok (.ifCond .eq 9, 3) := by decide +kernel
theorem dX13_find_186 : decode cX13_find 186 = .ok (.aload_n 0, 1) := by decide +kernel
theorem dX13_find_187 : decode cX13_find 187 = .ok (.bipush 9, 2) := by decide +kernel
theorem dX13_find_189 : decode cX13_find 189 = .ok (.invokevirtual 382, 3) := by decide +kernel
theorem dX13_find_192 : decode cX13_find 192 = .ok (.aload_n 0, 1) := by decide +kernel
theorem dX13_find_193 : decode cX13_find 193 = .ok (.invokevirtual 385, 3) := by decide +kernel
theorem dX13_find_196 : decode cX13_find 196 = .ok (.aload_n 0, 1) := by decide +kernel
theorem dX13_find_197 : decode cX13_find 197 = .ok (.iconst 0, 1) := by decide +kernel
theorem dX13_find_198 : decode cX13_find 198 = .ok (.invokevirtual 388, 3) := by decide +kernel
theorem dX13_find_201 : decode cX13_find 201 = .ok (.aload_n 0, 1) := by decide +kernel
theorem dX13_find_202 : decode cX13_find 202 = .ok (.getfield 72, 3) := by decide +kernel
theorem dX13_find_205 : decode cX13_find 205 = .ok (.iconst 0, 1) := by decide +kernel
theorem dX13_find_206 : decode cX13_find 206 = .ok (.iconst 0, 1) := by decide +kernel
theorem dX13_find_207 : decode cX13_find 207 = .ok (.iastore, 1) := by decide +kernel
theorem dX13_find_208 : decode cX13_find 208 = .ok (.aload_n 0, 1) := by decide +kernel
theorem dX13_find_209 : decode cX13_find 209 = .ok (.getfield 72, 3) := by decide +kernel
theorem dX13_find_212 : decode cX13_find 212 = .ok (.iconst 1, 1) := by decide +kernel
theorem dX13_find_213 : decode cX13_find 213 = .ok (.iconst 1, 1) := by decide +kernel
theorem dX13_find_214 : decode cX13_find 214 = .ok (.iastore, 1) := by decide +kernel
theorem dX13_find_215 : decode cX13_find 215 = .ok (.iconst 0, 1) := by decide +kernel
theorem dX13_find_216 : decode cX13_find 216 = .ok (.istore 6, 2) := by decide +kernel
theorem dX13_find_218 : decode cX13_find 218 = .ok (.aload_n 0, 1) := by decide +kernel
theorem dX13_find_219 : decode cX13_find 219 = .ok (.getfield 371, 3) := by decide +kernel
theorem dX13_find_222 : decode cX13_find 222 = .ok (.ifCond .ne 70, 3) := by decide +kernel
theorem dX13_find_225 : decode cX13_find 225 = .ok (.iload 6, 2) := by decide +kernel
theorem dX13_find_227 : decode cX13_find 227 = .ok (.iload 5, 2) := by decide +kernel
theorem dX13_find_229 : decode cX13_find 229 = .ok (.if_icmp .ge 63, 3) := by decide +kernel
theorem dX13_find_232 : decode cX13_find 232 = .ok (.aload_n 0, 1) := by decide +kernel
theorem dX13_find_233 : decode cX13_find 233 = .ok (.getfield 72, 3) := by decide +kernel
theorem dX13_find_236 : decode cX13_find 236 = .ok (.iload 6, 2) := by decide +kernel
theorem dX13_find_238 : decode cX13_find 238 = .ok (.iaload, 1) := by decide +kernel
theorem dX13_find_239 : decode cX13_find 239 = .ok (.istore 7, 2) := by decide +kernel
theorem dX13_find_241 : decode cX13_find 241 = .ok (.iload 7, 2) := by decide +kernel
theorem dX13_find_243 : decode cX13_find 243 = .ok (.aload_n 0, 1) := by decide +kernel
theorem dX13_find_244 : decode cX13_find 244 = .ok (.getfield 72, 3) := by decide +kernel
theorem dX13_find_247 : decode cX13_find 247 = .ok (.iload 6, 2) := by decide +kernel
theorem dX13_find_249 : decode cX13_find 249 = .ok (.iconst 1, 1) := by decide +kernel
theorem dX13_find_250 : decode cX13_find 250 = .ok (.iadd, 1) := by decide +kernel
theorem dX13_find_251 : decode cX13_find 251 = .ok (.iaload, 1) := by decide +kernel
theorem dX13_find_252 : decode cX13_find 252 = .ok (.if_icmp .ge 21, 3) := by decide +kernel
theorem dX13_find_255 : decode cX13_find 255 = .ok (.aload_n 0, 1) := by decide +kernel
theorem dX13_find_256 : decode cX13_find 256 = .ok (.iload 7, 2) := by decide +kernel
theorem dX13_find_258 : decode cX13_find 258 = .ok (.invokevirtual 391, 3) := by decide +kernel
theorem dX13_find_261 : decode cX13_find 261 = .ok (.ifCond .ne 6, 3) := by decide +kernel
theorem dX13_find_264 : decode cX13_find 264 = .ok (.bipush (-3), 2) := by decide +kernel
theorem dX13_find_266 : decode cX13_find 266 = .ok (.ireturn, 1) := by decide +kernel
theorem dX13_find_267 : decode cX13_find 267 = .ok (.iinc 7 1, 3) := by decide +kernel
theorem dX13_find_270 : decode cX13_find 270 = .ok (.goto (-29), 3) := by decide +kernel
theorem dX13_find_273 : decode cX13_find 273 = .ok (.iinc 6 1, 3) := by decide +kernel
theorem dX13_find_276 : decode cX13_find 276 = .ok (.aload_n 0, 1) := by decide +kernel
theorem dX13_find_277 : decode cX13_find 277 = .ok (.getfield 72, 3) := by decide +kernel
theorem dX13_find_280 : decode cX13_find 280 = .ok (.iload 6, 2) := by decide +kernel
theorem dX13_find_282 : decode cX13_find 282 = .ok (.iconst 1, 1) := by decide +kernel
theorem dX13_find_283 : decode cX13_find 283 = .ok (.iadd, 1) := by decide +kernel
theorem dX13_find_284 : decode cX13_find 284 = .ok (.aload_n 0, 1) := by decide +kernel
theorem dX13_find_285 : decode cX13_find 285 = .ok (.getfield 359, 3) := by decide +kernel
theorem dX13_find_288 : decode cX13_find 288 = .ok (.iastore, 1) := by decide +kernel
theorem dX13_find_289 : decode cX13_find 289 = .ok (.goto (-71), 3) := by decide +kernel
theorem dX13_find_292 : decode cX13_find 292 = .ok (.aload_n 0, 1) := by decide +kernel
theorem dX13_find_293 : decode cX13_find 293 = .ok (.getfield 371, 3) := by decide +kernel
theorem dX13_find_296 : decode cX13_find 296 = .ok (.ifCond .ne 5, 3) := by decide +kernel
theorem dX13_find_299 : decode cX13_find 299 = .ok (.iconst (-1), 1) := by decide +kernel
theorem dX13_find_300 : decode cX13_find 300 = .ok (.ireturn, 1) := by decide +kernel
theorem dX13_find_301 : decode cX13_find 301 = .ok (.aload_n 0, 1) := by decide +kernel
theorem dX13_find_302 : decode cX13_find 302 = .ok (.iload 6, 2) := by decide +kernel
theorem dX13_find_304 : decode cX13_find 304 = .ok (.invokevirtual 394, 3) := by decide +kernel
theorem dX13_find_307 : decode cX13_find 307 = .ok (.aload_n 0, 1) := by decide +kernel
theorem dX13_find_308 : decode cX13_find 308 = .ok (.iconst 0, 1) := by decide +kernel
theorem dX13_find_309 : decode cX13_find 309 = .ok (.iconst 0, 1) := by decide +kernel
theorem dX13_find_310 : decode cX13_find 310 = .ok (.iload 6, 2) := by decide +kernel
theorem dX13_find_312 : decode cX13_find 312 = .ok (.invokevirtual 397, 3) := by decide +kernel
theorem dX13_find_315 : decode cX13_find 315 = .ok (.iload 6, 2) := by decide +kernel
theorem dX13_find_317 : decode cX13_find 317 = .ok (.ireturn, 1) := by decide +kernel
theorem dX13_clean_0 : decode cX13_clean 0 = .ok (.iconst 0, 1) := by decide +kernel
theorem dX13_clean_1 : decode cX13_clean 1 = .ok (.istore_n 2, 1) := by decide +kernel
theorem dX13_clean_2 : decode cX13_clean 2 = .ok (.iload_n 2, 1) := by decide +kernel
theorem dX13_clean_3 : decode cX13_clean 3 = .ok (.bipush 12, 2) := by decide +kernel
theorem dX13_clean_5 : decode cX13_clean 5 = .ok (.if_icmp .ge 55, 3) := by decide +kernel
theorem dX13_clean_8 : decode cX13_clean 8 = .ok (.iconst 0, 1) := by decide +kernel
theorem dX13_clean_9 : decode cX13_clean 9 = .ok (.istore_n 3, 1) := by decide +kernel
theorem dX13_clean_10 : decode cX13_clean 10 = .ok (.iload_n 3, 1) := by decide +kernel
theorem dX13_clean_11 : decode cX13_clean 11 = .ok (.bipush 6, 2) := by decide +kernel
theorem dX13_clean_13 : decode cX13_clean 13 = .ok (.if_icmp .ge 41, 3) := by decide +kernel
theorem dX13_clean_16 : decode cX13_clean 16 = .ok (.iload_n 2, 1) := by decide +kernel
theorem dX13_clean_17 : decode cX13_clean 17 = .ok (.aload_n 0, 1) := by decide +kernel
theorem dX13_clean_18 : decode cX13_clean 18 = .ok (.getfield 9, 3) := by decide +kernel
theorem dX13_clean_21 : decode cX13_clean 21 = .ok (.iload_n 1, 1) := by decide +kernel
theorem dX13_clean_22 : decode cX13_clean 22 = .ok (.iaload, 1) := by decide +kernel
theorem dX13_clean_23 : decode cX13_clean 23 = .ok (.if_icmp .ge 13, 3) := by decide +kernel
theorem dX13_clean_26 : decode cX13_clean 26 = .ok (.iload_n 3, 1) := by decide +kernel
theorem dX13_clean_27 : decode cX13_clean 27 = .ok (.aload_n 0, 1) := by decide +kernel
theorem dX13_clean_28 : decode cX13_clean 28 = .ok (.getfield 13, 3) := by decide +kernel
theorem dX13_clean_31 : decode cX13_clean 31 = .ok (.iload_n 1, 1) := by decide +kernel
theorem dX13_clean_32 : decode cX13_clean 32 = .ok (.iaload, 1) := by decide +kernel
theorem dX13_clean_33 : decode cX13_clean 33 = .ok (.if_icmp .lt 15, 3) := by decide +kernel
theorem dX13_clean_36 : decode cX13_clean 36 = .ok (.aload_n 0, 1) := by decide +kernel
theorem dX13_clean_37 : decode cX13_clean 37 = .ok (.getfield 16, 3) := by decide +kernel
theorem dX13_clean_40 : decode cX13_clean 40 = .ok (.iload_n 1, 1) := by decide +kernel
theorem dX13_clean_41 : decode cX13_clean 41 = .ok (.iload_n 2, 1) := by decide +kernel
theorem dX13_clean_42 : decode cX13_clean 42 = .ok (.iload_n 3, 1) := by decide +kernel
theorem dX13_clean_43 : decode cX13_clean 43 = .ok (.invokestatic 120, 3) := by decide +kernel
theorem dX13_clean_46 : decode cX13_clean 46 = .ok (.lconst 0, 1) := by decide +kernel
theorem dX13_clean_47 : decode cX13_clean 47 = .ok (.lastore, 1) := by decide +kernel
theorem dX13_clean_48 : decode cX13_clean 48 = .ok (.iinc 3 1, 3) := by decide +kernel
theorem dX13_clean_51 : decode cX13_clean 51 = .ok (.goto (-41), 3) := by decide +kernel
theorem dX13_clean_54 : decode cX13_clean 54 = .ok (.iinc 2 1, 3) := by decide +kernel
theorem dX13_clean_57 : decode cX13_clean 57 = .ok (.goto (-55), 3) := by decide +kernel
theorem dX13_clean_60 : decode cX13_clean 60 = .ok (.return_, 1) := by decide +kernel
theorem dX13_spread_0 : decode cX13_spread 0 = .ok (.iconst 1, 1) := by decide +kernel
theorem dX13_spread_1 : decode cX13_spread 1 = .ok (.istore_n 2, 1) := by decide +kernel
theorem dX13_spread_2 : decode cX13_spread 2 = .ok (.iload_n 2, 1) := by decide +kernel
theorem dX13_spread_3 : decode cX13_spread 3 = .ok (.bipush 14, 2) := by decide +kernel
theorem dX13_spread_5 : decode cX13_spread 5 = .ok (.if_icmp .gt 88, 3) := by decide +kernel
theorem dX13_spread_8 : decode cX13_spread 8 = .ok (.iconst 0, 1) := by decide +kernel
theorem dX13_spread_9 : decode cX13_spread 9 = .ok (.istore_n 3, 1) := by decide +kernel
theorem dX13_spread_10 : decode cX13_spread 10 = .ok (.iload_n 3, 1) := by decide +kernel
theorem dX13_spread_11 : decode cX13_spread 11 = .ok (.bipush 6, 2) := by decide +kernel
theorem dX13_spread_13 : decode cX13_spread 13 = .ok (.if_icmp .ge 74, 3) := by decide +kernel
theorem dX13_spread_16 : decode cX13_spread 16 = .ok (.iconst 0, 1) := by decide +kernel
theorem dX13_spread_17 : decode cX13_spread 17 = .ok (.istore 4, 2) := by decide +kernel
theorem dX13_spread_19 : decode cX13_spread 19 = .ok (.iload 4, 2) := by decide +kernel
theorem dX13_spread_21 : decode cX13_spread 21 = .ok (.bipush 6, 2) := by decide +kernel
theorem dX13_spread_23 : decode cX13_spread 23 = .ok (.if_icmp .ge 58, 3) := by decide +kernel
theorem dX13_spread_26 : decode cX13_spread 26 = .ok (.aload_n 0, 1) := by decide +kernel
theorem dX13_spread_27 : decode cX13_spread 27 = .ok (.iload_n 1, 1) := by decide +kernel
theorem dX13_spread_28 : decode cX13_spread 28 = .ok (.iload_n 2, 1) := by decide +kernel
theorem dX13_spread_29 : decode cX13_spread 29 = .ok (.iload_n 3, 1) := by decide +kernel
theorem dX13_spread_30 : decode cX13_spread 30 = .ok (.iload 4, 2) := by decide +kernel
theorem dX13_spread_32 : decode cX13_spread 32 = .ok (.invokevirtual 400, 3) := by decide +kernel
theorem dX13_spread_35 : decode cX13_spread 35 = .ok (.ifCond .eq 40, 3) := by decide +kernel
theorem dX13_spread_38 : decode cX13_spread 38 = .ok (.aload_n 0, 1) := by decide +kernel
theorem dX13_spread_39 : decode cX13_spread 39 = .ok (.invokevirtual 403, 3) := by decide +kernel
theorem dX13_spread_42 : decode cX13_spread 42 = .ok (.iconst (-1), 1) := by decide +kernel
theorem dX13_spread_43 : decode cX13_spread 43 = .ok (.if_icmp .eq 6, 3) := by decide +kernel
theorem dX13_spread_46 : decode cX13_spread 46 = .ok (.goto 29, 3) := by decide +kernel
theorem dX13_spread_49 : decode cX13_spread 49 = .ok (.aload_n 0, 1) := by decide +kernel
theorem dX13_spread_50 : decode cX13_spread 50 = .ok (.getfield 359, 3) := by decide +kernel
theorem dX13_spread_53 : decode cX13_spread 53 = .ok (.sipush 1500, 3) := by decide +kernel
theorem dX13_spread_56 : decode cX13_spread 56 = .ok (.if_icmp .ne 5, 3) := by decide +kernel
theorem dX13_spread_59 : decode cX13_spread 59 = .ok (.iconst 0, 1) := by decide +kernel
theorem dX13_spread_60 : decode cX13_spread 60 = .ok (.ireturn, 1) := by decide +kernel
theorem dX13_spread_61 : decode cX13_spread 61 = .ok (.aload_n 0, 1) := by decide +kernel
theorem dX13_spread_62 : decode cX13_spread 62 = .ok (.invokevirtual 385, 3) := by decide +kernel
theorem dX13_spread_65 : decode cX13_spread 65 = .ok (.aload_n 0, 1) := by decide +kernel
theorem dX13_spread_66 : decode cX13_spread 66 = .ok (.aload_n 0, 1) := by decide +kernel
theorem dX13_spread_67 : decode cX13_spread 67 = .ok (.getfield 359, 3) := by decide +kernel
theorem dX13_spread_70 : decode cX13_spread 70 = .ok (.iconst 1, 1) := by decide +kernel
theorem dX13_spread_71 : decode cX13_spread 71 = .ok (.isub, 1) := by decide +kernel
theorem dX13_spread_72 : decode cX13_spread 72 = .ok (.invokevirtual 388, 3) := by decide +kernel
theorem dX13_spread_75 : decode cX13_spread 75 = .ok (.iinc 4 1, 3) := by decide +kernel
theorem dX13_spread_78 : decode cX13_spread 78 = .ok (.goto (-59), 3) := by decide +kernel
theorem dX13_spread_81 : decode cX13_spread 81 = .ok (.iinc 3 1, 3) := by decide +kernel
theorem dX13_spread_84 : decode cX13_spread 84 = .ok (.goto (-74), 3) := by decide +kernel
theorem dX13_spread_87 : decode cX13_spread 87 = .ok (.iinc 2 1, 3) := by decide +kernel
theorem dX13_spread_90 : decode cX13_spread 90 = .ok (.goto (-88), 3) := by decide +kernel
theorem dX13_spread_93 : decode cX13_spread 93 = .ok (.iconst 1, 1) := by decide +kernel
theorem dX13_spread_94 : decode cX13_spread 94 = .ok (.ireturn, 1) := by decide +kernel
theorem dX13_countWays_0 : decode cX13_countWays 0 = .ok (.aload_n 0, 1) := by decide +kernel
theorem dX13_countWays_1 : decode cX13_countWays 1 = .ok (.getfield 72, 3) := by decide +kernel
theorem dX13_countWays_4 : decode cX13_countWays 4 = .ok (.iload_n 1, 1) := by decide +kernel
theorem dX13_countWays_5 : decode cX13_countWays 5 = .ok (.iaload, 1) := by decide +kernel
theorem dX13_countWays_6 : decode cX13_countWays 6 = .ok (.istore_n 2, 1) := by decide +kernel
theorem dX13_countWays_7 : decode cX13_countWays 7 = .ok (.iload_n 2, 1) := by decide +kernel
theorem dX13_countWays_8 : decode cX13_countWays 8 = .ok (.aload_n 0, 1) := by decide +kernel
theorem dX13_countWays_9 : decode cX13_countWays 9 = .ok (.getfield 359, 3) := by decide +kernel
theorem dX13_countWays_12 : decode cX13_countWays 12 = .ok (.if_icmp .ge 29, 3) := by decide +kernel
theorem dX13_countWays_15 : decode cX13_countWays 15 = .ok (.aload_n 0, 1) := by decide +kernel
theorem dX13_countWays_16 : decode cX13_countWays 16 = .ok (.getfield 69, 3) := by decide +kernel
theorem dX13_countWays_19 : decode cX13_countWays 19 = .ok (.iload_n 2, 1) := by decide +kernel
theorem dX13_countWays_20 : decode cX13_countWays 20 = .ok (.aload_n 0, 1) := by decide +kernel
theorem dX13_countWays_21 : decode cX13_countWays 21 = .ok (.getfield 75, 3) := by decide +kernel
theorem dX13_countWays_24 : decode cX13_countWays 24 = .ok (.iload_n 2, 1) := by decide +kernel
theorem dX13_countWays_25 : decode cX13_countWays 25 = .ok (.baload, 1) := by decide +kernel
theorem dX13_countWays_26 : decode cX13_countWays 26 = .ok (.ifCond .eq 7, 3) := by decide +kernel
theorem dX13_countWays_29 : decode cX13_countWays 29 = .ok (.iconst 1, 1) := by decide +kernel
theorem dX13_countWays_30 : decode cX13_countWays 30 = .ok (.goto 4, 3) := by decide +kernel
theorem dX13_countWays_33 : decode cX13_countWays 33 = .ok (.iconst 0, 1) := by decide +kernel
theorem dX13_countWays_34 : decode cX13_countWays 34 = .ok (.iastore, 1) := by decide +kernel
theorem dX13_countWays_35 : decode cX13_countWays 35 = .ok (.iinc 2 1, 3) := by decide +kernel
theorem dX13_countWays_38 : decode cX13_countWays 38 = .ok (.goto (-31), 3) := by decide +kernel
theorem dX13_countWays_41 : decode cX13_countWays 41 = .ok (.iload_n 1, 1) := by decide +kernel
theorem dX13_countWays_42 : decode cX13_countWays 42 = .ok (.iconst 1, 1) := by decide +kernel
theorem dX13_countWays_43 : decode cX13_countWays 43 = .ok (.isub, 1) := by decide +kernel
theorem dX13_countWays_44 : decode cX13_countWays 44 = .ok (.istore_n 2, 1) := by decide +kernel
theorem dX13_countWays_45 : decode cX13_countWays 45 = .ok (.iload_n 2, 1) := by decide +kernel
theorem dX13_countWays_46 : decode cX13_countWays 46 = .ok (.ifCond .lt 121, 3) := by decide +kernel
theorem dX13_countWays_49 : decode cX13_countWays 49 = .ok (.aload_n 0, 1) := by decide +kernel
theorem dX13_countWays_50 : decode cX13_countWays 50 = .ok (.getfield 72, 3) := by decide +kernel
theorem dX13_countWays_53 : decode cX13_countWays 53 = .ok (.iload_n 2, 1) := by decide +kernel
theorem dX13_countWays_54 : decode cX13_countWays 54 = .ok (.iaload, 1) := by decide +kernel
theorem dX13_countWays_55 : decode cX13_countWays 55 = .ok (.istore_n 3, 1) := by decide +kernel
theorem dX13_countWays_56 : decode cX13_countWays 56 = .ok (.iload_n 3, 1) := by decide +kernel
theorem dX13_countWays_57 : decode cX13_countWays 57 = .ok (.aload_n 0, 1) := by decide +kernel
theorem dX13_countWays_58 : decode cX13_countWays 58 = .ok (.getfield 72, 3) := by decide +kernel
theorem dX13_countWays_61 : decode cX13_countWays 61 = .ok (.iload_n 2, 1) := by decide +kernel
theorem dX13_countWays_62 : decode cX13_countWays 62 = .ok (.iconst 1, 1) := by decide +kernel
theorem dX13_countWays_63 : decode cX13_countWays 63 = .ok (.iadd, 1) := by decide +kernel
theorem dX13_countWays_64 : decode cX13_countWays 64 = .ok (.iaload, 1) := by decide +kernel
theorem dX13_countWays_65 : decode cX13_countWays 65 = .ok (.if_icmp .ge 96, 3) := by decide +kernel
theorem dX13_countWays_68 : decode cX13_countWays 68 = .ok (.aload_n 0, 1) := by decide +kernel
theorem dX13_countWays_69 : decode cX13_countWays 69 = .ok (.getfield 69, 3) := by decide +kernel
theorem dX13_countWays_72 : decode cX13_countWays 72 = .ok (.iload_n 3, 1) := by decide +kernel
theorem dX13_countWays_73 : decode cX13_countWays 73 = .ok (.iconst 0, 1) := by decide +kernel
theorem dX13_countWays_74 : decode cX13_countWays 74 = .ok (.iastore, 1) := by decide +kernel
theorem dX13_countWays_75 : decode cX13_countWays 75 = .ok (.iconst 1, 1) := by decide +kernel
theorem dX13_countWays_76 : decode cX13_countWays 76 = .ok (.istore 4, 2) := by decide +kernel
theorem dX13_countWays_78 : decode cX13_countWays 78 = .ok (.iload 4, 2) := by decide +kernel
theorem dX13_countWays_80 : decode cX13_countWays 80 = .ok (.bipush 14, 2) := by decide +kernel
theorem dX13_countWays_82 : decode cX13_countWays 82 = .ok (.if_icmp .gt 73, 3) := by decide +kernel
theorem dX13_countWays_85 : decode cX13_countWays 85 = .ok (.iconst 0, 1) := by decide +kernel
theorem dX13_countWays_86 : decode cX13_countWays 86 = .ok (.istore 5, 2) := by decide +kernel
theorem dX13_countWays_88 : decode cX13_countWays 88 = .ok (.iload 5, 2) := by decide +kernel
theorem dX13_countWays_90 : decode cX13_countWays 90 = .ok (.bipush 6, 2) := by decide +kernel
theorem dX13_countWays_92 : decode cX13_countWays 92 = .ok (.if_icmp .ge 57, 3) := by decide +kernel
theorem dX13_countWays_95 : decode cX13_countWays 95 = .ok (.iconst 0, 1) := by decide +kernel
theorem dX13_countWays_96 : decode cX13_countWays 96 = .ok (.istore 6, 2) := by decide +kernel
theorem dX13_countWays_98 : decode cX13_countWays 98 = .ok (.iload 6, 2) := by decide +kernel
theorem dX13_countWays_100 : decode cX13_countWays 100 = .ok (.bipush 6, 2) := by decide +kernel
theorem dX13_countWays_102 : decode cX13_countWays 102 = .ok (.if_icmp .ge 41, 3) := by decide +kernel
theorem dX13_countWays_105 : decode cX13_countWays 105 = .ok (.aload_n 0, 1) := by decide +kernel
theorem dX13_countWays_106 : decode cX13_countWays 106 = .ok (.getfield 69, 3) := by decide +kernel
theorem dX13_countWays_109 : decode cX13_countWays 109 = .ok (.iload_n 3, 1) := by decide +kernel
theorem dX13_countWays_110 : decode cX13_countWays 110 = .ok (.ldc 228, 2) := by decide +kernel
theorem dX13_countWays_112 : decode cX13_countWays 112 = .ok (.aload_n 0, 1) := by decide +kernel
theorem dX13_countWays_113 : decode cX13_countWays 113 = .ok (.getfield 69, 3) := by decide +kernel
theorem dX13_countWays_116 : decode cX13_countWays 116 = .ok (.iload_n 3, 1) := by decide +kernel
theorem dX13_countWays_117 : decode cX13_countWays 117 = .ok (.iaload, 1) := by decide +kernel
theorem dX13_countWays_118 : decode cX13_countWays 118 = .ok (.aload_n 0, 1) := by decide +kernel
theorem dX13_countWays_119 : decode cX13_countWays 119 = .ok (.iload_n 3, 1) := by decide +kernel
theorem dX13_countWays_120 : decode cX13_countWays 120 = .ok (.iload 4, 2) := by decide +kernel
theorem dX13_countWays_122 : decode cX13_countWays 122 = .ok (.iload 5, 2) := by decide +kernel
theorem dX13_countWays_124 : decode cX13_countWays 124 = .ok (.iload 6, 2) := by decide +kernel
theorem dX13_countWays_126 : decode cX13_countWays 126 = .ok (.iload_n 2, 1) := by decide +kernel
theorem dX13_countWays_127 : decode cX13_countWays 127 = .ok (.iconst 1, 1) := by decide +kernel
theorem dX13_countWays_128 : decode cX13_countWays 128 = .ok (.iadd, 1) := by decide +kernel
theorem dX13_countWays_129 : decode cX13_countWays 129 = .ok (.invokevirtual 406, 3) := by decide +kernel
theorem dX13_countWays_132 : decode cX13_countWays 132 = .ok (.iadd, 1) := by decide +kernel
theorem dX13_countWays_133 : decode cX13_countWays 133 = .ok (.invokestatic 410, 3) := by decide +kernel
theorem dX13_countWays_136 : decode cX13_countWays 136 = .ok (.iastore, 1) := by decide +kernel
theorem dX13_countWays_137 : decode cX13_countWays 137 = .ok (.iinc 6 1, 3) := by decide +kernel
theorem dX13_countWays_140 : decode cX13_countWays 140 = .ok (.goto (-42), 3) := by decide +kernel
theorem dX13_countWays_143 : decode cX13_countWays 143 = .ok (.iinc 5 1, 3) := by decide +kernel
theorem dX13_countWays_146 : decode cX13_countWays 146 = .ok (.goto (-58), 3) := by decide +kernel
theorem dX13_countWays_149 : decode cX13_countWays 149 = .ok (.iinc 4 1, 3) := by decide +kernel
theorem dX13_countWays_152 : decode cX13_countWays 152 = .ok (.goto (-74), 3) := by decide +kernel
theorem dX13_countWays_155 : decode cX13_countWays 155 = .ok (.iinc 3 1, 3) := by decide +kernel
theorem dX13_countWays_158 : decode cX13_countWays 158 = .ok (.goto (-102), 3) := by decide +kernel
theorem dX13_countWays_161 : decode cX13_countWays 161 = .ok (.iinc 2 (-1), 3) := by decide +kernel
theorem dX13_countWays_164 : decode cX13_countWays 164 = .ok (.goto (-119), 3) := by decide +kernel
theorem dX13_countWays_167 : decode cX13_countWays 167 = .ok (.aload_n 0, 1) := by decide +kernel
theorem dX13_countWays_168 : decode cX13_countWays 168 = .ok (.aload_n 0, 1) := by decide +kernel
theorem dX13_countWays_169 : decode cX13_countWays 169 = .ok (.getfield 69, 3) := by decide +kernel
theorem dX13_countWays_172 : decode cX13_countWays 172 = .ok (.iconst 0, 1) := by decide +kernel
theorem dX13_countWays_173 : decode cX13_countWays 173 = .ok (.iaload, 1) := by decide +kernel
theorem dX13_countWays_174 : decode cX13_countWays 174 = .ok (.putfield 376, 3) := by decide +kernel
theorem dX13_countWays_177 : decode cX13_countWays 177 = .ok (.return_, 1) := by decide +kernel
theorem dX13_leadsBy_0 : decode cX13_leadsBy 0 = .ok (.aload_n 0, 1) := by decide +kernel
theorem dX13_leadsBy_1 : decode cX13_leadsBy 1 = .ok (.iload_n 1, 1) := by decide +kernel
theorem dX13_leadsBy_2 : decode cX13_leadsBy 2 = .ok (.iload_n 2, 1) := by decide +kernel
theorem dX13_leadsBy_3 : decode cX13_leadsBy 3 = .ok (.iload_n 3, 1) := by decide +kernel
theorem dX13_leadsBy_4 : decode cX13_leadsBy 4 = .ok (.iload 4, 2) := by decide +kernel
theorem dX13_leadsBy_6 : decode cX13_leadsBy 6 = .ok (.invokevirtual 400, 3) := by decide +kernel
theorem dX13_leadsBy_9 : decode cX13_leadsBy 9 = .ok (.ifCond .ne 5, 3) := by decide +kernel
theorem dX13_leadsBy_12 : decode cX13_leadsBy 12 = .ok (.iconst 0, 1) := by decide +kernel
theorem dX13_leadsBy_13 : decode cX13_leadsBy 13 = .ok (.ireturn, 1) := by decide +kernel
theorem dX13_leadsBy_14 : decode cX13_leadsBy 14 = .ok (.aload_n 0, 1) := by decide +kernel
theorem dX13_leadsBy_15 : decode cX13_leadsBy 15 = .ok (.invokevirtual 403, 3) := by decide +kernel
theorem dX13_leadsBy_18 : decode cX13_leadsBy 18 = .ok (.istore 6, 2) := by decide +kernel
theorem dX13_leadsBy_20 : decode cX13_leadsBy 20 = .ok (.iload 6, 2) := by decide +kernel
theorem dX13_leadsBy_22 : decode cX13_leadsBy 22 = .ok (.aload_n 0, 1) := by decide +kernel
theorem dX13_leadsBy_23 : decode cX13_leadsBy 23 = .ok (.getfield 72, 3) := by decide +kernel
theorem dX13_leadsBy_26 : decode cX13_leadsBy 26 = .ok (.iload 5, 2) := by decide +kernel
theorem dX13_leadsBy_28 : decode cX13_leadsBy 28 = .ok (.iaload, 1) := by decide +kernel
theorem dX13_leadsBy_29 : decode cX13_leadsBy 29 = .ok (.if_icmp .lt 17, 3) := by decide +kernel
theorem dX13_leadsBy_32 : decode cX13_leadsBy 32 = .ok (.iload 6, 2) := by decide +kernel
theorem dX13_leadsBy_34 : decode cX13_leadsBy 34 = .ok (.aload_n 0, 1) := by decide +kernel
theorem dX13_leadsBy_35 : decode cX13_leadsBy 35 = .ok (.getfield 72, 3) := by decide +kernel
theorem dX13_leadsBy_38 : decode cX13_leadsBy 38 = .ok (.iload 5, 2) := by decide +kernel
theorem dX13_leadsBy_40 : decode cX13_leadsBy 40 = .ok (.iconst 1, 1) := by decide +kernel
theorem dX13_leadsBy_41 : decode cX13_leadsBy 41 = .ok (.iadd, 1) := by decide +kernel
theorem dX13_leadsBy_42 : decode cX13_leadsBy 42 = .ok (.iaload, 1) := by decide +kernel
theorem dX13_leadsBy_43 : decode cX13_leadsBy 43 = .ok (.if_icmp .lt 7, 3) := by decide +kernel
theorem dX13_leadsBy_46 : decode cX13_leadsBy 46 = .ok (.iconst 0, 1) := by decide +kernel
theorem dX13_leadsBy_47 : decode cX13_leadsBy 47 = .ok (.goto 10, 3) := by decide +kernel
theorem dX13_leadsBy_50 : decode cX13_leadsBy 50 = .ok (.aload_n 0, 1) := by decide +kernel
theorem dX13_leadsBy_51 : decode cX13_leadsBy 51 = .ok (.getfield 69, 3) := by decide +kernel
theorem dX13_leadsBy_54 : decode cX13_leadsBy 54 = .ok (.iload 6, 2) := by decide +kernel
theorem dX13_leadsBy_56 : decode cX13_leadsBy 56 = .ok (.iaload, 1) := by decide +kernel
theorem dX13_leadsBy_57 : decode cX13_leadsBy 57 = .ok (.ireturn, 1) := by decide +kernel
theorem dX13_tellWays_0 : decode cX13_tellWays 0 = .ok (.aload_n 0, 1) := by decide +kernel
theorem dX13_tellWays_1 : decode cX13_tellWays 1 = .ok (.getfield 379, 3) := by decide +kernel
theorem dX13_tellWays_4 : decode cX13_tellWays 4 = .ok (.bipush 60, 2) := by decide +kernel
theorem dX13_tellWays_6 : decode cX13_tellWays 6 = .ok (.if_icmp .ne 4, 3) := by decide +kernel
theorem dX13_tellWays_9 : decode cX13_tellWays 9 = .ok (.return_, 1) := by decide +kernel
theorem dX13_tellWays_10 : decode cX13_tellWays 10 = .ok (.iload_n 2, 1) := by decide +kernel
theorem dX13_tellWays_11 : decode cX13_tellWays 11 = .ok (.iload_n 3, 1) := by decide +kernel
theorem dX13_tellWays_12 : decode cX13_tellWays 12 = .ok (.if_icmp .ne 97, 3) := by decide +kernel
theorem dX13_tellWays_15 : decode cX13_tellWays 15 = .ok (.iconst 0, 1) := by decide +kernel
theorem dX13_tellWays_16 : decode cX13_tellWays 16 = .ok (.istore 4, 2) := by decide +kernel
theorem dX13_tellWays_18 : decode cX13_tellWays 18 = .ok (.iload 4, 2) := by decide +kernel
theorem dX13_tellWays_20 : decode cX13_tellWays 20 = .ok (.iload_n 3, 1) := by decide +kernel
theorem dX13_tellWays_21 : decode cX13_tellWays 21 = .ok (.if_icmp .ge 72, 3) := by decide +kernel
theorem dX13_tellWays_24 : decode cX13_tellWays 24 = .ok (.aload_n 0, 1) := by decide +kernel
theorem dX13_tellWays_25 : decode cX13_tellWays 25 = .ok (.getfield 88, 3) := by decide +kernel
theorem dX13_tellWays_28 : decode cX13_tellWays 28 = .ok (.iconst 4, 1) := by decide +kernel
theorem dX13_tellWays_29 : decode cX13_tellWays 29 = .ok (.aload_n 0, 1) := by decide +kernel
theorem dX13_tellWays_30 : decode cX13_tellWays 30 = .ok (.getfield 379, 3) := by decide +kernel
theorem dX13_tellWays_33 : decode cX13_tellWays 33 = .ok (.imul, 1) := by decide +kernel
theorem dX13_tellWays_34 : decode cX13_tellWays 34 = .ok (.iload 4, 2) := by decide +kernel
theorem dX13_tellWays_36 : decode cX13_tellWays 36 = .ok (.iadd, 1) := by decide +kernel
theorem dX13_tellWays_37 : decode cX13_tellWays 37 = .ok (.aload_n 0, 1) := by decide +kernel
theorem dX13_tellWays_38 : decode cX13_tellWays 38 = .ok (.getfield 79, 3) := by decide +kernel
theorem dX13_tellWays_41 : decode cX13_tellWays 41 = .ok (.iload 4, 2) := by decide +kernel
theorem dX13_tellWays_43 : decode cX13_tellWays 43 = .ok (.iaload, 1) := by decide +kernel
theorem dX13_tellWays_44 : decode cX13_tellWays 44 = .ok (.iastore, 1) := by decide +kernel
theorem dX13_tellWays_45 : decode cX13_tellWays 45 = .ok (.aload_n 0, 1) := by decide +kernel
theorem dX13_tellWays_46 : decode cX13_tellWays 46 = .ok (.getfield 91, 3) := by decide +kernel
theorem dX13_tellWays_49 : decode cX13_tellWays 49 = .ok (.iconst 4, 1) := by decide +kernel
theorem dX13_tellWays_50 : decode cX13_tellWays 50 = .ok (.aload_n 0, 1) := by decide +kernel
theorem dX13_tellWays_51 : decode cX13_tellWays 51 = .ok (.getfield 379, 3) := by decide +kernel
theorem dX13_tellWays_54 : decode cX13_tellWays 54 = .ok (.imul, 1) := by decide +kernel
theorem dX13_tellWays_55 : decode cX13_tellWays 55 = .ok (.iload 4, 2) := by decide +kernel
theorem dX13_tellWays_57 : decode cX13_tellWays 57 = .ok (.iadd, 1) := by decide +kernel
theorem dX13_tellWays_58 : decode cX13_tellWays 58 = .ok (.aload_n 0, 1) := by decide +kernel
theorem dX13_tellWays_59 : decode cX13_tellWays 59 = .ok (.getfield 82, 3) := by decide +kernel
theorem dX13_tellWays_62 : decode cX13_tellWays 62 = .ok (.iload 4, 2) := by decide +kernel
theorem dX13_tellWays_64 : decode cX13_tellWays 64 = .ok (.iaload, 1) := by decide +kernel
theorem dX13_tellWays_65 : decode cX13_tellWays 65 = .ok (.iastore, 1) := by decide +kernel
theorem dX13_tellWays_66 : decode cX13_tellWays 66 = .ok (.aload_n 0, 1) := by decide +kernel
theorem dX13_tellWays_67 : decode cX13_tellWays 67 = .ok (.getfield 94, 3) := by decide +kernel
theorem dX13_tellWays_70 : decode cX13_tellWays 70 = .ok (.iconst 4, 1) := by decide +kernel
theorem dX13_tellWays_71 : decode cX13_tellWays 71 = .ok (.aload_n 0, 1) := by decide +kernel
theorem dX13_tellWays_72 : decode cX13_tellWays 72 = .ok (.getfield 379, 3) := by decide +kernel
theorem dX13_tellWays_75 : decode cX13_tellWays 75 = .ok (.imul, 1) := by decide +kernel
theorem dX13_tellWays_76 : decode cX13_tellWays 76 = .ok (.iload 4, 2) := by decide +kernel
theorem dX13_tellWays_78 : decode cX13_tellWays 78 = .ok (.iadd, 1) := by decide +kernel
theorem dX13_tellWays_79 : decode cX13_tellWays 79 = .ok (.aload_n 0, 1) := by decide +kernel
theorem dX13_tellWays_80 : decode cX13_tellWays 80 = .ok (.getfield 85, 3) := by decide +kernel
theorem dX13_tellWays_83 : decode cX13_tellWays 83 = .ok (.iload 4, 2) := by decide +kernel
theorem dX13_tellWays_85 : decode cX13_tellWays 85 = .ok (.iaload, 1) := by decide +kernel
theorem dX13_tellWays_86 : decode cX13_tellWays 86 = .ok (.iastore, 1) := by decide +kernel
theorem dX13_tellWays_87 : decode cX13_tellWays 87 = .ok (.iinc 4 1, 3) := by decide +kernel
theorem dX13_tellWays_90 : decode cX13_tellWays 90 = .ok (.goto (-72), 3) := by decide +kernel
theorem dX13_tellWays_93 : decode cX13_tellWays 93 = .ok (.aload_n 0, 1) := by decide +kernel
theorem dX13_tellWays_94 : decode cX13_tellWays 94 = .ok (.iload_n 3, 1) := by decide +kernel
theorem dX13_tellWays_95 : decode cX13_tellWays 95 = .ok (.putfield 415, 3) := by decide +kernel
theorem dX13_tellWays_98 : decode cX13_tellWays 98 = .ok (.aload_n 0, 1) := by decide +kernel
theorem dX13_tellWays_99 : decode cX13_tellWays 99 = .ok (.dup, 1) := by decide +kernel
theorem dX13_tellWays_100 : decode cX13_tellWays 100 = .ok (.getfield 379, 3) := by decide +kernel
theorem dX13_tellWays_103 : decode cX13_tellWays 103 = .ok (.iconst 1, 1) := by decide +kernel
theorem dX13_tellWays_104 : decode cX13_tellWays 104 = .ok (.iadd, 1) := by decide +kernel
theorem dX13_tellWays_105 : decode cX13_tellWays 105 = .ok (.putfield 379, 3) := by decide +kernel
theorem dX13_tellWays_108 : decode cX13_tellWays 108 = .ok (.return_, 1) := by decide +kernel
theorem dX13_tellWays_109 : decode cX13_tellWays 109 = .ok (.iconst 1, 1) := by decide +kernel
theorem dX13_tellWays_110 : decode cX13_tellWays 110 = .ok (.istore 4, 2) := by decide +kernel
theorem dX13_tellWays_112 : decode cX13_tellWays 112 = .ok (.iload 4, 2) := by decide +kernel
theorem dX13_tellWays_114 : decode cX13_tellWays 114 = .ok (.bipush 14, 2) := by decide +kernel
theorem dX13_tellWays_116 : decode cX13_tellWays 116 = .ok (.if_icmp .gt 110, 3) := by decide +kernel
theorem dX13_tellWays_119 : decode cX13_tellWays 119 = .ok (.iconst 0, 1) := by decide +kernel
theorem dX13_tellWays_120 : decode cX13_tellWays 120 = .ok (.istore 5, 2) := by decide +kernel
theorem dX13_tellWays_122 : decode cX13_tellWays 122 = .ok (.iload 5, 2) := by decide +kernel
theorem dX13_tellWays_124 : decode cX13_tellWays 124 = .ok (.bipush 6, 2) := by decide +kernel
theorem dX13_tellWays_126 : decode cX13_tellWays 126 = .ok (.if_icmp .ge 94, 3) := by decide +kernel
theorem dX13_tellWays_129 : decode cX13_tellWays 129 = .ok (.iconst 0, 1) := by decide +kernel
theorem dX13_tellWays_130 : decode cX13_tellWays 130 = .ok (.istore 6, 2) := by decide +kernel
theorem dX13_tellWays_132 : decode cX13_tellWays 132 = .ok (.iload 6, 2) := by decide +kernel
theorem dX13_tellWays_134 : decode cX13_tellWays 134 = .ok (.bipush 6, 2) := by decide +kernel
theorem dX13_tellWays_136 : decode cX13_tellWays 136 = .ok (.if_icmp .ge 78, 3) := by decide +kernel
theorem dX13_tellWays_139 : decode cX13_tellWays 139 = .ok (.aload_n 0, 1) := by decide +kernel
theorem dX13_tellWays_140 : decode cX13_tellWays 140 = .ok (.getfield 379, 3) := by decide +kernel
theorem dX13_tellWays_143 : decode cX13_tellWays 143 = .ok (.bipush 60, 2) := by decide +kernel
theorem dX13_tellWays_145 : decode cX13_tellWays 145 = .ok (.if_icmp .eq 63, 3) := by decide +kernel
theorem dX13_tellWays_148 : decode cX13_tellWays 148 = .ok (.aload_n 0, 1) := by decide +kernel
theorem dX13_tellWays_149 : decode cX13_tellWays 149 = .ok (.iload_n 1, 1) := by decide +kernel
theorem dX13_tellWays_150 : decode cX13_tellWays 150 = .ok (.iload 4, 2) := by decide +kernel
theorem dX13_tellWays_152 : decode cX13_tellWays 152 = .ok (.iload 5, 2) := by decide +kernel
theorem dX13_tellWays_154 : decode cX13_tellWays 154 = .ok (.iload 6, 2) := by decide +kernel
theorem dX13_tellWays_156 : decode cX13_tellWays 156 = .ok (.iload_n 2, 1) := by decide +kernel
theorem dX13_tellWays_157 : decode cX13_tellWays 157 = .ok (.iconst 1, 1) := by decide +kernel
theorem dX13_tellWays_158 : decode cX13_tellWays 158 = .ok (.iadd, 1) := by decide +kernel
theorem dX13_tellWays_159 : decode cX13_tellWays 159 = .ok (.invokevirtual 406, 3) := by decide +kernel
theorem dX13_tellWays_162 : decode cX13_tellWays 162 = .ok (.ifCond .ne 6, 3) := by decide +kernel
theorem dX13_tellWays_165 : decode cX13_tellWays 165 = .ok (.goto 43, 3) := by decide +kernel
theorem dX13_tellWays_168 : decode cX13_tellWays 168 = .ok (.aload_n 0, 1) := by decide +kernel
theorem dX13_tellWays_169 : decode cX13_tellWays 169 = .ok (.invokevirtual 403, 3) := by decide +kernel
theorem dX13_tellWays_172 : decode cX13_tellWays 172 = .ok (.istore 7, 2) := by decide +kernel
theorem dX13_tellWays_174 : decode cX13_tellWays 174 = .ok (.aload_n 0, 1) := by decide +kernel
theorem dX13_tellWays_175 : decode cX13_tellWays 175 = .ok (.getfield 79, 3) := by decide +kernel
theorem dX13_tellWays_178 : decode cX13_tellWays 178 = .ok (.iload_n 2, 1) := by decide +kernel
theorem dX13_tellWays_179 : decode cX13_tellWays 179 = .ok (.iload 4, 2) := by decide +kernel
theorem dX13_tellWays_181 : decode cX13_tellWays 181 = .ok (.iastore, 1) := by decide +kernel
theorem dX13_tellWays_182 : decode cX13_tellWays 182 = .ok (.aload_n 0, 1) := by decide +kernel
theorem dX13_tellWays_183 : decode cX13_tellWays 183 = .ok (.getfield 82, 3) := by decide +kernel
theorem dX13_tellWays_186 : decode cX13_tellWays 186 = .ok (.iload_n 2, 1) := by decide +kernel
theorem dX13_tellWays_187 : decode cX13_tellWays 187 = .ok (.iload 5, 2) := by decide +kernel
theorem dX13_tellWays_189 : decode cX13_tellWays 189 = .ok (.iastore, 1) := by decide +kernel
theorem dX13_tellWays_190 : decode cX13_tellWays 190 = .ok (.aload_n 0, 1) := by decide +kernel
theorem dX13_tellWays_191 : decode cX13_tellWays 191 = .ok (.getfield 85, 3) := by decide +kernel
theorem dX13_tellWays_194 : decode cX13_tellWays 194 = .ok (.iload_n 2, 1) := by decide +kernel
theorem dX13_tellWays_195 : decode cX13_tellWays 195 = .ok (.iload 6, 2) := by decide +kernel
theorem dX13_tellWays_197 : decode cX13_tellWays 197 = .ok (.iastore, 1) := by decide +kernel
theorem dX13_tellWays_198 : decode cX13_tellWays 198 = .ok (.aload_n 0, 1) := by decide +kernel
theorem dX13_tellWays_199 : decode cX13_tellWays 199 = .ok (.iload 7, 2) := by decide +kernel
theorem dX13_tellWays_201 : decode cX13_tellWays 201 = .ok (.iload_n 2, 1) := by decide +kernel
theorem dX13_tellWays_202 : decode cX13_tellWays 202 = .ok (.iconst 1, 1) := by decide +kernel
theorem dX13_tellWays_203 : decode cX13_tellWays 203 = .ok (.iadd, 1) := by decide +kernel
theorem dX13_tellWays_204 : decode cX13_tellWays 204 = .ok (.iload_n 3, 1) := by decide +kernel
theorem dX13_tellWays_205 : decode cX13_tellWays 205 = .ok (.invokevirtual 397, 3) := by decide +kernel
theorem dX13_tellWays_208 : decode cX13_tellWays 208 = .ok (.iinc 6 1, 3) := by decide +kernel
theorem dX13_tellWays_211 : decode cX13_tellWays 211 = .ok (.goto (-79), 3) := by decide +kernel
theorem dX13_tellWays_214 : decode cX13_tellWays 214 = .ok (.iinc 5 1, 3) := by decide +kernel
theorem dX13_tellWays_217 : decode cX13_tellWays 217 = .ok (.goto (-95), 3) := by decide +kernel
theorem dX13_tellWays_220 : decode cX13_tellWays 220 = .ok (.iinc 4 1, 3) := by decide +kernel
theorem dX13_tellWays_223 : decode cX13_tellWays 223 = .ok (.goto (-111), 3) := by decide +kernel
theorem dX13_tellWays_226 : decode cX13_tellWays 226 = .ok (.return_, 1) := by decide +kernel
theorem dX13_found_0 : decode cX13_found 0 = .ok (.iload_n 1, 1) := by decide +kernel
theorem dX13_found_1 : decode cX13_found 1 = .ok (.ifCond .ne 10, 3) := by decide +kernel
theorem dX13_found_4 : decode cX13_found 4 = .ok (.aload_n 0, 1) := by decide +kernel
theorem dX13_found_5 : decode cX13_found 5 = .ok (.getfield 376, 3) := by decide +kernel
theorem dX13_found_8 : decode cX13_found 8 = .ok (.goto 28, 3) := by decide +kernel
theorem dX13_found_11 : decode cX13_found 11 = .ok (.iload_n 1, 1) := by decide +kernel
theorem dX13_found_12 : decode cX13_found 12 = .ok (.iconst 1, 1) := by decide +kernel
theorem dX13_found_13 : decode cX13_found 13 = .ok (.if_icmp .ne 10, 3) := by decide +kernel
theorem dX13_found_16 : decode cX13_found 16 = .ok (.aload_n 0, 1) := by decide +kernel
theorem dX13_found_17 : decode cX13_found 17 = .ok (.getfield 359, 3) := by decide +kernel
theorem dX13_found_20 : decode cX13_found 20 = .ok (.goto 16, 3) := by decide +kernel
theorem dX13_found_23 : decode cX13_found 23 = .ok (.iload_n 1, 1) := by decide +kernel
theorem dX13_found_24 : decode cX13_found 24 = .ok (.iconst 2, 1) := by decide +kernel
theorem dX13_found_25 : decode cX13_found 25 = .ok (.if_icmp .ne 10, 3) := by decide +kernel
theorem dX13_found_28 : decode cX13_found 28 = .ok (.aload_n 0, 1) := by decide +kernel
theorem dX13_found_29 : decode cX13_found 29 = .ok (.getfield 371, 3) := by decide +kernel
theorem dX13_found_32 : decode cX13_found 32 = .ok (.goto 4, 3) := by decide +kernel
theorem dX13_found_35 : decode cX13_found 35 = .ok (.iconst (-1), 1) := by decide +kernel
theorem dX13_found_36 : decode cX13_found 36 = .ok (.ireturn, 1) := by decide +kernel
theorem dX13_take_0 : decode cX13_take 0 = .ok (.iload_n 2, 1) := by decide +kernel
theorem dX13_take_1 : decode cX13_take 1 = .ok (.invokestatic 321, 3) := by decide +kernel
theorem dX13_take_4 : decode cX13_take 4 = .ok (.ifCond .ne 6, 3) := by decide +kernel
theorem dX13_take_7 : decode cX13_take 7 = .ok (.bipush (-2), 2) := by decide +kernel
theorem dX13_take_9 : decode cX13_take 9 = .ok (.ireturn, 1) := by decide +kernel
theorem dX13_take_10 : decode cX13_take 10 = .ok (.iload_n 1, 1) := by decide +kernel
theorem dX13_take_11 : decode cX13_take 11 = .ok (.i2l, 1) := by decide +kernel
theorem dX13_take_12 : decode cX13_take 12 = .ok (.lconst 0, 1) := by decide +kernel
theorem dX13_take_13 : decode cX13_take 13 = .ok (.aload_n 0, 1) := by decide +kernel
theorem dX13_take_14 : decode cX13_take 14 = .ok (.getfield 379, 3) := by decide +kernel
theorem dX13_take_17 : decode cX13_take 17 = .ok (.i2l, 1) := by decide +kernel
theorem dX13_take_18 : decode cX13_take 18 = .ok (.lconst 1, 1) := by decide +kernel
theorem dX13_take_19 : decode cX13_take 19 = .ok (.lsub, 1) := by decide +kernel
theorem dX13_take_20 : decode cX13_take 20 = .ok (.invokestatic 113, 3) := by decide +kernel
theorem dX13_take_23 : decode cX13_take 23 = .ok (.ifCond .ne 5, 3) := by decide +kernel
theorem dX13_take_26 : decode cX13_take 26 = .ok (.iconst (-1), 1) := by decide +kernel
theorem dX13_take_27 : decode cX13_take 27 = .ok (.ireturn, 1) := by decide +kernel
theorem dX13_take_28 : decode cX13_take 28 = .ok (.aload_n 0, 1) := by decide +kernel
theorem dX13_take_29 : decode cX13_take 29 = .ok (.getfield 29, 3) := by decide +kernel
theorem dX13_take_32 : decode cX13_take 32 = .ok (.iload_n 2, 1) := by decide +kernel
theorem dX13_take_33 : decode cX13_take 33 = .ok (.aload_n 0, 1) := by decide +kernel
theorem dX13_take_34 : decode cX13_take 34 = .ok (.getfield 415, 3) := by decide +kernel
theorem dX13_take_37 : decode cX13_take 37 = .ok (.iastore, 1) := by decide +kernel
theorem dX13_take_38 : decode cX13_take 38 = .ok (.iconst 0, 1) := by decide +kernel
theorem dX13_take_39 : decode cX13_take 39 = .ok (.istore_n 3, 1) := by decide +kernel
theorem dX13_take_40 : decode cX13_take 40 = .ok (.iload_n 3, 1) := by decide +kernel
theorem dX13_take_41 : decode cX13_take 41 = .ok (.aload_n 0, 1) := by decide +kernel
theorem dX13_take_42 : decode cX13_take 42 = .ok (.getfield 415, 3) := by decide +kernel
theorem dX13_take_45 : decode cX13_take 45 = .ok (.if_icmp .ge 72, 3) := by decide +kernel
theorem dX13_take_48 : decode cX13_take 48 = .ok (.aload_n 0, 1) := by decide +kernel
theorem dX13_take_49 : decode cX13_take 49 = .ok (.getfield 32, 3) := by decide +kernel
theorem dX13_take_52 : decode cX13_take 52 = .ok (.bipush 12, 2) := by decide +kernel
theorem dX13_take_54 : decode cX13_take 54 = .ok (.iload_n 2, 1) := by decide +kernel
theorem dX13_take_55 : decode cX13_take 55 = .ok (.imul, 1) := by decide +kernel
theorem dX13_take_56 : decode cX13_take 56 = .ok (.iload_n 3, 1) := by decide +kernel
theorem dX13_take_57 : decode cX13_take 57 = .ok (.iadd, 1) := by decide +kernel
theorem dX13_take_58 : decode cX13_take 58 = .ok (.aload_n 0, 1) := by decide +kernel
theorem dX13_take_59 : decode cX13_take 59 = .ok (.getfield 88, 3) := by decide +kernel
theorem dX13_take_62 : decode cX13_take 62 = .ok (.iconst 4, 1) := by decide +kernel
theorem dX13_take_63 : decode cX13_take 63 = .ok (.iload_n 1, 1) := by decide +kernel
theorem dX13_take_64 : decode cX13_take 64 = .ok (.imul, 1) := by decide +kernel
theorem dX13_take_65 : decode cX13_take 65 = .ok (.iload_n 3, 1) := by decide +kernel
theorem dX13_take_66 : decode cX13_take 66 = .ok (.iadd, 1) := by decide +kernel
theorem dX13_take_67 : decode cX13_take 67 = .ok (.iaload, 1) := by decide +kernel
theorem dX13_take_68 : decode cX13_take 68 = .ok (.iastore, 1) := by decide +kernel
theorem dX13_take_69 : decode cX13_take 69 = .ok (.aload_n 0, 1) := by decide +kernel
theorem dX13_take_70 : decode cX13_take 70 = .ok (.getfield 35, 3) := by decide +kernel
theorem dX13_take_73 : decode cX13_take 73 = .ok (.bipush 12, 2) := by decide +kernel
theorem dX13_take_75 : decode cX13_take 75 = .ok (.iload_n 2, 1) := by decide +kernel
theorem dX13_take_76 : decode cX13_take 76 = .ok (.imul, 1) := by decide +kernel
theorem dX13_take_77 : decode cX13_take 77 = .ok (.iload_n 3, 1) := by decide +kernel
theorem dX13_take_78 : decode cX13_take 78 = .ok (.iadd, 1) := by decide +kernel
theorem dX13_take_79 : decode cX13_take 79 = .ok (.aload_n 0, 1) := by decide +kernel
theorem dX13_take_80 : decode cX13_take 80 = .ok (.getfield 91, 3) := by decide +kernel
theorem dX13_take_83 : decode cX13_take 83 = .ok (.iconst 4, 1) := by decide +kernel
theorem dX13_take_84 : decode cX13_take 84 = .ok (.iload_n 1, 1) := by decide +kernel
theorem dX13_take_85 : decode cX13_take 85 = .ok (.imul, 1) := by decide +kernel
theorem dX13_take_86 : decode cX13_take 86 = .ok (.iload_n 3, 1) := by decide +kernel
theorem dX13_take_87 : decode cX13_take 87 = .ok (.iadd, 1) := by decide +kernel
theorem dX13_take_88 : decode cX13_take 88 = .ok (.iaload, 1) := by decide +kernel
theorem dX13_take_89 : decode cX13_take 89 = .ok (.iastore, 1) := by decide +kernel
theorem dX13_take_90 : decode cX13_take 90 = .ok (.aload_n 0, 1) := by decide +kernel
theorem dX13_take_91 : decode cX13_take 91 = .ok (.getfield 38, 3) := by decide +kernel
theorem dX13_take_94 : decode cX13_take 94 = .ok (.bipush 12, 2) := by decide +kernel
theorem dX13_take_96 : decode cX13_take 96 = .ok (.iload_n 2, 1) := by decide +kernel
theorem dX13_take_97 : decode cX13_take 97 = .ok (.imul, 1) := by decide +kernel
theorem dX13_take_98 : decode cX13_take 98 = .ok (.iload_n 3, 1) := by decide +kernel
theorem dX13_take_99 : decode cX13_take 99 = .ok (.iadd, 1) := by decide +kernel
theorem dX13_take_100 : decode cX13_take 100 = .ok (.aload_n 0, 1) := by decide +kernel
theorem dX13_take_101 : decode cX13_take 101 = .ok (.getfield 94, 3) := by decide +kernel
theorem dX13_take_104 : decode cX13_take 104 = .ok (.iconst 4, 1) := by decide +kernel
theorem dX13_take_105 : decode cX13_take 105 = .ok (.iload_n 1, 1) := by decide +kernel
theorem dX13_take_106 : decode cX13_take 106 = .ok (.imul, 1) := by decide +kernel
theorem dX13_take_107 : decode cX13_take 107 = .ok (.iload_n 3, 1) := by decide +kernel
theorem dX13_take_108 : decode cX13_take 108 = .ok (.iadd, 1) := by decide +kernel
theorem dX13_take_109 : decode cX13_take 109 = .ok (.iaload, 1) := by decide +kernel
theorem dX13_take_110 : decode cX13_take 110 = .ok (.iastore, 1) := by decide +kernel
theorem dX13_take_111 : decode cX13_take 111 = .ok (.iinc 3 1, 3) := by decide +kernel
theorem dX13_take_114 : decode cX13_take 114 = .ok (.goto (-74), 3) := by decide +kernel
theorem dX13_take_117 : decode cX13_take 117 = .ok (.aload_n 0, 1) := by decide +kernel
theorem dX13_take_118 : decode cX13_take 118 = .ok (.getfield 415, 3) := by decide +kernel
theorem dX13_take_121 : decode cX13_take 121 = .ok (.ireturn, 1) := by decide +kernel
theorem dX13_part_0 : decode cX13_part 0 = .ok (.iload_n 1, 1) := by decide +kernel
theorem dX13_part_1 : decode cX13_part 1 = .ok (.invokestatic 321, 3) := by decide +kernel
theorem dX13_part_4 : decode cX13_part 4 = .ok (.ifCond .eq 43, 3) := by decide +kernel
theorem dX13_part_7 : decode cX13_part 7 = .ok (.iload_n 2, 1) := by decide +kernel
theorem dX13_part_8 : decode cX13_part 8 = .ok (.invokestatic 321, 3) := by decide +kernel
theorem dX13_part_11 : decode cX13_part 11 = .ok (.ifCond .eq 36, 3) := by decide +kernel
theorem dX13_part_14 : decode cX13_part 14 = .ok (.iload_n 3, 1) := by decide +kernel
theorem dX13_part_15 : decode cX13_part 15 = .ok (.i2l, 1) := by decide +kernel
theorem dX13_part_16 : decode cX13_part 16 = .ok (.lconst 1, 1) := by decide +kernel
theorem dX13_part_17 : decode cX13_part 17 = .ok (.ldc2_w 374, 3) := by decide +kernel
theorem dX13_part_20 : decode cX13_part 20 = .ok (.invokestatic 113, 3) := by decide +kernel
theorem dX13_part_23 : decode cX13_part 23 = .ok (.ifCond .eq 24, 3) := by decide +kernel
theorem dX13_part_26 : decode cX13_part 26 = .ok (.iload 4, 2) := by decide +kernel
theorem dX13_part_28 : decode cX13_part 28 = .ok (.i2l, 1) := by decide +kernel
theorem dX13_part_29 : decode cX13_part 29 = .ok (.lconst 1, 1) := by decide +kernel
theorem dX13_part_30 : decode cX13_part 30 = .ok (.ldc2_w 327, 3) := by decide +kernel
theorem dX13_part_33 : decode cX13_part 33 = .ok (.invokestatic 113, 3) := by decide +kernel
theorem dX13_part_36 : decode cX13_part 36 = .ok (.ifCond .eq 11, 3) := by decide +kernel
theorem dX13_part_39 : decode cX13_part 39 = .ok (.iload 5, 2) := by decide +kernel
theorem dX13_part_41 : decode cX13_part 41 = .ok (.invokestatic 315, 3) := by decide +kernel
theorem dX13_part_44 : decode cX13_part 44 = .ok (.ifCond .ne 6, 3) := by decide +kernel
theorem dX13_part_47 : decode cX13_part 47 = .ok (.bipush (-2), 2) := by decide +kernel
theorem dX13_part_49 : decode cX13_part 49 = .ok (.ireturn, 1) := by decide +kernel
theorem dX13_part_50 : decode cX13_part 50 = .ok (.iconst 0, 1) := by decide +kernel
theorem dX13_part_51 : decode cX13_part 51 = .ok (.istore 6, 2) := by decide +kernel
theorem dX13_part_53 : decode cX13_part 53 = .ok (.iconst 1, 1) := by decide +kernel
theorem dX13_part_54 : decode cX13_part 54 = .ok (.istore 7, 2) := by decide +kernel
theorem dX13_part_56 : decode cX13_part 56 = .ok (.iload 7, 2) := by decide +kernel
theorem dX13_part_58 : decode cX13_part 58 = .ok (.iload 4, 2) := by decide +kernel
theorem dX13_part_60 : decode cX13_part 60 = .ok (.if_icmp .gt 168, 3) := by decide +kernel
theorem dX13_part_63 : decode cX13_part 63 = .ok (.iconst 1, 1) := by decide +kernel
theorem dX13_part_64 : decode cX13_part 64 = .ok (.istore 8, 2) := by decide +kernel
theorem dX13_part_66 : decode cX13_part 66 = .ok (.iconst 0, 1) := by decide +kernel
theorem dX13_part_67 : decode cX13_part 67 = .ok (.istore 9, 2) := by decide +kernel
theorem dX13_part_69 : decode cX13_part 69 = .ok (.iload 9, 2) := by decide +kernel
theorem dX13_part_71 : decode cX13_part 71 = .ok (.iload 7, 2) := by decide +kernel
theorem dX13_part_73 : decode cX13_part 73 = .ok (.iload_n 3, 1) := by decide +kernel
theorem dX13_part_74 : decode cX13_part 74 = .ok (.imul, 1) := by decide +kernel
theorem dX13_part_75 : decode cX13_part 75 = .ok (.if_icmp .ge 16, 3) := by decide +kernel
theorem dX13_part_78 : decode cX13_part 78 = .ok (.iload 8, 2) := by decide +kernel
theorem dX13_part_80 : decode cX13_part 80 = .ok (.bipush 6, 2) := by decide +kernel
theorem dX13_part_82 : decode cX13_part 82 = .ok (.imul, 1) := by decide +kernel
theorem dX13_part_83 : decode cX13_part 83 = .ok (.istore 8, 2) := by decide +kernel
theorem dX13_part_85 : decode cX13_part 85 = .ok (.iinc 9 1, 3) := by decide +kernel
theorem dX13_part_88 : decode cX13_part 88 = .ok (.goto (-19), 3) := by decide +kernel
theorem dX13_part_91 : decode cX13_part 91 = .ok (.iconst 0, 1) := by decide +kernel
theorem dX13_part_92 : decode cX13_part 92 = .ok (.istore 9, 2) := by decide +kernel
theorem dX13_part_94 : decode cX13_part 94 = .ok (.iload 9, 2) := by decide +kernel
theorem dX13_part_96 : decode cX13_part 96 = .ok (.iload 8, 2) := by decide +kernel
theorem dX13_part_98 : decode cX13_part 98 = .ok (.if_icmp .ge 124, 3) := by decide +kernel
theorem dX13_part_101 : decode cX13_part 101 = .ok (.iload 6, 2) := by decide +kernel
theorem dX13_part_103 : decode cX13_part 103 = .ok (.sipush 1000, 3) := by decide +kernel
theorem dX13_part_106 : decode cX13_part 106 = .ok (.if_icmp .ne 6, 3) := by decide +kernel
theorem dX13_part_109 : decode cX13_part 109 = .ok (.bipush (-3), 2) := by decide +kernel
theorem dX13_part_111 : decode cX13_part 111 = .ok (.ireturn, 1) := by decide +kernel
theorem dX13_part_112 : decode cX13_part 112 = .ok (.iinc 6 1, 3) := by decide +kernel
theorem dX13_part_115 : decode cX13_part 115 = .ok (.aload_n 0, 1) := by decide +kernel
theorem dX13_part_116 : decode cX13_part 116 = .ok (.bipush 11, 2) := by decide +kernel
theorem dX13_part_118 : decode cX13_part 118 = .ok (.iload 7, 2) := by decide +kernel
theorem dX13_part_120 : decode cX13_part 120 = .ok (.iload_n 3, 1) := by decide +kernel
theorem dX13_part_121 : decode cX13_part 121 = .ok (.iload 9, 2) := by decide +kernel
theorem dX13_part_123 : decode cX13_part 123 = .ok (.invokevirtual 418, 3) := by decide +kernel
theorem dX13_part_126 : decode cX13_part 126 = .ok (.aload_n 0, 1) := by decide +kernel
theorem dX13_part_127 : decode cX13_part 127 = .ok (.bipush 8, 2) := by decide +kernel
theorem dX13_part_129 : decode cX13_part 129 = .ok (.bipush 11, 2) := by decide +kernel
theorem dX13_part_131 : decode cX13_part 131 = .ok (.invokevirtual 196, 3) := by decide +kernel
theorem dX13_part_134 : decode cX13_part 134 = .ok (.aload_n 0, 1) := by decide +kernel
theorem dX13_part_135 : decode cX13_part 135 = .ok (.bipush 9, 2) := by decide +kernel
theorem dX13_part_137 : decode cX13_part 137 = .ok (.bipush 11, 2) := by decide +kernel
theorem dX13_part_139 : decode cX13_part 139 = .ok (.invokevirtual 196, 3) := by decide +kernel
theorem dX13_part_142 : decode cX13_part 142 = .ok (.aload_n 0, 1) := by decide +kernel
theorem dX13_part_143 : decode cX13_part 143 = .ok (.iload_n 1, 1) := by decide +kernel
theorem dX13_part_144 : decode cX13_part 144 = .ok (.bipush 8, 2) := by decide +kernel
theorem dX13_part_146 : decode cX13_part 146 = .ok (.invokevirtual 339, 3) := by decide +kernel
theorem dX13_part_149 : decode cX13_part 149 = .ok (.iconst (-1), 1) := by decide +kernel
theorem dX13_part_150 : decode cX13_part 150 = .ok (.if_icmp .ne 7, 3) := by decide +kernel
theorem dX13_part_153 : decode cX13_part 153 = .ok (.iconst 1, 1) := by decide +kernel
theorem dX13_part_154 : decode cX13_part 154 = .ok (.goto 4, 3) := by decide +kernel
theorem dX13_part_157 : decode cX13_part 157 = .ok (.iconst 0, 1) := by decide +kernel
theorem dX13_part_158 : decode cX13_part 158 = .ok (.istore 10, 2) := by decide +kernel
theorem dX13_part_160 : decode cX13_part 160 = .ok (.aload_n 0, 1) := by decide +kernel
theorem dX13_part_161 : decode cX13_part 161 = .ok (.iload_n 2, 1) := by decide +kernel
theorem dX13_part_162 : decode cX13_part 162 = .ok (.bipush 9, 2) := by decide +kernel
theorem dX13_part_164 : decode cX13_part 164 = .ok (.invokevirtual 339, 3) := by decide +kernel
theorem dX13_part_167 : decode cX13_part 167 = .ok (.iconst (-1), 1) := by decide +kernel
theorem dX13_part_168 : decode cX13_part 168 = .ok (.if_icmp .ne 7, 3) := by decide +kernel
theorem dX13_part_171 : decode cX13_part 171 = .ok (.iconst 1, 1) := by decide +kernel
theorem dX13_part_172 : decode cX13_part 172 = .ok (.goto 4, 3) := by decide +kernel
theorem dX13_part_175 : decode cX13_part 175 = .ok (.iconst 0, 1) := by decide +kernel
theorem dX13_part_176 : decode cX13_part 176 = .ok (.istore 11, 2) := by decide +kernel
theorem dX13_part_178 : decode cX13_part 178 = .ok (.iload 10, 2) := by decide +kernel
theorem dX13_part_180 : decode cX13_part 180 = .ok (.iload 11, 2) := by decide +kernel
theorem dX13_part_182 : decode cX13_part 182 = .ok (.if_icmp .ne 23, 3) := by decide +kernel
theorem dX13_part_185 : decode cX13_part 185 = .ok (.iload 10, 2) := by decide +kernel
theorem dX13_part_187 : decode cX13_part 187 = .ok (.ifCond .eq 29, 3) := by decide +kernel
theorem dX13_part_190 : decode cX13_part 190 = .ok (.aload_n 0, 1) := by decide +kernel
theorem dX13_part_191 : decode cX13_part 191 = .ok (.bipush 8, 2) := by decide +kernel
theorem dX13_part_193 : decode cX13_part 193 = .ok (.bipush 9, 2) := by decide +kernel
theorem dX13_part_195 : decode cX13_part 195 = .ok (.iconst 0, 1) := by decide +kernel
theorem dX13_part_196 : decode cX13_part 196 = .ok (.invokevirtual 333, 3) := by decide +kernel
theorem dX13_part_199 : decode cX13_part 199 = .ok (.ifCond .eq 6, 3) := by decide +kernel
theorem dX13_part_202 : decode cX13_part 202 = .ok (.goto 14, 3) := by decide +kernel
theorem dX13_part_205 : decode cX13_part 205 = .ok (.aload_n 0, 1) := by decide +kernel
theorem dX13_part_206 : decode cX13_part 206 = .ok (.iload 5, 2) := by decide +kernel
theorem dX13_part_208 : decode cX13_part 208 = .ok (.bipush 11, 2) := by decide +kernel
theorem dX13_part_210 : decode cX13_part 210 = .ok (.invokevirtual 196, 3) := by decide +kernel
theorem dX13_part_213 : decode cX13_part 213 = .ok (.iload 6, 2) := by decide +kernel
theorem dX13_part_215 : decode cX13_part 215 = .ok (.ireturn, 1) := by decide +kernel
theorem dX13_part_216 : decode cX13_part 216 = .ok (.iinc 9 1, 3) := by decide +kernel
theorem dX13_part_219 : decode cX13_part 219 = .ok (.goto (-125), 3) := by decide +kernel
theorem dX13_part_222 : decode cX13_part 222 = .ok (.iinc 7 1, 3) := by decide +kernel
theorem dX13_part_225 : decode cX13_part 225 = .ok (.goto (-169), 3) := by decide +kernel
theorem dX13_part_228 : decode cX13_part 228 = .ok (.iconst (-1), 1) := by decide +kernel
theorem dX13_part_229 : decode cX13_part 229 = .ok (.ireturn, 1) := by decide +kernel
theorem dX13_list_0 : decode cX13_list 0 = .ok (.aload_n 0, 1) := by decide +kernel
theorem dX13_list_1 : decode cX13_list 1 = .ok (.iload_n 1, 1) := by decide +kernel
theorem dX13_list_2 : decode cX13_list 2 = .ok (.iload_n 2, 1) := by decide +kernel
theorem dX13_list_3 : decode cX13_list 3 = .ok (.iload_n 3, 1) := by decide +kernel
theorem dX13_list_4 : decode cX13_list 4 = .ok (.invokevirtual 176, 3) := by decide +kernel
theorem dX13_list_7 : decode cX13_list 7 = .ok (.iload 4, 2) := by decide +kernel
theorem dX13_list_9 : decode cX13_list 9 = .ok (.istore 5, 2) := by decide +kernel
theorem dX13_list_11 : decode cX13_list 11 = .ok (.iload_n 2, 1) := by decide +kernel
theorem dX13_list_12 : decode cX13_list 12 = .ok (.iconst 1, 1) := by decide +kernel
theorem dX13_list_13 : decode cX13_list 13 = .ok (.isub, 1) := by decide +kernel
theorem dX13_list_14 : decode cX13_list 14 = .ok (.istore 6, 2) := by decide +kernel
theorem dX13_list_16 : decode cX13_list 16 = .ok (.iload 6, 2) := by decide +kernel
theorem dX13_list_18 : decode cX13_list 18 = .ok (.ifCond .lt 54, 3) := by decide +kernel
theorem dX13_list_21 : decode cX13_list 21 = .ok (.iload_n 3, 1) := by decide +kernel
theorem dX13_list_22 : decode cX13_list 22 = .ok (.iconst 1, 1) := by decide +kernel
theorem dX13_list_23 : decode cX13_list 23 = .ok (.isub, 1) := by decide +kernel
theorem dX13_list_24 : decode cX13_list 24 = .ok (.istore 7, 2) := by decide +kernel
theorem dX13_list_26 : decode cX13_list 26 = .ok (.iload 7, 2) := by decide +kernel
theorem dX13_list_28 : decode cX13_list 28 = .ok (.ifCond .lt 38, 3) := by decide +kernel
theorem dX13_list_31 : decode cX13_list 31 = .ok (.aload_n 0, 1) := by decide +kernel
theorem dX13_list_32 : decode cX13_list 32 = .ok (.getfield 16, 3) := by decide +kernel
theorem dX13_list_35 : decode cX13_list 35 = .ok (.iload_n 1, 1) := by decide +kernel
theorem dX13_list_36 : decode cX13_list 36 = .ok (.iload 6, 2) := by decide +kernel
theorem dX13_list_38 : decode cX13_list 38 = .ok (.iload 7, 2) := by decide +kernel
theorem dX13_list_40 : decode cX13_list 40 = .ok (.invokestatic 120, 3) := by decide +kernel
theorem dX13_list_43 : decode cX13_list 43 = .ok (.getstatic 422, 3) := by decide +kernel
theorem dX13_list_46 : decode cX13_list 46 = .ok (.iload 5, 2) := by decide +kernel
theorem dX13_list_48 : decode cX13_list 48 = .ok (.bipush 6, 2) := by decide +kernel
theorem dX13_list_50 : decode cX13_list 50 = .ok (.irem, 1) := by decide +kernel
theorem dX13_list_51 : decode cX13_list 51 = .ok (.laload, 1) := by decide +kernel
theorem dX13_list_52 : decode cX13_list 52 = .ok (.lastore, 1) := by decide +kernel
theorem dX13_list_53 : decode cX13_list 53 = .ok (.iload 5, 2) := by decide +kernel
theorem dX13_list_55 : decode cX13_list 55 = .ok (.bipush 6, 2) := by decide +kernel
theorem dX13_list_57 : decode cX13_list 57 = .ok (.idiv, 1) := by decide +kernel
theorem dX13_list_58 : decode cX13_list 58 = .ok (.istore 5, 2) := by decide +kernel
theorem dX13_list_60 : decode cX13_list 60 = .ok (.iinc 7 (-1), 3) := by decide +kernel
theorem dX13_list_63 : decode cX13_list 63 = .ok (.goto (-37), 3) := by decide +kernel
theorem dX13_list_66 : decode cX13_list 66 = .ok (.iinc 6 (-1), 3) := by decide +kernel
theorem dX13_list_69 : decode cX13_list 69 = .ok (.goto (-53), 3) := by decide +kernel
theorem dX13_list_72 : decode cX13_list 72 = .ok (.return_, 1) := by decide +kernel
theorem dX13_count_0 : decode cX13_count 0 = .ok (.iload_n 1, 1) := by decide +kernel
theorem dX13_count_1 : decode cX13_count 1 = .ok (.ifCond .ne 8, 3) := by decide +kernel
theorem dX13_count_4 : decode cX13_count 4 = .ok (.aload_n 0, 1) := by decide +kernel
theorem dX13_count_5 : decode cX13_count 5 = .ok (.getfield 239, 3) := by decide +kernel
theorem dX13_count_8 : decode cX13_count 8 = .ok (.ireturn, 1) := by decide +kernel
theorem dX13_count_9 : decode cX13_count 9 = .ok (.iconst 0, 1) := by decide +kernel
theorem dX13_count_10 : decode cX13_count 10 = .ok (.istore_n 2, 1) := by decide +kernel
theorem dX13_count_11 : decode cX13_count 11 = .ok (.iconst 0, 1) := by decide +kernel
theorem dX13_count_12 : decode cX13_count 12 = .ok (.istore_n 3, 1) := by decide +kernel
theorem dX13_count_13 : decode cX13_count 13 = .ok (.iload_n 3, 1) := by decide +kernel
theorem dX13_count_14 : decode cX13_count 14 = .ok (.bipush 8, 2) := by decide +kernel
theorem dX13_count_16 : decode cX13_count 16 = .ok (.if_icmp .ge 18, 3) := by decide +kernel
theorem dX13_count_19 : decode cX13_count 19 = .ok (.iload_n 2, 1) := by decide +kernel
theorem dX13_count_20 : decode cX13_count 20 = .ok (.aload_n 0, 1) := by decide +kernel
theorem dX13_count_21 : decode cX13_count 21 = .ok (.getfield 29, 3) := by decide +kernel
theorem dX13_count_24 : decode cX13_count 24 = .ok (.iload_n 3, 1) := by decide +kernel
theorem dX13_count_25 : decode cX13_count 25 = .ok (.iaload, 1) := by decide +kernel
theorem dX13_count_26 : decode cX13_count 26 = .ok (.iadd, 1) := by decide +kernel
theorem dX13_count_27 : decode cX13_count 27 = .ok (.istore_n 2, 1) := by decide +kernel
theorem dX13_count_28 : decode cX13_count 28 = .ok (.iinc 3 1, 3) := by decide +kernel
theorem dX13_count_31 : decode cX13_count 31 = .ok (.goto (-18), 3) := by decide +kernel
theorem dX13_count_34 : decode cX13_count 34 = .ok (.iload_n 1, 1) := by decide +kernel
theorem dX13_count_35 : decode cX13_count 35 = .ok (.iconst 1, 1) := by decide +kernel
theorem dX13_count_36 : decode cX13_count 36 = .ok (.if_icmp .ne 7, 3) := by decide +kernel
theorem dX13_count_39 : decode cX13_count 39 = .ok (.iload_n 2, 1) := by decide +kernel
theorem dX13_count_40 : decode cX13_count 40 = .ok (.goto 4, 3) := by decide +kernel
theorem dX13_count_43 : decode cX13_count 43 = .ok (.iconst (-1), 1) := by decide +kernel
theorem dX13_count_44 : decode cX13_count 44 = .ok (.ireturn, 1) := by decide +kernel
theorem dJ11_isValidCodePoint_9a6ad_0 : decode cJ11_isValidCodePoint_9a6ad 0 = .ok (.iload_n 0, 1) := by decide +kernel
theorem dJ11_isValidCodePoint_9a6ad_1 : decode cJ11_isValidCodePoint_9a6ad 1 = .ok (.bipush 16, 2) := by decide +kernel
theorem dJ11_isValidCodePoint_9a6ad_3 : decode cJ11_isValidCodePoint_9a6ad 3 = .ok (.iushr, 1) := by decide +kernel
theorem dJ11_isValidCodePoint_9a6ad_4 : decode cJ11_isValidCodePoint_9a6ad 4 = .ok (.istore_n 1, 1) := by decide +kernel
theorem dJ11_isValidCodePoint_9a6ad_5 : decode cJ11_isValidCodePoint_9a6ad 5 = .ok (.iload_n 1, 1) := by decide +kernel
theorem dJ11_isValidCodePoint_9a6ad_6 : decode cJ11_isValidCodePoint_9a6ad 6 = .ok (.bipush 17, 2) := by decide +kernel
theorem dJ11_isValidCodePoint_9a6ad_8 : decode cJ11_isValidCodePoint_9a6ad 8 = .ok (.if_icmp .ge 7, 3) := by decide +kernel
theorem dJ11_isValidCodePoint_9a6ad_11 : decode cJ11_isValidCodePoint_9a6ad 11 = .ok (.iconst 1, 1) := by decide +kernel
theorem dJ11_isValidCodePoint_9a6ad_12 : decode cJ11_isValidCodePoint_9a6ad 12 = .ok (.goto 4, 3) := by decide +kernel
theorem dJ11_isValidCodePoint_9a6ad_15 : decode cJ11_isValidCodePoint_9a6ad 15 = .ok (.iconst 0, 1) := by decide +kernel
theorem dJ11_isValidCodePoint_9a6ad_16 : decode cJ11_isValidCodePoint_9a6ad 16 = .ok (.ireturn, 1) := by decide +kernel
theorem dJ11_highSurrogate_5068e_0 : decode cJ11_highSurrogate_5068e 0 = .ok (.iload_n 0, 1) := by decide +kernel
theorem dJ11_highSurrogate_5068e_1 : decode cJ11_highSurrogate_5068e 1 = .ok (.bipush 10, 2) := by decide +kernel
theorem dJ11_highSurrogate_5068e_3 : decode cJ11_highSurrogate_5068e 3 = .ok (.iushr, 1) := by decide +kernel
theorem dJ11_highSurrogate_5068e_4 : decode cJ11_highSurrogate_5068e 4 = .ok (.ldc 110, 2) := by decide +kernel
theorem dJ11_highSurrogate_5068e_6 : decode cJ11_highSurrogate_5068e 6 = .ok (.iadd, 1) := by decide +kernel
theorem dJ11_highSurrogate_5068e_7 : decode cJ11_highSurrogate_5068e 7 = .ok (.i2c, 1) := by decide +kernel
theorem dJ11_highSurrogate_5068e_8 : decode cJ11_highSurrogate_5068e 8 = .ok (.ireturn, 1) := by decide +kernel
theorem dJ11_lowSurrogate_5068e_0 : decode cJ11_lowSurrogate_5068e 0 = .ok (.iload_n 0, 1) := by decide +kernel
theorem dJ11_lowSurrogate_5068e_1 : decode cJ11_lowSurrogate_5068e 1 = .ok (.sipush 1023, 3) := by decide +kernel
theorem dJ11_lowSurrogate_5068e_4 : decode cJ11_lowSurrogate_5068e 4 = .ok (.iand, 1) := by decide +kernel
theorem dJ11_lowSurrogate_5068e_5 : decode cJ11_lowSurrogate_5068e 5 = .ok (.ldc 76, 2) := by decide +kernel
theorem dJ11_lowSurrogate_5068e_7 : decode cJ11_lowSurrogate_5068e 7 = .ok (.iadd, 1) := by decide +kernel
theorem dJ11_lowSurrogate_5068e_8 : decode cJ11_lowSurrogate_5068e 8 = .ok (.i2c, 1) := by decide +kernel
theorem dJ11_lowSurrogate_5068e_9 : decode cJ11_lowSurrogate_5068e 9 = .ok (.ireturn, 1) := by decide +kernel
theorem dJ9_max_7cf53_0 : decode cJ9_max_7cf53 0 = .ok (.iload_n 0, 1) := by decide +kernel
theorem dJ9_max_7cf53_1 : decode cJ9_max_7cf53 1 = .ok (.iload_n 1, 1) := by decide +kernel
theorem dJ9_max_7cf53_2 : decode cJ9_max_7cf53 2 = .ok (.if_icmp .lt 7, 3) := by decide +kernel
theorem dJ9_max_7cf53_5 : decode cJ9_max_7cf53 5 = .ok (.iload_n 0, 1) := by decide +kernel
theorem dJ9_max_7cf53_6 : decode cJ9_max_7cf53 6 = .ok (.goto 4, 3) := by decide +kernel
theorem dJ9_max_7cf53_9 : decode cJ9_max_7cf53 9 = .ok (.iload_n 1, 1) := by decide +kernel
theorem dJ9_max_7cf53_10 : decode cJ9_max_7cf53 10 = .ok (.ireturn, 1) := by decide +kernel
theorem dJ9_min_7cf53_0 : decode cJ9_min_7cf53 0 = .ok (.iload_n 0, 1) := by decide +kernel
theorem dJ9_min_7cf53_1 : decode cJ9_min_7cf53 1 = .ok (.iload_n 1, 1) := by decide +kernel
theorem dJ9_min_7cf53_2 : decode cJ9_min_7cf53 2 = .ok (.if_icmp .gt 7, 3) := by decide +kernel
theorem dJ9_min_7cf53_5 : decode cJ9_min_7cf53 5 = .ok (.iload_n 0, 1) := by decide +kernel
theorem dJ9_min_7cf53_6 : decode cJ9_min_7cf53 6 = .ok (.goto 4, 3) := by decide +kernel
theorem dJ9_min_7cf53_9 : decode cJ9_min_7cf53 9 = .ok (.iload_n 1, 1) := by decide +kernel
theorem dJ9_min_7cf53_10 : decode cJ9_min_7cf53 10 = .ok (.ireturn, 1) := by decide +kernel
theorem dJ0_length_8abf5_0 : decode cJ0_length_8abf5 0 = .ok (.aload_n 0, 1) := by decide +kernel
theorem dJ0_length_8abf5_1 : decode cJ0_length_8abf5 1 = .ok (.getfield 9, 3) := by decide +kernel
theorem dJ0_length_8abf5_4 : decode cJ0_length_8abf5 4 = .ok (.arraylength, 1) := by decide +kernel
theorem dJ0_length_8abf5_5 : decode cJ0_length_8abf5 5 = .ok (.aload_n 0, 1) := by decide +kernel
theorem dJ0_length_8abf5_6 : decode cJ0_length_8abf5 6 = .ok (.invokevirtual 335, 3) := by decide +kernel
theorem dJ0_length_8abf5_9 : decode cJ0_length_8abf5 9 = .ok (.ishr, 1) := by decide +kernel
theorem dJ0_length_8abf5_10 : decode cJ0_length_8abf5 10 = .ok (.ireturn, 1) := by decide +kernel
theorem dJ0_charAt_5068e_0 : decode cJ0_charAt_5068e 0 = .ok (.aload_n 0, 1) := by decide +kernel
theorem dJ0_charAt_5068e_1 : decode cJ0_charAt_5068e 1 = .ok (.invokevirtual 492, 3) := by decide +kernel
theorem dJ0_charAt_5068e_4 : decode cJ0_charAt_5068e 4 = .ok (.ifCond .eq 12, 3) := by decide +kernel
theorem dJ0_charAt_5068e_7 : decode cJ0_charAt_5068e 7 = .ok (.aload_n 0, 1) := by decide +kernel
theorem dJ0_charAt_5068e_8 : decode cJ0_charAt_5068e 8 = .ok (.getfield 9, 3) := by decide +kernel
theorem dJ0_charAt_5068e_11 : decode cJ0_charAt_5068e 11 = .ok (.iload_n 1, 1) := by decide +kernel
theorem dJ0_charAt_5068e_12 : decode cJ0_charAt_5068e 12 = .ok (.invokestatic 495, 3) := by decide +kernel
theorem dJ0_charAt_5068e_15 : decode cJ0_charAt_5068e 15 = .ok (.ireturn, 1) := by decide +kernel
theorem dJ0_charAt_5068e_16 : decode cJ0_charAt_5068e 16 = .ok (.aload_n 0, 1) := by decide +kernel
theorem dJ0_charAt_5068e_17 : decode cJ0_charAt_5068e 17 = .ok (.getfield 9, 3) := by decide +kernel
theorem dJ0_charAt_5068e_20 : decode cJ0_charAt_5068e 20 = .ok (.iload_n 1, 1) := by decide +kernel
theorem dJ0_charAt_5068e_21 : decode cJ0_charAt_5068e 21 = .ok (.invokestatic 498, 3) := by decide +kernel
theorem dJ0_charAt_5068e_24 : decode cJ0_charAt_5068e 24 = .ok (.ireturn, 1) := by decide +kernel
theorem dJ0_indexOf_7cf53_0 : decode cJ0_indexOf_7cf53 0 = .ok (.aload_n 0, 1) := by decide +kernel
theorem dJ0_indexOf_7cf53_1 : decode cJ0_indexOf_7cf53 1 = .ok (.invokevirtual 492, 3) := by decide +kernel
theorem dJ0_indexOf_7cf53_4 : decode cJ0_indexOf_7cf53 4 = .ok (.ifCond .eq 19, 3) := by decide +kernel
theorem dJ0_indexOf_7cf53_7 : decode cJ0_indexOf_7cf53 7 = .ok (.aload_n 0, 1) := by decide +kernel
theorem dJ0_indexOf_7cf53_8 : decode cJ0_indexOf_7cf53 8 = .ok (.getfield 9, 3) := by decide +kernel
theorem dJ0_indexOf_7cf53_11 : decode cJ0_indexOf_7cf53 11 = .ok (.iload_n 1, 1) := by decide +kernel
theorem dJ0_indexOf_7cf53_12 : decode cJ0_indexOf_7cf53 12 = .ok (.iload_n 2, 1) := by decide +kernel
theorem dJ0_indexOf_7cf53_13 : decode cJ0_indexOf_7cf53 13 = .ok (.aload_n 0, 1) := by decide +kernel
theorem dJ0_indexOf_7cf53_14 : decode cJ0_indexOf_7cf53 14 = .ok (.invokevirtual 505, 3) := by decide +kernel
theorem dJ0_indexOf_7cf53_17 : decode cJ0_indexOf_7cf53 17 = .ok (.invokestatic 637, 3) := by decide +kernel
theorem dJ0_indexOf_7cf53_20 : decode cJ0_indexOf_7cf53 20 = .ok (.goto 16, 3) := by decide +kernel
theorem dJ0_indexOf_7cf53_23 : decode cJ0_indexOf_7cf53 23 = .ok (.aload_n 0, 1) := by decide +kernel
theorem dJ0_indexOf_7cf53_24 : decode cJ0_indexOf_7cf53 24 = .ok (.getfield 9, 3) := by decide +kernel
theorem dJ0_indexOf_7cf53_27 : decode cJ0_indexOf_7cf53 27 = .ok (.iload_n 1, 1) := by decide +kernel
theorem dJ0_indexOf_7cf53_28 : decode cJ0_indexOf_7cf53 28 = .ok (.iload_n 2, 1) := by decide +kernel
theorem dJ0_indexOf_7cf53_29 : decode cJ0_indexOf_7cf53 29 = .ok (.aload_n 0, 1) := by decide +kernel
theorem dJ0_indexOf_7cf53_30 : decode cJ0_indexOf_7cf53 30 = .ok (.invokevirtual 505, 3) := by decide +kernel
theorem dJ0_indexOf_7cf53_33 : decode cJ0_indexOf_7cf53 33 = .ok (.invokestatic 640, 3) := by decide +kernel
theorem dJ0_indexOf_7cf53_36 : decode cJ0_indexOf_7cf53 36 = .ok (.ireturn, 1) := by decide +kernel
theorem dJ0_coder_7d493_0 : decode cJ0_coder_7d493 0 = .ok (.getstatic 38, 3) := by decide +kernel
theorem dJ0_coder_7d493_3 : decode cJ0_coder_7d493 3 = .ok (.ifCond .eq 10, 3) := by decide +kernel
theorem dJ0_coder_7d493_6 : decode cJ0_coder_7d493 6 = .ok (.aload_n 0, 1) := by decide +kernel
theorem dJ0_coder_7d493_7 : decode cJ0_coder_7d493 7 = .ok (.getfield 15, 3) := by decide +kernel
theorem dJ0_coder_7d493_10 : decode cJ0_coder_7d493 10 = .ok (.goto 4, 3) := by decide +kernel
theorem dJ0_coder_7d493_13 : decode cJ0_coder_7d493 13 = .ok (.iconst 1, 1) := by decide +kernel
theorem dJ0_coder_7d493_14 : decode cJ0_coder_7d493 14 = .ok (.ireturn, 1) := by decide +kernel
theorem dJ0_isLatin1_aae02_0 : decode cJ0_isLatin1_aae02 0 = .ok (.getstatic 38, 3) := by decide +kernel
theorem dJ0_isLatin1_aae02_3 : decode cJ0_isLatin1_aae02 3 = .ok (.ifCond .eq 14, 3) := by decide +kernel
theorem dJ0_isLatin1_aae02_6 : decode cJ0_isLatin1_aae02 6 = .ok (.aload_n 0, 1) := by decide +kernel
theorem dJ0_isLatin1_aae02_7 : decode cJ0_isLatin1_aae02 7 = .ok (.getfield 15, 3) := by decide +kernel
theorem dJ0_isLatin1_aae02_10 : decode cJ0_isLatin1_aae02 10 = .ok (.ifCond .ne 7, 3) := by decide +kernel
theorem dJ0_isLatin1_aae02_13 : decode cJ0_isLatin1_aae02 13 = .ok (.iconst 1, 1) := by decide +kernel
theorem dJ0_isLatin1_aae02_14 : decode cJ0_isLatin1_aae02 14 = .ok (.goto 4, 3) := by decide +kernel
theorem dJ0_isLatin1_aae02_17 : decode cJ0_isLatin1_aae02 17 = .ok (.iconst 0, 1) := by decide +kernel
theorem dJ0_isLatin1_aae02_18 : decode cJ0_isLatin1_aae02 18 = .ok (.ireturn, 1) := by decide +kernel
theorem dJ0_checkIndex_df160_0 : decode cJ0_checkIndex_df160 0 = .ok (.iload_n 0, 1) := by decide +kernel
theorem dJ0_checkIndex_df160_1 : decode cJ0_checkIndex_df160 1 = .ok (.iload_n 1, 1) := by decide +kernel
theorem dJ0_checkIndex_df160_2 : decode cJ0_checkIndex_df160 2 = .ok (.getstatic 1053, 3) := by decide +kernel
theorem dJ0_checkIndex_df160_5 : decode cJ0_checkIndex_df160 5 = .ok (.invokestatic 1059, 3) := by decide +kernel
theorem dJ0_checkIndex_df160_8 : decode cJ0_checkIndex_df160 8 = .ok (.pop, 1) := by decide +kernel
theorem dJ0_checkIndex_df160_9 : decode cJ0_checkIndex_df160 9 = .ok (.return_, 1) := by decide +kernel
theorem dJ0_checkBoundsBeginEnd_23922_0 : decode cJ0_checkBoundsBeginEnd_23922 0 = .ok (.iload_n 0, 1) := by decide +kernel
theorem dJ0_checkBoundsBeginEnd_23922_1 : decode cJ0_checkBoundsBeginEnd_23922 1 = .ok (.iload_n 1, 1) := by decide +kernel
theorem dJ0_checkBoundsBeginEnd_23922_2 : decode cJ0_checkBoundsBeginEnd_23922 2 = .ok (.iload_n 2, 1) := by decide +kernel
theorem dJ0_checkBoundsBeginEnd_23922_3 : decode cJ0_checkBoundsBeginEnd_23922 3 = .ok (.getstatic 1053, 3) := by decide +kernel
theorem dJ0_checkBoundsBeginEnd_23922_6 : decode cJ0_checkBoundsBeginEnd_23922 6 = .ok (.invokestatic 1062, 3) := by decide +kernel
theorem dJ0_checkBoundsBeginEnd_23922_9 : decode cJ0_checkBoundsBeginEnd_23922 9 = .ok (.pop, 1) := by decide +kernel
theorem dJ0_checkBoundsBeginEnd_23922_10 : decode cJ0_checkBoundsBeginEnd_23922 10 = .ok (.return_, 1) := by decide +kernel
theorem dJ1_charAt_3b067_0 : decode cJ1_charAt_3b067 0 = .ok (.iload_n 1, 1) := by decide +kernel
theorem dJ1_charAt_3b067_1 : decode cJ1_charAt_3b067 1 = .ok (.aload_n 0, 1) := by decide +kernel
theorem dJ1_charAt_3b067_2 : decode cJ1_charAt_3b067 2 = .ok (.arraylength, 1) := by decide +kernel
theorem dJ1_charAt_3b067_3 : decode cJ1_charAt_3b067 3 = .ok (.invokestatic 9, 3) := by decide +kernel
theorem dJ1_charAt_3b067_6 : decode cJ1_charAt_3b067 6 = .ok (.aload_n 0, 1) := by decide +kernel
theorem dJ1_charAt_3b067_7 : decode cJ1_charAt_3b067 7 = .ok (.iload_n 1, 1) := by decide +kernel
theorem dJ1_charAt_3b067_8 : decode cJ1_charAt_3b067 8 = .ok (.baload, 1) := by decide +kernel
theorem dJ1_charAt_3b067_9 : decode cJ1_charAt_3b067 9 = .ok (.sipush 255, 3) := by decide +kernel
theorem dJ1_charAt_3b067_12 : decode cJ1_charAt_3b067 12 = .ok (.iand, 1) := by decide +kernel
theorem dJ1_charAt_3b067_13 : decode cJ1_charAt_3b067 13 = .ok (.i2c, 1) := by decide +kernel
theorem dJ1_charAt_3b067_14 : decode cJ1_charAt_3b067 14 = .ok (.ireturn, 1) := by decide +kernel
theorem dJ1_canEncode_9a6ad_0 : decode cJ1_canEncode_9a6ad 0 = .ok (.iload_n 0, 1) := by decide +kernel
theorem dJ1_canEncode_9a6ad_1 : decode cJ1_canEncode_9a6ad 1 = .ok (.ifCond .lt 14, 3) := by decide +kernel
theorem dJ1_canEncode_9a6ad_4 : decode cJ1_canEncode_9a6ad 4 = .ok (.iload_n 0, 1) := by decide +kernel
theorem dJ1_canEncode_9a6ad_5 : decode cJ1_canEncode_9a6ad 5 = .ok (.sipush 255, 3) := by decide +kernel
theorem dJ1_canEncode_9a6ad_8 : decode cJ1_canEncode_9a6ad 8 = .ok (.if_icmp .gt 7, 3) := by decide +kernel
theorem dJ1_canEncode_9a6ad_11 : decode cJ1_canEncode_9a6ad 11 = .ok (.iconst 1, 1) := by decide +kernel
theorem dJ1_canEncode_9a6ad_12 : decode cJ1_canEncode_9a6ad 12 = .ok (.goto 4, 3) := by decide +kernel
theorem dJ1_canEncode_9a6ad_15 : decode cJ1_canEncode_9a6ad 15 = .ok (.iconst 0, 1) := by decide +kernel
theorem dJ1_canEncode_9a6ad_16 : decode cJ1_canEncode_9a6ad 16 = .ok (.ireturn, 1) := by decide +kernel
theorem dJ1_indexOf_4cfef_0 : decode cJ1_indexOf_4cfef 0 = .ok (.iload_n 1, 1) := by decide +kernel
theorem dJ1_indexOf_4cfef_1 : decode cJ1_indexOf_4cfef 1 = .ok (.invokestatic 88, 3) := by decide +kernel
theorem dJ1_indexOf_4cfef_4 : decode cJ1_indexOf_4cfef 4 = .ok (.ifCond .ne 5, 3) := by decide +kernel
theorem dJ1_indexOf_4cfef_7 : decode cJ1_indexOf_4cfef 7 = .ok (.iconst (-1), 1) := by decide +kernel
theorem dJ1_indexOf_4cfef_8 : decode cJ1_indexOf_4cfef 8 = .ok (.ireturn, 1) := by decide +kernel
theorem dJ1_indexOf_4cfef_9 : decode cJ1_indexOf_4cfef 9 = .ok (.iload_n 2, 1) := by decide +kernel
theorem dJ1_indexOf_4cfef_10 : decode cJ1_indexOf_4cfef 10 = .ok (.iconst 0, 1) := by decide +kernel
theorem dJ1_indexOf_4cfef_11 : decode cJ1_indexOf_4cfef 11 = .ok (.invokestatic 92, 3) := by decide +kernel
theorem dJ1_indexOf_4cfef_14 : decode cJ1_indexOf_4cfef 14 = .ok (.istore_n 2, 1) := by decide +kernel
theorem dJ1_indexOf_4cfef_15 : decode cJ1_indexOf_4cfef 15 = .ok (.iload_n 3, 1) := by decide +kernel
theorem dJ1_indexOf_4cfef_16 : decode cJ1_indexOf_4cfef 16 = .ok (.aload_n 0, 1) := by decide +kernel
theorem dJ1_indexOf_4cfef_17 : decode cJ1_indexOf_4cfef 17 = .ok (.arraylength, 1) := by decide +kernel
theorem dJ1_indexOf_4cfef_18 : decode cJ1_indexOf_4cfef 18 = .ok (.invokestatic 38, 3) := by decide +kernel
theorem dJ1_indexOf_4cfef_21 : decode cJ1_indexOf_4cfef 21 = .ok (.istore_n 3, 1) := by decide +kernel
theorem dJ1_indexOf_4cfef_22 : decode cJ1_indexOf_4cfef 22 = .ok (.iload_n 2, 1) := by decide +kernel
theorem dJ1_indexOf_4cfef_23 : decode cJ1_indexOf_4cfef 23 = .ok (.iload_n 3, 1) := by decide +kernel
theorem dJ1_indexOf_4cfef_24 : decode cJ1_indexOf_4cfef 24 = .ok (.if_icmp .lt 5, 3) := by decide +kernel
theorem dJ1_indexOf_4cfef_27 : decode cJ1_indexOf_4cfef 27 = .ok (.iconst (-1), 1) := by decide +kernel
theorem dJ1_indexOf_4cfef_28 : decode cJ1_indexOf_4cfef 28 = .ok (.ireturn, 1) := by decide +kernel
theorem dJ1_indexOf_4cfef_29 : decode cJ1_indexOf_4cfef 29 = .ok (.aload_n 0, 1) := by decide +kernel
theorem dJ1_indexOf_4cfef_30 : decode cJ1_indexOf_4cfef 30 = .ok (.iload_n 1, 1) := by decide +kernel
theorem dJ1_indexOf_4cfef_31 : decode cJ1_indexOf_4cfef 31 = .ok (.iload_n 2, 1) := by decide +kernel
theorem dJ1_indexOf_4cfef_32 : decode cJ1_indexOf_4cfef 32 = .ok (.iload_n 3, 1) := by decide +kernel
theorem dJ1_indexOf_4cfef_33 : decode cJ1_indexOf_4cfef 33 = .ok (.invokestatic 95, 3) := by decide +kernel
theorem dJ1_indexOf_4cfef_36 : decode cJ1_indexOf_4cfef 36 = .ok (.ireturn, 1) := by decide +kernel
theorem dJ1_indexOfChar_4cfef_0 : decode cJ1_indexOfChar_4cfef 0 = .ok (.iload_n 1, 1) := by decide +kernel
theorem dJ1_indexOfChar_4cfef_1 : decode cJ1_indexOfChar_4cfef 1 = .ok (.i2b, 1) := by decide +kernel
theorem dJ1_indexOfChar_4cfef_2 : decode cJ1_indexOfChar_4cfef 2 = .ok (.istore 4, 2) := by decide +kernel
theorem dJ1_indexOfChar_4cfef_4 : decode cJ1_indexOfChar_4cfef 4 = .ok (.iload_n 2, 1) := by decide +kernel
theorem dJ1_indexOfChar_4cfef_5 : decode cJ1_indexOfChar_4cfef 5 = .ok (.istore 5, 2) := by decide +kernel
theorem dJ1_indexOfChar_4cfef_7 : decode cJ1_indexOfChar_4cfef 7 = .ok (.iload 5, 2) := by decide +kernel
theorem dJ1_indexOfChar_4cfef_9 : decode cJ1_indexOfChar_4cfef 9 = .ok (.iload_n 3, 1) := by decide +kernel
theorem dJ1_indexOfChar_4cfef_10 : decode cJ1_indexOfChar_4cfef 10 = .ok (.if_icmp .ge 21, 3) := by decide +kernel
theorem dJ1_indexOfChar_4cfef_13 : decode cJ1_indexOfChar_4cfef 13 = .ok (.aload_n 0, 1) := by decide +kernel
theorem dJ1_indexOfChar_4cfef_14 : decode cJ1_indexOfChar_4cfef 14 = .ok (.iload 5, 2) := by decide +kernel
theorem dJ1_indexOfChar_4cfef_16 : decode cJ1_indexOfChar_4cfef 16 = .ok (.baload, 1) := by decide +kernel
theorem dJ1_indexOfChar_4cfef_17 : decode cJ1_indexOfChar_4cfef 17 = .ok (.iload 4, 2) := by decide +kernel
theorem dJ1_indexOfChar_4cfef_19 : decode cJ1_indexOfChar_4cfef 19 = .ok (.if_icmp .ne 6, 3) := by decide +kernel
theorem dJ1_indexOfChar_4cfef_22 : decode cJ1_indexOfChar_4cfef 22 = .ok (.iload 5, 2) := by decide +kernel
theorem dJ1_indexOfChar_4cfef_24 : decode cJ1_indexOfChar_4cfef 24 = .ok (.ireturn, 1) := by decide +kernel
theorem dJ1_indexOfChar_4cfef_25 : decode cJ1_indexOfChar_4cfef 25 = .ok (.iinc 5 1, 3) := by decide +kernel
theorem dJ1_indexOfChar_4cfef_28 : decode cJ1_indexOfChar_4cfef 28 = .ok (.goto (-21), 3) := by decide +kernel
theorem dJ1_indexOfChar_4cfef_31 : decode cJ1_indexOfChar_4cfef 31 = .ok (.iconst (-1), 1) := by decide +kernel
theorem dJ1_indexOfChar_4cfef_32 : decode cJ1_indexOfChar_4cfef 32 = .ok (.ireturn, 1) := by decide +kernel
theorem dJ2_getChar_3b067_0 : decode cJ2_getChar_3b067 0 = .ok (.getstatic 44, 3) := by decide +kernel
theorem dJ2_getChar_3b067_3 : decode cJ2_getChar_3b067 3 = .ok (.ifCond .ne 25, 3) := by decide +kernel
theorem dJ2_getChar_3b067_6 : decode cJ2_getChar_3b067 6 = .ok (.iload_n 1, 1) := by decide +kernel
theorem dJ2_getChar_3b067_7 : decode cJ2_getChar_3b067 7 = .ok (.ifCond .lt 11, 3) := by decide +kernel
theorem dJ2_getChar_3b067_10 : decode cJ2_getChar_3b067 10 = .ok (.iload_n 1, 1) := by decide +kernel
theorem dJ2_getChar_3b067_11 : decode cJ2_getChar_3b067 11 = .ok (.aload_n 0, 1) := by decide +kernel
theorem dJ2_getChar_3b067_12 : decode cJ2_getChar_3b067 12 = .ok (.invokestatic 48, 3) := by decide +kernel
theorem dJ2_getChar_3b067_15 : decode cJ2_getChar_3b067 15 = .ok (.if_icmp .lt 13, 3) := by decide +kernel
theorem dJ2_getChar_3b067_18 : decode cJ2_getChar_3b067 18 = .ok (.new 52, 3) := by decide +kernel
theorem dJ2_getChar_3b067_21 : decode cJ2_getChar_3b067 21 = .ok (.dup, 1) := by decide +kernel
theorem dJ2_getChar_3b067_22 : decode cJ2_getChar_3b067 22 = .ok (.ldc 54, 2) := by decide +kernel
theorem dJ2_getChar_3b067_24 : decode cJ2_getChar_3b067 24 = .ok (.invokespecial 56, 3) := by decide +kernel
theorem dJ2_getChar_3b067_27 : decode cJ2_getChar_3b067 27 = .ok (.athrow, 1) := by decide +kernel
theorem dJ2_getChar_3b067_28 : decode cJ2_getChar_3b067 28 = .ok (.iload_n 1, 1) := by decide +kernel
theorem dJ2_getChar_3b067_29 : decode cJ2_getChar_3b067 29 = .ok (.iconst 1, 1) := by decide +kernel
theorem dJ2_getChar_3b067_30 : decode cJ2_getChar_3b067 30 = .ok (.ishl, 1) := by decide +kernel
theorem dJ2_getChar_3b067_31 : decode cJ2_getChar_3b067 31 = .ok (.istore_n 1, 1) := by decide +kernel
theorem dJ2_getChar_3b067_32 : decode cJ2_getChar_3b067 32 = .ok (.aload_n 0, 1) := by decide +kernel
theorem dJ2_getChar_3b067_33 : decode cJ2_getChar_3b067 33 = .ok (.iload_n 1, 1) := by decide +kernel
theorem dJ2_getChar_3b067_34 : decode cJ2_getChar_3b067 34 = .ok (.iinc 1 1, 3) := by decide +kernel
theorem dJ2_getChar_3b067_37 : decode cJ2_getChar_3b067 37 = .ok (.baload, 1) := by decide +kernel
theorem dJ2_getChar_3b067_38 : decode cJ2_getChar_3b067 38 = .ok (.sipush 255, 3) := by decide +kernel
theorem dJ2_getChar_3b067_41 : decode cJ2_getChar_3b067 41 = .ok (.iand, 1) := by decide +kernel
theorem dJ2_getChar_3b067_42 : decode cJ2_getChar_3b067 42 = .ok (.getstatic 59, 3) := by decide +kernel
theorem dJ2_getChar_3b067_45 : decode cJ2_getChar_3b067 45 = .ok (.ishl, 1) := by decide +kernel
theorem dJ2_getChar_3b067_46 : decode cJ2_getChar_3b067 46 = .ok (.aload_n 0, 1) := by decide +kernel
theorem dJ2_getChar_3b067_47 : decode cJ2_getChar_3b067 47 = .ok (.iload_n 1, 1) := by decide +kernel
theorem dJ2_getChar_3b067_48 : decode cJ2_getChar_3b067 48 = .ok (.baload, 1) := by decide +kernel
theorem dJ2_getChar_3b067_49 : decode cJ2_getChar_3b067 49 = .ok (.sipush 255, 3) := by decide +kernel
theorem dJ2_getChar_3b067_52 : decode cJ2_getChar_3b067 52 = .ok (.iand, 1) := by decide +kernel
theorem dJ2_getChar_3b067_53 : decode cJ2_getChar_3b067 53 = .ok (.getstatic 63, 3) := by decide +kernel
theorem dJ2_getChar_3b067_56 : decode cJ2_getChar_3b067 56 = .ok (.ishl, 1) := by decide +kernel
theorem dJ2_getChar_3b067_57 : decode cJ2_getChar_3b067 57 = .ok (.ior, 1) := by decide +kernel
theorem dJ2_getChar_3b067_58 : decode cJ2_getChar_3b067 58 = .ok (.i2c, 1) := by decide +kernel
theorem dJ2_getChar_3b067_59 : decode cJ2_getChar_3b067 59 = .ok (.ireturn, 1) := by decide +kernel
theorem dJ2_length_9d52b_0 : decode cJ2_length_9d52b 0 = .ok (.aload_n 0, 1) := by decide +kernel
theorem dJ2_length_9d52b_1 : decode cJ2_length_9d52b 1 = .ok (.arraylength, 1) := by decide +kernel
theorem dJ2_length_9d52b_2 : decode cJ2_length_9d52b 2 = .ok (.iconst 1, 1) := by decide +kernel
theorem dJ2_length_9d52b_3 : decode cJ2_length_9d52b 3 = .ok (.ishr, 1) := by decide +kernel
theorem dJ2_length_9d52b_4 : decode cJ2_length_9d52b 4 = .ok (.ireturn, 1) := by decide +kernel
theorem dJ2_indexOf_4cfef_0 : decode cJ2_indexOf_4cfef 0 = .ok (.iload_n 2, 1) := by decide +kernel
theorem dJ2_indexOf_4cfef_1 : decode cJ2_indexOf_4cfef 1 = .ok (.iconst 0, 1) := by decide +kernel
theorem dJ2_indexOf_4cfef_2 : decode cJ2_indexOf_4cfef 2 = .ok (.invokestatic 224, 3) := by decide +kernel
theorem dJ2_indexOf_4cfef_5 : decode cJ2_indexOf_4cfef 5 = .ok (.istore_n 2, 1) := by decide +kernel
theorem dJ2_indexOf_4cfef_6 : decode cJ2_indexOf_4cfef 6 = .ok (.iload_n 3, 1) := by decide +kernel
theorem dJ2_indexOf_4cfef_7 : decode cJ2_indexOf_4cfef 7 = .ok (.aload_n 0, 1) := by decide +kernel
theorem dJ2_indexOf_4cfef_8 : decode cJ2_indexOf_4cfef 8 = .ok (.arraylength, 1) := by decide +kernel
theorem dJ2_indexOf_4cfef_9 : decode cJ2_indexOf_4cfef 9 = .ok (.iconst 1, 1) := by decide +kernel
theorem dJ2_indexOf_4cfef_10 : decode cJ2_indexOf_4cfef 10 = .ok (.ishr, 1) := by decide +kernel
theorem dJ2_indexOf_4cfef_11 : decode cJ2_indexOf_4cfef 11 = .ok (.invokestatic 183, 3) := by decide +kernel
theorem dJ2_indexOf_4cfef_14 : decode cJ2_indexOf_4cfef 14 = .ok (.istore_n 3, 1) := by decide +kernel
theorem dJ2_indexOf_4cfef_15 : decode cJ2_indexOf_4cfef 15 = .ok (.iload_n 2, 1) := by decide +kernel
theorem dJ2_indexOf_4cfef_16 : decode cJ2_indexOf_4cfef 16 = .ok (.iload_n 3, 1) := by decide +kernel
theorem dJ2_indexOf_4cfef_17 : decode cJ2_indexOf_4cfef 17 = .ok (.if_icmp .lt 5, 3) := by decide +kernel
theorem dJ2_indexOf_4cfef_20 : decode cJ2_indexOf_4cfef 20 = .ok (.iconst (-1), 1) := by decide +kernel
theorem dJ2_indexOf_4cfef_21 : decode cJ2_indexOf_4cfef 21 = .ok (.ireturn, 1) := by decide +kernel
theorem dJ2_indexOf_4cfef_22 : decode cJ2_indexOf_4cfef 22 = .ok (.iload_n 1, 1) := by decide +kernel
theorem dJ2_indexOf_4cfef_23 : decode cJ2_indexOf_4cfef 23 = .ok (.ldc 227, 2) := by decide +kernel
theorem dJ2_indexOf_4cfef_25 : decode cJ2_indexOf_4cfef 25 = .ok (.if_icmp .ge 11, 3) := by decide +kernel
theorem dJ2_indexOf_4cfef_28 : decode cJ2_indexOf_4cfef 28 = .ok (.aload_n 0, 1) := by decide +kernel
theorem dJ2_indexOf_4cfef_29 : decode cJ2_indexOf_4cfef 29 = .ok (.iload_n 1, 1) := by decide +kernel
theorem dJ2_indexOf_4cfef_30 : decode cJ2_indexOf_4cfef 30 = .ok (.iload_n 2, 1) := by decide +kernel
theorem dJ2_indexOf_4cfef_31 : decode cJ2_indexOf_4cfef 31 = .ok (.iload_n 3, 1) := by decide +kernel
theorem dJ2_indexOf_4cfef_32 : decode cJ2_indexOf_4cfef 32 = .ok (.invokestatic 228, 3) := by decide +kernel
theorem dJ2_indexOf_4cfef_35 : decode cJ2_indexOf_4cfef 35 = .ok (.ireturn, 1) := by decide +kernel
theorem dJ2_indexOf_4cfef_36 : decode cJ2_indexOf_4cfef 36 = .ok (.aload_n 0, 1) := by decide +kernel
theorem dJ2_indexOf_4cfef_37 : decode cJ2_indexOf_4cfef 37 = .ok (.iload_n 1, 1) := by decide +kernel
theorem dJ2_indexOf_4cfef_38 : decode cJ2_indexOf_4cfef 38 = .ok (.iload_n 2, 1) := by decide +kernel
theorem dJ2_indexOf_4cfef_39 : decode cJ2_indexOf_4cfef 39 = .ok (.iload_n 3, 1) := by decide +kernel
theorem dJ2_indexOf_4cfef_40 : decode cJ2_indexOf_4cfef 40 = .ok (.invokestatic 232, 3) := by decide +kernel
theorem dJ2_indexOf_4cfef_43 : decode cJ2_indexOf_4cfef 43 = .ok (.ireturn, 1) := by decide +kernel
theorem dJ2_indexOfChar_4cfef_0 : decode cJ2_indexOfChar_4cfef 0 = .ok (.iload_n 2, 1) := by decide +kernel
theorem dJ2_indexOfChar_4cfef_1 : decode cJ2_indexOfChar_4cfef 1 = .ok (.iload_n 3, 1) := by decide +kernel
theorem dJ2_indexOfChar_4cfef_2 : decode cJ2_indexOfChar_4cfef 2 = .ok (.aload_n 0, 1) := by decide +kernel
theorem dJ2_indexOfChar_4cfef_3 : decode cJ2_indexOfChar_4cfef 3 = .ok (.invokestatic 96, 3) := by decide +kernel
theorem dJ2_indexOfChar_4cfef_6 : decode cJ2_indexOfChar_4cfef 6 = .ok (.aload_n 0, 1) := by decide +kernel
theorem dJ2_indexOfChar_4cfef_7 : decode cJ2_indexOfChar_4cfef 7 = .ok (.iload_n 1, 1) := by decide +kernel
theorem dJ2_indexOfChar_4cfef_8 : decode cJ2_indexOfChar_4cfef 8 = .ok (.iload_n 2, 1) := by decide +kernel
theorem dJ2_indexOfChar_4cfef_9 : decode cJ2_indexOfChar_4cfef 9 = .ok (.iload_n 3, 1) := by decide +kernel
theorem dJ2_indexOfChar_4cfef_10 : decode cJ2_indexOfChar_4cfef 10 = .ok (.invokestatic 244, 3) := by decide +kernel
theorem dJ2_indexOfChar_4cfef_13 : decode cJ2_indexOfChar_4cfef 13 = .ok (.ireturn, 1) := by decide +kernel
theorem dJ2_indexOfCharUnsafe_4cfef_0 : decode cJ2_indexOfCharUnsafe_4cfef 0 = .ok (.iload_n 2, 1) := by decide +kernel
theorem dJ2_indexOfCharUnsafe_4cfef_1 : decode cJ2_indexOfCharUnsafe_4cfef 1 = .ok (.istore 4, 2) := by decide +kernel
theorem dJ2_indexOfCharUnsafe_4cfef_3 : decode cJ2_indexOfCharUnsafe_4cfef 3 = .ok (.iload 4, 2) := by decide +kernel
theorem dJ2_indexOfCharUnsafe_4cfef_5 : decode cJ2_indexOfCharUnsafe_4cfef 5 = .ok (.iload_n 3, 1) := by decide +kernel
theorem dJ2_indexOfCharUnsafe_4cfef_6 : decode cJ2_indexOfCharUnsafe_4cfef 6 = .ok (.if_icmp .ge 22, 3) := by decide +kernel
theorem dJ2_indexOfCharUnsafe_4cfef_9 : decode cJ2_indexOfCharUnsafe_4cfef 9 = .ok (.aload_n 0, 1) := by decide +kernel
theorem dJ2_indexOfCharUnsafe_4cfef_10 : decode cJ2_indexOfCharUnsafe_4cfef 10 = .ok (.iload 4, 2) := by decide +kernel
theorem dJ2_indexOfCharUnsafe_4cfef_12 : decode cJ2_indexOfCharUnsafe_4cfef 12 = .ok (.invokestatic 71, 3) := by decide +kernel
theorem dJ2_indexOfCharUnsafe_4cfef_15 : decode cJ2_indexOfCharUnsafe_4cfef 15 = .ok (.iload_n 1, 1) := by decide +kernel
theorem dJ2_indexOfCharUnsafe_4cfef_16 : decode cJ2_indexOfCharUnsafe_4cfef 16 = .ok (.if_icmp .ne 6, 3) := by decide +kernel
theorem dJ2_indexOfCharUnsafe_4cfef_19 : decode cJ2_indexOfCharUnsafe_4cfef 19 = .ok (.iload 4, 2) := by decide +kernel
theorem dJ2_indexOfCharUnsafe_4cfef_21 : decode cJ2_indexOfCharUnsafe_4cfef 21 = .ok (.ireturn, 1) := by decide +kernel
theorem dJ2_indexOfCharUnsafe_4cfef_22 : decode cJ2_indexOfCharUnsafe_4cfef 22 = .ok (.iinc 4 1, 3) := by decide +kernel
theorem dJ2_indexOfCharUnsafe_4cfef_25 : decode cJ2_indexOfCharUnsafe_4cfef 25 = .ok (.goto (-22), 3) := by decide +kernel
theorem dJ2_indexOfCharUnsafe_4cfef_28 : decode cJ2_indexOfCharUnsafe_4cfef 28 = .ok (.iconst (-1), 1) := by decide +kernel
theorem dJ2_indexOfCharUnsafe_4cfef_29 : decode cJ2_indexOfCharUnsafe_4cfef 29 = .ok (.ireturn, 1) := by decide +kernel
theorem dJ2_indexOfSupplementary_4cfef_0 : decode cJ2_indexOfSupplementary_4cfef 0 = .ok (.iload_n 1, 1) := by decide +kernel
theorem dJ2_indexOfSupplementary_4cfef_1 : decode cJ2_indexOfSupplementary_4cfef 1 = .ok (.invokestatic 164, 3) := by decide +kernel
theorem dJ2_indexOfSupplementary_4cfef_4 : decode cJ2_indexOfSupplementary_4cfef 4 = .ok (.ifCond .eq 65, 3) := by decide +kernel
theorem dJ2_indexOfSupplementary_4cfef_7 : decode cJ2_indexOfSupplementary_4cfef 7 = .ok (.iload_n 1, 1) := by decide +kernel
theorem dJ2_indexOfSupplementary_4cfef_8 : decode cJ2_indexOfSupplementary_4cfef 8 = .ok (.invokestatic 157, 3) := by decide +kernel
theorem dJ2_indexOfSupplementary_4cfef_11 : decode cJ2_indexOfSupplementary_4cfef 11 = .ok (.istore 4, 2) := by decide +kernel
theorem dJ2_indexOfSupplementary_4cfef_13 : decode cJ2_indexOfSupplementary_4cfef 13 = .ok (.iload_n 1, 1) := by decide +kernel
theorem dJ2_indexOfSupplementary_4cfef_14 : decode cJ2_indexOfSupplementary_4cfef 14 = .ok (.invokestatic 161, 3) := by decide +kernel
theorem dJ2_indexOfSupplementary_4cfef_17 : decode cJ2_indexOfSupplementary_4cfef 17 = .ok (.istore 5, 2) := by decide +kernel
theorem dJ2_indexOfSupplementary_4cfef_19 : decode cJ2_indexOfSupplementary_4cfef 19 = .ok (.iload_n 2, 1) := by decide +kernel
theorem dJ2_indexOfSupplementary_4cfef_20 : decode cJ2_indexOfSupplementary_4cfef 20 = .ok (.iload_n 3, 1) := by decide +kernel
theorem dJ2_indexOfSupplementary_4cfef_21 : decode cJ2_indexOfSupplementary_4cfef 21 = .ok (.aload_n 0, 1) := by decide +kernel
theorem dJ2_indexOfSupplementary_4cfef_22 : decode cJ2_indexOfSupplementary_4cfef 22 = .ok (.invokestatic 96, 3) := by decide +kernel
theorem dJ2_indexOfSupplementary_4cfef_25 : decode cJ2_indexOfSupplementary_4cfef 25 = .ok (.iload_n 2, 1) := by decide +kernel
theorem dJ2_indexOfSupplementary_4cfef_26 : decode cJ2_indexOfSupplementary_4cfef 26 = .ok (.istore 6, 2) := by decide +kernel
theorem dJ2_indexOfSupplementary_4cfef_28 : decode cJ2_indexOfSupplementary_4cfef 28 = .ok (.iload 6, 2) := by decide +kernel
theorem dJ2_indexOfSupplementary_4cfef_30 : decode cJ2_indexOfSupplementary_4cfef 30 = .ok (.iload_n 3, 1) := by decide +kernel
theorem dJ2_indexOfSupplementary_4cfef_31 : decode cJ2_indexOfSupplementary_4cfef 31 = .ok (.iconst 1, 1) := by decide +kernel
theorem dJ2_indexOfSupplementary_4cfef_32 : decode cJ2_indexOfSupplementary_4cfef 32 = .ok (.isub, 1) := by decide +kernel
theorem dJ2_indexOfSupplementary_4cfef_33 : decode cJ2_indexOfSupplementary_4cfef 33 = .ok (.if_icmp .ge 36, 3) := by decide +kernel
theorem dJ2_indexOfSupplementary_4cfef_36 : decode cJ2_indexOfSupplementary_4cfef 36 = .ok (.aload_n 0, 1) := by decide +kernel
theorem dJ2_indexOfSupplementary_4cfef_37 : decode cJ2_indexOfSupplementary_4cfef 37 = .ok (.iload 6, 2) := by decide +kernel
theorem dJ2_indexOfSupplementary_4cfef_39 : decode cJ2_indexOfSupplementary_4cfef 39 = .ok (.invokestatic 71, 3) := by decide +kernel
theorem dJ2_indexOfSupplementary_4cfef_42 : decode cJ2_indexOfSupplementary_4cfef 42 = .ok (.iload 4, 2) := by decide +kernel
theorem dJ2_indexOfSupplementary_4cfef_44 : decode cJ2_indexOfSupplementary_4cfef 44 = .ok (.if_icmp .ne 19, 3) := by decide +kernel
theorem dJ2_indexOfSupplementary_4cfef_47 : decode cJ2_indexOfSupplementary_4cfef 47 = .ok (.aload_n 0, 1) := by decide +kernel
theorem dJ2_indexOfSupplementary_4cfef_48 : decode cJ2_indexOfSupplementary_4cfef 48 = .ok (.iload 6, 2) := by decide +kernel
theorem dJ2_indexOfSupplementary_4cfef_50 : decode cJ2_indexOfSupplementary_4cfef 50 = .ok (.iconst 1, 1) := by decide +kernel
theorem dJ2_indexOfSupplementary_4cfef_51 : decode cJ2_indexOfSupplementary_4cfef 51 = .ok (.iadd, 1) := by decide +kernel
theorem dJ2_indexOfSupplementary_4cfef_52 : decode cJ2_indexOfSupplementary_4cfef 52 = .ok (.invokestatic 71, 3) := by decide +kernel
theorem dJ2_indexOfSupplementary_4cfef_55 : decode cJ2_indexOfSupplementary_4cfef 55 = .ok (.iload 5, 2) := by decide +kernel
theorem dJ2_indexOfSupplementary_4cfef_57 : decode cJ2_indexOfSupplementary_4cfef 57 = .ok (.if_icmp .ne 6, 3) := by decide +kernel
theorem dJ2_indexOfSupplementary_4cfef_60 : decode cJ2_indexOfSupplementary_4cfef 60 = .ok (.iload 6, 2) := by decide +kernel
theorem dJ2_indexOfSupplementary_4cfef_62 : decode cJ2_indexOfSupplementary_4cfef 62 = .ok (.ireturn, 1) := by decide +kernel
theorem dJ2_indexOfSupplementary_4cfef_63 : decode cJ2_indexOfSupplementary_4cfef 63 = .ok (.iinc 6 1, 3) := by decide +kernel
theorem dJ2_indexOfSupplementary_4cfef_66 : decode cJ2_indexOfSupplementary_4cfef 66 = .ok (.goto (-38), 3) := by decide +kernel
theorem dJ2_indexOfSupplementary_4cfef_69 : decode cJ2_indexOfSupplementary_4cfef 69 = .ok (.iconst (-1), 1) := by decide +kernel
theorem dJ2_indexOfSupplementary_4cfef_70 : decode cJ2_indexOfSupplementary_4cfef 70 = .ok (.ireturn, 1) := by decide +kernel
theorem dJ2_charAt_3b067_0 : decode cJ2_charAt_3b067 0 = .ok (.iload_n 1, 1) := by decide +kernel
theorem dJ2_charAt_3b067_1 : decode cJ2_charAt_3b067 1 = .ok (.aload_n 0, 1) := by decide +kernel
theorem dJ2_charAt_3b067_2 : decode cJ2_charAt_3b067 2 = .ok (.invokestatic 67, 3) := by decide +kernel
theorem dJ2_charAt_3b067_5 : decode cJ2_charAt_3b067 5 = .ok (.aload_n 0, 1) := by decide +kernel
theorem dJ2_charAt_3b067_6 : decode cJ2_charAt_3b067 6 = .ok (.iload_n 1, 1) := by decide +kernel
theorem dJ2_charAt_3b067_7 : decode cJ2_charAt_3b067 7 = .ok (.invokestatic 71, 3) := by decide +kernel
theorem dJ2_charAt_3b067_10 : decode cJ2_charAt_3b067 10 = .ok (.ireturn, 1) := by decide +kernel
theorem dJ2_checkIndex_2214a_0 : decode cJ2_checkIndex_2214a 0 = .ok (.iload_n 0, 1) := by decide +kernel
theorem dJ2_checkIndex_2214a_1 : decode cJ2_checkIndex_2214a 1 = .ok (.aload_n 1, 1) := by decide +kernel
theorem dJ2_checkIndex_2214a_2 : decode cJ2_checkIndex_2214a 2 = .ok (.invokestatic 48, 3) := by decide +kernel
theorem dJ2_checkIndex_2214a_5 : decode cJ2_checkIndex_2214a 5 = .ok (.invokestatic 414, 3) := by decide +kernel
theorem dJ2_checkIndex_2214a_8 : decode cJ2_checkIndex_2214a 8 = .ok (.return_, 1) := by decide +kernel
theorem dJ2_checkBoundsBeginEnd_d044e_0 : decode cJ2_checkBoundsBeginEnd_d044e 0 = .ok (.iload_n 0, 1) := by decide +kernel
theorem dJ2_checkBoundsBeginEnd_d044e_1 : decode cJ2_checkBoundsBeginEnd_d044e 1 = .ok (.iload_n 1, 1) := by decide +kernel
theorem dJ2_checkBoundsBeginEnd_d044e_2 : decode cJ2_checkBoundsBeginEnd_d044e 2 = .ok (.aload_n 2, 1) := by decide +kernel
theorem dJ2_checkBoundsBeginEnd_d044e_3 : decode cJ2_checkBoundsBeginEnd_d044e 3 = .ok (.invokestatic 48, 3) := by decide +kernel
theorem dJ2_checkBoundsBeginEnd_d044e_6 : decode cJ2_checkBoundsBeginEnd_d044e 6 = .ok (.invokestatic 241, 3) := by decide +kernel
theorem dJ2_checkBoundsBeginEnd_d044e_9 : decode cJ2_checkBoundsBeginEnd_d044e 9 = .ok (.return_, 1) := by decide +kernel
theorem dJ7_fill_d0a16_0 : decode cJ7_fill_d0a16 0 = .ok (.iconst 0, 1) := by decide +kernel
theorem dJ7_fill_d0a16_1 : decode cJ7_fill_d0a16 1 = .ok (.istore_n 3, 1) := by decide +kernel
theorem dJ7_fill_d0a16_2 : decode cJ7_fill_d0a16 2 = .ok (.aload_n 0, 1) := by decide +kernel
theorem dJ7_fill_d0a16_3 : decode cJ7_fill_d0a16 3 = .ok (.arraylength, 1) := by decide +kernel
theorem dJ7_fill_d0a16_4 : decode cJ7_fill_d0a16 4 = .ok (.istore 4, 2) := by decide +kernel
theorem dJ7_fill_d0a16_6 : decode cJ7_fill_d0a16 6 = .ok (.iload_n 3, 1) := by decide +kernel
theorem dJ7_fill_d0a16_7 : decode cJ7_fill_d0a16 7 = .ok (.iload 4, 2) := by decide +kernel
theorem dJ7_fill_d0a16_9 : decode cJ7_fill_d0a16 9 = .ok (.if_icmp .ge 13, 3) := by decide +kernel
theorem dJ7_fill_d0a16_12 : decode cJ7_fill_d0a16 12 = .ok (.aload_n 0, 1) := by decide +kernel
theorem dJ7_fill_d0a16_13 : decode cJ7_fill_d0a16 13 = .ok (.iload_n 3, 1) := by decide +kernel
theorem dJ7_fill_d0a16_14 : decode cJ7_fill_d0a16 14 = .ok (.lload_n 1, 1) := by decide +kernel
theorem dJ7_fill_d0a16_15 : decode cJ7_fill_d0a16 15 = .ok (.lastore, 1) := by decide +kernel
theorem dJ7_fill_d0a16_16 : decode cJ7_fill_d0a16 16 = .ok (.iinc 3 1, 3) := by decide +kernel
theorem dJ7_fill_d0a16_19 : decode cJ7_fill_d0a16 19 = .ok (.goto (-13), 3) := by decide +kernel
theorem dJ7_fill_d0a16_22 : decode cJ7_fill_d0a16 22 = .ok (.return_, 1) := by decide +kernel
theorem dJ7_fill_53178_0 : decode cJ7_fill_53178 0 = .ok (.iconst 0, 1) := by decide +kernel
theorem dJ7_fill_53178_1 : decode cJ7_fill_53178 1 = .ok (.istore_n 2, 1) := by decide +kernel
theorem dJ7_fill_53178_2 : decode cJ7_fill_53178 2 = .ok (.aload_n 0, 1) := by decide +kernel
theorem dJ7_fill_53178_3 : decode cJ7_fill_53178 3 = .ok (.arraylength, 1) := by decide +kernel
theorem dJ7_fill_53178_4 : decode cJ7_fill_53178 4 = .ok (.istore_n 3, 1) := by decide +kernel
theorem dJ7_fill_53178_5 : decode cJ7_fill_53178 5 = .ok (.iload_n 2, 1) := by decide +kernel
theorem dJ7_fill_53178_6 : decode cJ7_fill_53178 6 = .ok (.iload_n 3, 1) := by decide +kernel
theorem dJ7_fill_53178_7 : decode cJ7_fill_53178 7 = .ok (.if_icmp .ge 13, 3) := by decide +kernel
theorem dJ7_fill_53178_10 : decode cJ7_fill_53178 10 = .ok (.aload_n 0, 1) := by decide +kernel
theorem dJ7_fill_53178_11 : decode cJ7_fill_53178 11 = .ok (.iload_n 2, 1) := by decide +kernel
theorem dJ7_fill_53178_12 : decode cJ7_fill_53178 12 = .ok (.iload_n 1, 1) := by decide +kernel
theorem dJ7_fill_53178_13 : decode cJ7_fill_53178 13 = .ok (.iastore, 1) := by decide +kernel
theorem dJ7_fill_53178_14 : decode cJ7_fill_53178 14 = .ok (.iinc 2 1, 3) := by decide +kernel
theorem dJ7_fill_53178_17 : decode cJ7_fill_53178 17 = .ok (.goto (-12), 3) := by decide +kernel
theorem dJ7_fill_53178_20 : decode cJ7_fill_53178 20 = .ok (.return_, 1) := by decide +kernel
theorem dJ7_copyOf_59c91_0 : decode cJ7_copyOf_59c91 0 = .ok (.iload_n 1, 1) := by decide +kernel
theorem dJ7_copyOf_59c91_1 : decode cJ7_copyOf_59c91 1 = .ok (.aload_n 0, 1) := by decide +kernel
theorem dJ7_copyOf_59c91_2 : decode cJ7_copyOf_59c91 2 = .ok (.arraylength, 1) := by decide +kernel
theorem dJ7_copyOf_59c91_3 : decode cJ7_copyOf_59c91 3 = .ok (.if_icmp .ne 11, 3) := by decide +kernel
theorem dJ7_copyOf_59c91_6 : decode cJ7_copyOf_59c91 6 = .ok (.aload_n 0, 1) := by decide +kernel
theorem dJ7_copyOf_59c91_7 : decode cJ7_copyOf_59c91 7 = .ok (.invokevirtual 316, 3) := by decide +kernel
theorem dJ7_copyOf_59c91_10 : decode cJ7_copyOf_59c91 10 = .ok (.checkcast 317, 3) := by decide +kernel
theorem dJ7_copyOf_59c91_13 : decode cJ7_copyOf_59c91 13 = .ok (.areturn, 1) := by decide +kernel
theorem dJ7_copyOf_59c91_14 : decode cJ7_copyOf_59c91 14 = .ok (.iload_n 1, 1) := by decide +kernel
theorem dJ7_copyOf_59c91_15 : decode cJ7_copyOf_59c91 15 = .ok (.newarray .int, 2) := by decide +kernel
theorem dJ7_copyOf_59c91_17 : decode cJ7_copyOf_59c91 17 = .ok (.astore_n 2, 1) := by decide +kernel
theorem dJ7_copyOf_59c91_18 : decode cJ7_copyOf_59c91 18 = .ok (.aload_n 0, 1) := by decide +kernel
theorem dJ7_copyOf_59c91_19 : decode cJ7_copyOf_59c91 19 = .ok (.iconst 0, 1) := by decide +kernel
theorem dJ7_copyOf_59c91_20 : decode cJ7_copyOf_59c91 20 = .ok (.aload_n 2, 1) := by decide +kernel
theorem dJ7_copyOf_59c91_21 : decode cJ7_copyOf_59c91 21 = .ok (.iconst 0, 1) := by decide +kernel
theorem dJ7_copyOf_59c91_22 : decode cJ7_copyOf_59c91 22 = .ok (.aload_n 0, 1) := by decide +kernel
theorem dJ7_copyOf_59c91_23 : decode cJ7_copyOf_59c91 23 = .ok (.arraylength, 1) := by decide +kernel
theorem dJ7_copyOf_59c91_24 : decode cJ7_copyOf_59c91 24 = .ok (.iload_n 1, 1) := by decide +kernel
theorem dJ7_copyOf_59c91_25 : decode cJ7_copyOf_59c91 25 = .ok (.invokestatic 304, 3) := by decide +kernel
theorem dJ7_copyOf_59c91_28 : decode cJ7_copyOf_59c91 28 = .ok (.invokestatic 150, 3) := by decide +kernel
theorem dJ7_copyOf_59c91_31 : decode cJ7_copyOf_59c91 31 = .ok (.aload_n 2, 1) := by decide +kernel
theorem dJ7_copyOf_59c91_32 : decode cJ7_copyOf_59c91 32 = .ok (.areturn, 1) := by decide +kernel
theorem dJ3_checkIndex_8e157_0 : decode cJ3_checkIndex_8e157 0 = .ok (.iload_n 0, 1) := by decide +kernel
theorem dJ3_checkIndex_8e157_1 : decode cJ3_checkIndex_8e157 1 = .ok (.ifCond .lt 8, 3) := by decide +kernel
theorem dJ3_checkIndex_8e157_4 : decode cJ3_checkIndex_8e157 4 = .ok (.iload_n 0, 1) := by decide +kernel
theorem dJ3_checkIndex_8e157_5 : decode cJ3_checkIndex_8e157 5 = .ok (.iload_n 1, 1) := by decide +kernel
theorem dJ3_checkIndex_8e157_6 : decode cJ3_checkIndex_8e157 6 = .ok (.if_icmp .lt 10, 3) := by decide +kernel
theorem dJ3_checkIndex_8e157_9 : decode cJ3_checkIndex_8e157 9 = .ok (.aload_n 2, 1) := by decide +kernel
theorem dJ3_checkIndex_8e157_10 : decode cJ3_checkIndex_8e157 10 = .ok (.iload_n 0, 1) := by decide +kernel
theorem dJ3_checkIndex_8e157_11 : decode cJ3_checkIndex_8e157 11 = .ok (.iload_n 1, 1) := by decide +kernel
theorem dJ3_checkIndex_8e157_12 : decode cJ3_checkIndex_8e157 12 = .ok (.invokestatic 95, 3) := by decide +kernel
theorem dJ3_checkIndex_8e157_15 : decode cJ3_checkIndex_8e157 15 = .ok (.athrow, 1) := by decide +kernel
theorem dJ3_checkIndex_8e157_16 : decode cJ3_checkIndex_8e157 16 = .ok (.iload_n 0, 1) := by decide +kernel
theorem dJ3_checkIndex_8e157_17 : decode cJ3_checkIndex_8e157 17 = .ok (.ireturn, 1) := by decide +kernel
theorem dJ3_checkFromToIndex_8c36e_0 : decode cJ3_checkFromToIndex_8c36e 0 = .ok (.iload_n 0, 1) := by decide +kernel
theorem dJ3_checkFromToIndex_8c36e_1 : decode cJ3_checkFromToIndex_8c36e 1 = .ok (.ifCond .lt 13, 3) := by decide +kernel
theorem dJ3_checkFromToIndex_8c36e_4 : decode cJ3_checkFromToIndex_8c36e 4 = .ok (.iload_n 0, 1) := by decide +kernel
theorem dJ3_checkFromToIndex_8c36e_5 : decode cJ3_checkFromToIndex_8c36e 5 = .ok (.iload_n 1, 1) := by decide +kernel
theorem dJ3_checkFromToIndex_8c36e_6 : decode cJ3_checkFromToIndex_8c36e 6 = .ok (.if_icmp .gt 8, 3) := by decide +kernel
theorem dJ3_checkFromToIndex_8c36e_9 : decode cJ3_checkFromToIndex_8c36e 9 = .ok (.iload_n 1, 1) := by decide +kernel
theorem dJ3_checkFromToIndex_8c36e_10 : decode cJ3_checkFromToIndex_8c36e 10 = .ok (.iload_n 2, 1) := by decide +kernel
theorem dJ3_checkFromToIndex_8c36e_11 : decode cJ3_checkFromToIndex_8c36e 11 = .ok (.if_icmp .le 11, 3) := by decide +kernel
theorem dJ3_checkFromToIndex_8c36e_14 : decode cJ3_checkFromToIndex_8c36e 14 = .ok (.aload_n 3, 1) := by decide +kernel
theorem dJ3_checkFromToIndex_8c36e_15 : decode cJ3_checkFromToIndex_8c36e 15 = .ok (.iload_n 0, 1) := by decide +kernel
theorem dJ3_checkFromToIndex_8c36e_16 : decode cJ3_checkFromToIndex_8c36e 16 = .ok (.iload_n 1, 1) := by decide +kernel
theorem dJ3_checkFromToIndex_8c36e_17 : decode cJ3_checkFromToIndex_8c36e 17 = .ok (.iload_n 2, 1) := by decide +kernel
theorem dJ3_checkFromToIndex_8c36e_18 : decode cJ3_checkFromToIndex_8c36e 18 = .ok (.invokestatic 99, 3) := by decide +kernel
theorem dJ3_checkFromToIndex_8c36e_21 : decode cJ3_checkFromToIndex_8c36e 21 = .ok (.athrow, 1) := by decide +kernel
theorem dJ3_checkFromToIndex_8c36e_22 : decode cJ3_checkFromToIndex_8c36e 22 = .ok (.iload_n 0, 1) := by decide +kernel
theorem dJ3_checkFromToIndex_8c36e_23 : decode cJ3_checkFromToIndex_8c36e 23 = .ok (.ireturn, 1) := by decide +kernel
theorem dL_law_0 : decode cL_law 0 = .ok (.new 7, 3) := by decide +kernel
theorem dL_law_3 : decode cL_law 3 = .ok (.dup, 1) := by decide +kernel
theorem dL_law_4 : decode cL_law 4 = .ok (.invokespecial 9, 3) := by decide +kernel
theorem dL_law_7 : decode cL_law 7 = .ok (.astore_n 1, 1) := by decide +kernel
theorem dL_law_8 : decode cL_law 8 = .ok (.new 10, 3) := by decide +kernel
theorem dL_law_11 : decode cL_law 11 = .ok (.dup, 1) := by decide +kernel
theorem dL_law_12 : decode cL_law 12 = .ok (.invokespecial 12, 3) := by decide +kernel
theorem dL_law_15 : decode cL_law 15 = .ok (.astore_n 2, 1) := by decide +kernel
theorem dL_law_16 : decode cL_law 16 = .ok (.iconst 0, 1) := by decide +kernel
theorem dL_law_17 : decode cL_law 17 = .ok (.istore_n 3, 1) := by decide +kernel
theorem dL_law_18 : decode cL_law 18 = .ok (.iload_n 3, 1) := by decide +kernel
theorem dL_law_19 : decode cL_law 19 = .ok (.aload_n 0, 1) := by decide +kernel
theorem dL_law_20 : decode cL_law 20 = .ok (.arraylength, 1) := by decide +kernel
theorem dL_law_21 : decode cL_law 21 = .ok (.bipush 6, 2) := by decide +kernel
theorem dL_law_23 : decode cL_law 23 = .ok (.isub, 1) := by decide +kernel
theorem dL_law_24 : decode cL_law 24 = .ok (.if_icmp .gt 814, 3) := by decide +kernel
theorem dL_law_27 : decode cL_law 27 = .ok (.aload_n 0, 1) := by decide +kernel
theorem dL_law_28 : decode cL_law 28 = .ok (.iload_n 3, 1) := by decide +kernel
theorem dL_law_29 : decode cL_law 29 = .ok (.iaload, 1) := by decide +kernel
theorem dL_law_30 : decode cL_law 30 = .ok (.bipush 31, 2) := by decide +kernel
theorem dL_law_32 : decode cL_law 32 = .ok (.iand, 1) := by decide +kernel
theorem dL_law_33 : decode cL_law 33 = .ok (.tableswitch 799 0 18 #[91, 154, 177, 200, 223, 246, 279, 323, 356, 389, 442, 485, 508, 551, 594, 657, 680, 713, 776], 91) := by decide +kernel
theorem dL_law_124 : decode cL_law 124 = .ok (.aload_n 1, 1) := by decide +kernel
theorem dL_law_125 : decode cL_law 125 = .ok (.aload_n 0, 1) := by decide +kernel
theorem dL_law_126 : decode cL_law 126 = .ok (.iload_n 3, 1) := by decide +kernel
theorem dL_law_127 : decode cL_law 127 = .ok (.iconst 1, 1) := by decide +kernel
theorem dL_law_128 : decode cL_law 128 = .ok (.iadd, 1) := by decide +kernel
theorem dL_law_129 : decode cL_law 129 = .ok (.iaload, 1) := by decide +kernel
theorem dL_law_130 : decode cL_law 130 = .ok (.aload_n 0, 1) := by decide +kernel
theorem dL_law_131 : decode cL_law 131 = .ok (.iload_n 3, 1) := by decide +kernel
theorem dL_law_132 : decode cL_law 132 = .ok (.iconst 2, 1) := by decide +kernel
theorem dL_law_133 : decode cL_law 133 = .ok (.iadd, 1) := by decide +kernel
theorem dL_law_134 : decode cL_law 134 = .ok (.iaload, 1) := by decide +kernel
theorem dL_law_135 : decode cL_law 135 = .ok (.aload_n 0, 1) := by decide +kernel
theorem dL_law_136 : decode cL_law 136 = .ok (.iload_n 3, 1) := by decide +kernel
theorem dL_law_137 : decode cL_law 137 = .ok (.iconst 3, 1) := by decide +kernel
theorem dL_law_138 : decode cL_law 138 = .ok (.iadd, 1) := by decide +kernel
theorem dL_law_139 : decode cL_law 139 = .ok (.iaload, 1) := by decide +kernel
theorem dL_law_140 : decode cL_law 140 = .ok (.aload_n 0, 1) := by decide +kernel
theorem dL_law_141 : decode cL_law 141 = .ok (.iload_n 3, 1) := by decide +kernel
theorem dL_law_142 : decode cL_law 142 = .ok (.iconst 4, 1) := by decide +kernel
theorem dL_law_143 : decode cL_law 143 = .ok (.iadd, 1) := by decide +kernel
theorem dL_law_144 : decode cL_law 144 = .ok (.iaload, 1) := by decide +kernel
theorem dL_law_145 : decode cL_law 145 = .ok (.aload_n 0, 1) := by decide +kernel
theorem dL_law_146 : decode cL_law 146 = .ok (.iload_n 3, 1) := by decide +kernel
theorem dL_law_147 : decode cL_law 147 = .ok (.iconst 5, 1) := by decide +kernel
theorem dL_law_148 : decode cL_law 148 = .ok (.iadd, 1) := by decide +kernel
theorem dL_law_149 : decode cL_law 149 = .ok (.iaload, 1) := by decide +kernel
theorem dL_law_150 : decode cL_law 150 = .ok (.invokevirtual 13, 3) := by decide +kernel
theorem dL_law_153 : decode cL_law 153 = .ok (.aload_n 2, 1) := by decide +kernel
theorem dL_law_154 : decode cL_law 154 = .ok (.aload_n 0, 1) := by decide +kernel
theorem dL_law_155 : decode cL_law 155 = .ok (.iload_n 3, 1) := by decide +kernel
theorem dL_law_156 : decode cL_law 156 = .ok (.iconst 1, 1) := by decide +kernel
theorem dL_law_157 : decode cL_law 157 = .ok (.iadd, 1) := by decide +kernel
theorem dL_law_158 : decode cL_law 158 = .ok (.iaload, 1) := by decide +kernel
theorem dL_law_159 : decode cL_law 159 = .ok (.aload_n 0, 1) := by decide +kernel
theorem dL_law_160 : decode cL_law 160 = .ok (.iload_n 3, 1) := by decide +kernel
theorem dL_law_161 : decode cL_law 161 = .ok (.iconst 2, 1) := by decide +kernel
theorem dL_law_162 : decode cL_law 162 = .ok (.iadd, 1) := by decide +kernel
theorem dL_law_163 : decode cL_law 163 = .ok (.iaload, 1) := by decide +kernel
theorem dL_law_164 : decode cL_law 164 = .ok (.aload_n 0, 1) := by decide +kernel
theorem dL_law_165 : decode cL_law 165 = .ok (.iload_n 3, 1) := by decide +kernel
theorem dL_law_166 : decode cL_law 166 = .ok (.iconst 3, 1) := by decide +kernel
theorem dL_law_167 : decode cL_law 167 = .ok (.iadd, 1) := by decide +kernel
theorem dL_law_168 : decode cL_law 168 = .ok (.iaload, 1) := by decide +kernel
theorem dL_law_169 : decode cL_law 169 = .ok (.aload_n 0, 1) := by decide +kernel
theorem dL_law_170 : decode cL_law 170 = .ok (.iload_n 3, 1) := by decide +kernel
theorem dL_law_171 : decode cL_law 171 = .ok (.iconst 4, 1) := by decide +kernel
theorem dL_law_172 : decode cL_law 172 = .ok (.iadd, 1) := by decide +kernel
theorem dL_law_173 : decode cL_law 173 = .ok (.iaload, 1) := by decide +kernel
theorem dL_law_174 : decode cL_law 174 = .ok (.aload_n 0, 1) := by decide +kernel
theorem dL_law_175 : decode cL_law 175 = .ok (.iload_n 3, 1) := by decide +kernel
theorem dL_law_176 : decode cL_law 176 = .ok (.iconst 5, 1) := by decide +kernel
theorem dL_law_177 : decode cL_law 177 = .ok (.iadd, 1) := by decide +kernel
theorem dL_law_178 : decode cL_law 178 = .ok (.iaload, 1) := by decide +kernel
theorem dL_law_179 : decode cL_law 179 = .ok (.invokevirtual 17, 3) := by decide +kernel
theorem dL_law_182 : decode cL_law 182 = .ok (.if_icmp .eq 650, 3) := by decide +kernel
theorem dL_law_185 : decode cL_law 185 = .ok (.iconst 0, 1) := by decide +kernel
theorem dL_law_186 : decode cL_law 186 = .ok (.ireturn, 1) := by decide +kernel
theorem dL_law_187 : decode cL_law 187 = .ok (.aload_n 1, 1) := by decide +kernel
theorem dL_law_188 : decode cL_law 188 = .ok (.aload_n 0, 1) := by decide +kernel
theorem dL_law_189 : decode cL_law 189 = .ok (.iload_n 3, 1) := by decide +kernel
theorem dL_law_190 : decode cL_law 190 = .ok (.iconst 1, 1) := by decide +kernel
theorem dL_law_191 : decode cL_law 191 = .ok (.iadd, 1) := by decide +kernel
theorem dL_law_192 : decode cL_law 192 = .ok (.iaload, 1) := by decide +kernel
theorem dL_law_193 : decode cL_law 193 = .ok (.invokevirtual 18, 3) := by decide +kernel
theorem dL_law_196 : decode cL_law 196 = .ok (.aload_n 2, 1) := by decide +kernel
theorem dL_law_197 : decode cL_law 197 = .ok (.aload_n 0, 1) := by decide +kernel
theorem dL_law_198 : decode cL_law 198 = .ok (.iload_n 3, 1) := by decide +kernel
theorem dL_law_199 : decode cL_law 199 = .ok (.iconst 1, 1) := by decide +kernel
theorem dL_law_200 : decode cL_law 200 = .ok (.iadd, 1) := by decide +kernel
theorem dL_law_201 : decode cL_law 201 = .ok (.iaload, 1) := by decide +kernel
theorem dL_law_202 : decode cL_law 202 = .ok (.invokevirtual 22, 3) := by decide +kernel
theorem dL_law_205 : decode cL_law 205 = .ok (.if_icmp .eq 627, 3) := by decide +kernel
theorem dL_law_208 : decode cL_law 208 = .ok (.iconst 0, 1) := by decide +kernel
theorem dL_law_209 : decode cL_law 209 = .ok (.ireturn, 1) := by decide +kernel
theorem dL_law_210 : decode cL_law 210 = .ok (.aload_n 1, 1) := by decide +kernel
theorem dL_law_211 : decode cL_law 211 = .ok (.aload_n 0, 1) := by decide +kernel
theorem dL_law_212 : decode cL_law 212 = .ok (.iload_n 3, 1) := by decide +kernel
theorem dL_law_213 : decode cL_law 213 = .ok (.iconst 1, 1) := by decide +kernel
theorem dL_law_214 : decode cL_law 214 = .ok (.iadd, 1) := by decide +kernel
theorem dL_law_215 : decode cL_law 215 = .ok (.iaload, 1) := by decide +kernel
theorem dL_law_216 : decode cL_law 216 = .ok (.invokevirtual 23, 3) := by decide +kernel
theorem dL_law_219 : decode cL_law 219 = .ok (.aload_n 2, 1) := by decide +kernel
theorem dL_law_220 : decode cL_law 220 = .ok (.aload_n 0, 1) := by decide +kernel
theorem dL_law_221 : decode cL_law 221 = .ok (.iload_n 3, 1) := by decide +kernel
theorem dL_law_222 : decode cL_law 222 = .ok (.iconst 1, 1) := by decide +kernel
theorem dL_law_223 : decode cL_law 223 = .ok (.iadd, 1) := by decide +kernel
theorem dL_law_224 : decode cL_law 224 = .ok (.iaload, 1) := by decide +kernel
theorem dL_law_225 : decode cL_law 225 = .ok (.invokevirtual 26, 3) := by decide +kernel
theorem dL_law_228 : decode cL_law 228 = .ok (.if_icmp .eq 604, 3) := by decide +kernel
theorem dL_law_231 : decode cL_law 231 = .ok (.iconst 0, 1) := by decide +kernel
theorem dL_law_232 : decode cL_law 232 = .ok (.ireturn, 1) := by decide +kernel
theorem dL_law_233 : decode cL_law 233 = .ok (.aload_n 1, 1) := by decide +kernel
theorem dL_law_234 : decode cL_law 234 = .ok (.aload_n 0, 1) := by decide +kernel
theorem dL_law_235 : decode cL_law 235 = .ok (.iload_n 3, 1) := by decide +kernel
theorem dL_law_236 : decode cL_law 236 = .ok (.iconst 1, 1) := by decide +kernel
theorem dL_law_237 : decode cL_law 237 = .ok (.iadd, 1) := by decide +kernel
theorem dL_law_238 : decode cL_law 238 = .ok (.iaload, 1) := by decide +kernel
theorem dL_law_239 : decode cL_law 239 = .ok (.invokevirtual 27, 3) := by decide +kernel
theorem dL_law_242 : decode cL_law 242 = .ok (.aload_n 2, 1) := by decide +kernel
theorem dL_law_243 : decode cL_law 243 = .ok (.aload_n 0, 1) := by decide +kernel
theorem dL_law_244 : decode cL_law 244 = .ok (.iload_n 3, 1) := by decide +kernel
theorem dL_law_245 : decode cL_law 245 = .ok (.iconst 1, 1) := by decide +kernel
theorem dL_law_246 : decode cL_law 246 = .ok (.iadd, 1) := by decide +kernel
theorem dL_law_247 : decode cL_law 247 = .ok (.iaload, 1) := by decide +kernel
theorem dL_law_248 : decode cL_law 248 = .ok (.invokevirtual 30, 3) := by decide +kernel
theorem dL_law_251 : decode cL_law 251 = .ok (.if_icmp .eq 581, 3) := by decide +kernel
theorem dL_law_254 : decode cL_law 254 = .ok (.iconst 0, 1) := by decide +kernel
theorem dL_law_255 : decode cL_law 255 = .ok (.ireturn, 1) := by decide +kernel
theorem dL_law_256 : decode cL_law 256 = .ok (.aload_n 1, 1) := by decide +kernel
theorem dL_law_257 : decode cL_law 257 = .ok (.aload_n 0, 1) := by decide +kernel
theorem dL_law_258 : decode cL_law 258 = .ok (.iload_n 3, 1) := by decide +kernel
theorem dL_law_259 : decode cL_law 259 = .ok (.iconst 1, 1) := by decide +kernel
theorem dL_law_260 : decode cL_law 260 = .ok (.iadd, 1) := by decide +kernel
theorem dL_law_261 : decode cL_law 261 = .ok (.iaload, 1) := by decide +kernel
theorem dL_law_262 : decode cL_law 262 = .ok (.invokevirtual 31, 3) := by decide +kernel
theorem dL_law_265 : decode cL_law 265 = .ok (.aload_n 2, 1) := by decide +kernel
theorem dL_law_266 : decode cL_law 266 = .ok (.aload_n 0, 1) := by decide +kernel
theorem dL_law_267 : decode cL_law 267 = .ok (.iload_n 3, 1) := by decide +kernel
theorem dL_law_268 : decode cL_law 268 = .ok (.iconst 1, 1) := by decide +kernel
theorem dL_law_269 : decode cL_law 269 = .ok (.iadd, 1) := by decide +kernel
theorem dL_law_270 : decode cL_law 270 = .ok (.iaload, 1) := by decide +kernel
theorem dL_law_271 : decode cL_law 271 = .ok (.invokevirtual 34, 3) := by decide +kernel
theorem dL_law_274 : decode cL_law 274 = .ok (.if_icmp .eq 558, 3) := by decide +kernel
theorem dL_law_277 : decode cL_law 277 = .ok (.iconst 0, 1) := by decide +kernel
theorem dL_law_278 : decode cL_law 278 = .ok (.ireturn, 1) := by decide +kernel
theorem dL_law_279 : decode cL_law 279 = .ok (.aload_n 1, 1) := by decide +kernel
theorem dL_law_280 : decode cL_law 280 = .ok (.aload_n 0, 1) := by decide +kernel
theorem dL_law_281 : decode cL_law 281 = .ok (.iload_n 3, 1) := by decide +kernel
theorem dL_law_282 : decode cL_law 282 = .ok (.iconst 1, 1) := by decide +kernel
theorem dL_law_283 : decode cL_law 283 = .ok (.iadd, 1) := by decide +kernel
theorem dL_law_284 : decode cL_law 284 = .ok (.iaload, 1) := by decide +kernel
theorem dL_law_285 : decode cL_law 285 = .ok (.aload_n 0, 1) := by decide +kernel
theorem dL_law_286 : decode cL_law 286 = .ok (.iload_n 3, 1) := by decide +kernel
theorem dL_law_287 : decode cL_law 287 = .ok (.iconst 2, 1) := by decide +kernel
theorem dL_law_288 : decode cL_law 288 = .ok (.iadd, 1) := by decide +kernel
theorem dL_law_289 : decode cL_law 289 = .ok (.iaload, 1) := by decide +kernel
theorem dL_law_290 : decode cL_law 290 = .ok (.invokevirtual 35, 3) := by decide +kernel
theorem dL_law_293 : decode cL_law 293 = .ok (.aload_n 2, 1) := by decide +kernel
theorem dL_law_294 : decode cL_law 294 = .ok (.aload_n 0, 1) := by decide +kernel
theorem dL_law_295 : decode cL_law 295 = .ok (.iload_n 3, 1) := by decide +kernel
theorem dL_law_296 : decode cL_law 296 = .ok (.iconst 1, 1) := by decide +kernel
theorem dL_law_297 : decode cL_law 297 = .ok (.iadd, 1) := by decide +kernel
theorem dL_law_298 : decode cL_law 298 = .ok (.iaload, 1) := by decide +kernel
theorem dL_law_299 : decode cL_law 299 = .ok (.aload_n 0, 1) := by decide +kernel
theorem dL_law_300 : decode cL_law 300 = .ok (.iload_n 3, 1) := by decide +kernel
theorem dL_law_301 : decode cL_law 301 = .ok (.iconst 2, 1) := by decide +kernel
theorem dL_law_302 : decode cL_law 302 = .ok (.iadd, 1) := by decide +kernel
theorem dL_law_303 : decode cL_law 303 = .ok (.iaload, 1) := by decide +kernel
theorem dL_law_304 : decode cL_law 304 = .ok (.invokevirtual 39, 3) := by decide +kernel
theorem dL_law_307 : decode cL_law 307 = .ok (.if_icmp .eq 525, 3) := by decide +kernel
theorem dL_law_310 : decode cL_law 310 = .ok (.iconst 0, 1) := by decide +kernel
theorem dL_law_311 : decode cL_law 311 = .ok (.ireturn, 1) := by decide +kernel
theorem dL_law_312 : decode cL_law 312 = .ok (.aload_n 1, 1) := by decide +kernel
theorem dL_law_313 : decode cL_law 313 = .ok (.aload_n 0, 1) := by decide +kernel
theorem dL_law_314 : decode cL_law 314 = .ok (.iload_n 3, 1) := by decide +kernel
theorem dL_law_315 : decode cL_law 315 = .ok (.iconst 1, 1) := by decide +kernel
theorem dL_law_316 : decode cL_law 316 = .ok (.iadd, 1) := by decide +kernel
theorem dL_law_317 : decode cL_law 317 = .ok (.iaload, 1) := by decide +kernel
theorem dL_law_318 : decode cL_law 318 = .ok (.aload_n 0, 1) := by decide +kernel
theorem dL_law_319 : decode cL_law 319 = .ok (.iload_n 3, 1) := by decide +kernel
theorem dL_law_320 : decode cL_law 320 = .ok (.iconst 2, 1) := by decide +kernel
theorem dL_law_321 : decode cL_law 321 = .ok (.iadd, 1) := by decide +kernel
theorem dL_law_322 : decode cL_law 322 = .ok (.iaload, 1) := by decide +kernel
theorem dL_law_323 : decode cL_law 323 = .ok (.aload_n 0, 1) := by decide +kernel
theorem dL_law_324 : decode cL_law 324 = .ok (.iload_n 3, 1) := by decide +kernel
theorem dL_law_325 : decode cL_law 325 = .ok (.iconst 3, 1) := by decide +kernel
theorem dL_law_326 : decode cL_law 326 = .ok (.iadd, 1) := by decide +kernel
theorem dL_law_327 : decode cL_law 327 = .ok (.iaload, 1) := by decide +kernel
theorem dL_law_328 : decode cL_law 328 = .ok (.invokevirtual 40, 3) := by decide +kernel
theorem dL_law_331 : decode cL_law 331 = .ok (.aload_n 2, 1) := by decide +kernel
theorem dL_law_332 : decode cL_law 332 = .ok (.aload_n 0, 1) := by decide +kernel
theorem dL_law_333 : decode cL_law 333 = .ok (.iload_n 3, 1) := by decide +kernel
theorem dL_law_334 : decode cL_law 334 = .ok (.iconst 1, 1) := by decide +kernel
theorem dL_law_335 : decode cL_law 335 = .ok (.iadd, 1) := by decide +kernel
theorem dL_law_336 : decode cL_law 336 = .ok (.iaload, 1) := by decide +kernel
theorem dL_law_337 : decode cL_law 337 = .ok (.aload_n 0, 1) := by decide +kernel
theorem dL_law_338 : decode cL_law 338 = .ok (.iload_n 3, 1) := by decide +kernel
theorem dL_law_339 : decode cL_law 339 = .ok (.iconst 2, 1) := by decide +kernel
theorem dL_law_340 : decode cL_law 340 = .ok (.iadd, 1) := by decide +kernel
theorem dL_law_341 : decode cL_law 341 = .ok (.iaload, 1) := by decide +kernel
theorem dL_law_342 : decode cL_law 342 = .ok (.aload_n 0, 1) := by decide +kernel
theorem dL_law_343 : decode cL_law 343 = .ok (.iload_n 3, 1) := by decide +kernel
theorem dL_law_344 : decode cL_law 344 = .ok (.iconst 3, 1) := by decide +kernel
theorem dL_law_345 : decode cL_law 345 = .ok (.iadd, 1) := by decide +kernel
theorem dL_law_346 : decode cL_law 346 = .ok (.iaload, 1) := by decide +kernel
theorem dL_law_347 : decode cL_law 347 = .ok (.invokevirtual 44, 3) := by decide +kernel
theorem dL_law_350 : decode cL_law 350 = .ok (.lcmp, 1) := by decide +kernel
theorem dL_law_351 : decode cL_law 351 = .ok (.ifCond .eq 481, 3) := by decide +kernel
theorem dL_law_354 : decode cL_law 354 = .ok (.iconst 0, 1) := by decide +kernel
theorem dL_law_355 : decode cL_law 355 = .ok (.ireturn, 1) := by decide +kernel
theorem dL_law_356 : decode cL_law 356 = .ok (.aload_n 1, 1) := by decide +kernel
theorem dL_law_357 : decode cL_law 357 = .ok (.aload_n 0, 1) := by decide +kernel
theorem dL_law_358 : decode cL_law 358 = .ok (.iload_n 3, 1) := by decide +kernel
theorem dL_law_359 : decode cL_law 359 = .ok (.iconst 1, 1) := by decide +kernel
theorem dL_law_360 : decode cL_law 360 = .ok (.iadd, 1) := by decide +kernel
theorem dL_law_361 : decode cL_law 361 = .ok (.iaload, 1) := by decide +kernel
theorem dL_law_362 : decode cL_law 362 = .ok (.aload_n 0, 1) := by decide +kernel
theorem dL_law_363 : decode cL_law 363 = .ok (.iload_n 3, 1) := by decide +kernel
theorem dL_law_364 : decode cL_law 364 = .ok (.iconst 2, 1) := by decide +kernel
theorem dL_law_365 : decode cL_law 365 = .ok (.iadd, 1) := by decide +kernel
theorem dL_law_366 : decode cL_law 366 = .ok (.iaload, 1) := by decide +kernel
theorem dL_law_367 : decode cL_law 367 = .ok (.invokevirtual 45, 3) := by decide +kernel
theorem dL_law_370 : decode cL_law 370 = .ok (.aload_n 2, 1) := by decide +kernel
theorem dL_law_371 : decode cL_law 371 = .ok (.aload_n 0, 1) := by decide +kernel
theorem dL_law_372 : decode cL_law 372 = .ok (.iload_n 3, 1) := by decide +kernel
theorem dL_law_373 : decode cL_law 373 = .ok (.iconst 1, 1) := by decide +kernel
theorem dL_law_374 : decode cL_law 374 = .ok (.iadd, 1) := by decide +kernel
theorem dL_law_375 : decode cL_law 375 = .ok (.iaload, 1) := by decide +kernel
theorem dL_law_376 : decode cL_law 376 = .ok (.aload_n 0, 1) := by decide +kernel
theorem dL_law_377 : decode cL_law 377 = .ok (.iload_n 3, 1) := by decide +kernel
theorem dL_law_378 : decode cL_law 378 = .ok (.iconst 2, 1) := by decide +kernel
theorem dL_law_379 : decode cL_law 379 = .ok (.iadd, 1) := by decide +kernel
theorem dL_law_380 : decode cL_law 380 = .ok (.iaload, 1) := by decide +kernel
theorem dL_law_381 : decode cL_law 381 = .ok (.invokevirtual 48, 3) := by decide +kernel
theorem dL_law_384 : decode cL_law 384 = .ok (.if_icmp .eq 448, 3) := by decide +kernel
theorem dL_law_387 : decode cL_law 387 = .ok (.iconst 0, 1) := by decide +kernel
theorem dL_law_388 : decode cL_law 388 = .ok (.ireturn, 1) := by decide +kernel
theorem dL_law_389 : decode cL_law 389 = .ok (.aload_n 1, 1) := by decide +kernel
theorem dL_law_390 : decode cL_law 390 = .ok (.aload_n 0, 1) := by decide +kernel
theorem dL_law_391 : decode cL_law 391 = .ok (.iload_n 3, 1) := by decide +kernel
theorem dL_law_392 : decode cL_law 392 = .ok (.iconst 1, 1) := by decide +kernel
theorem dL_law_393 : decode cL_law 393 = .ok (.iadd, 1) := by decide +kernel
theorem dL_law_394 : decode cL_law 394 = .ok (.iaload, 1) := by decide +kernel
theorem dL_law_395 : decode cL_law 395 = .ok (.aload_n 0, 1) := by decide +kernel
theorem dL_law_396 : decode cL_law 396 = .ok (.iload_n 3, 1) := by decide +kernel
theorem dL_law_397 : decode cL_law 397 = .ok (.iconst 2, 1) := by decide +kernel
theorem dL_law_398 : decode cL_law 398 = .ok (.iadd, 1) := by decide +kernel
theorem dL_law_399 : decode cL_law 399 = .ok (.iaload, 1) := by decide +kernel
theorem dL_law_400 : decode cL_law 400 = .ok (.invokevirtual 49, 3) := by decide +kernel
theorem dL_law_403 : decode cL_law 403 = .ok (.aload_n 2, 1) := by decide +kernel
theorem dL_law_404 : decode cL_law 404 = .ok (.aload_n 0, 1) := by decide +kernel
theorem dL_law_405 : decode cL_law 405 = .ok (.iload_n 3, 1) := by decide +kernel
theorem dL_law_406 : decode cL_law 406 = .ok (.iconst 1, 1) := by decide +kernel
theorem dL_law_407 : decode cL_law 407 = .ok (.iadd, 1) := by decide +kernel
theorem dL_law_408 : decode cL_law 408 = .ok (.iaload, 1) := by decide +kernel
theorem dL_law_409 : decode cL_law 409 = .ok (.aload_n 0, 1) := by decide +kernel
theorem dL_law_410 : decode cL_law 410 = .ok (.iload_n 3, 1) := by decide +kernel
theorem dL_law_411 : decode cL_law 411 = .ok (.iconst 2, 1) := by decide +kernel
theorem dL_law_412 : decode cL_law 412 = .ok (.iadd, 1) := by decide +kernel
theorem dL_law_413 : decode cL_law 413 = .ok (.iaload, 1) := by decide +kernel
theorem dL_law_414 : decode cL_law 414 = .ok (.invokevirtual 52, 3) := by decide +kernel
theorem dL_law_417 : decode cL_law 417 = .ok (.if_icmp .eq 415, 3) := by decide +kernel
theorem dL_law_420 : decode cL_law 420 = .ok (.iconst 0, 1) := by decide +kernel
theorem dL_law_421 : decode cL_law 421 = .ok (.ireturn, 1) := by decide +kernel
theorem dL_law_422 : decode cL_law 422 = .ok (.aload_n 1, 1) := by decide +kernel
theorem dL_law_423 : decode cL_law 423 = .ok (.aload_n 0, 1) := by decide +kernel
theorem dL_law_424 : decode cL_law 424 = .ok (.iload_n 3, 1) := by decide +kernel
theorem dL_law_425 : decode cL_law 425 = .ok (.iconst 1, 1) := by decide +kernel
theorem dL_law_426 : decode cL_law 426 = .ok (.iadd, 1) := by decide +kernel
theorem dL_law_427 : decode cL_law 427 = .ok (.iaload, 1) := by decide +kernel
theorem dL_law_428 : decode cL_law 428 = .ok (.aload_n 0, 1) := by decide +kernel
theorem dL_law_429 : decode cL_law 429 = .ok (.iload_n 3, 1) := by decide +kernel
theorem dL_law_430 : decode cL_law 430 = .ok (.iconst 2, 1) := by decide +kernel
theorem dL_law_431 : decode cL_law 431 = .ok (.iadd, 1) := by decide +kernel
theorem dL_law_432 : decode cL_law 432 = .ok (.iaload, 1) := by decide +kernel
theorem dL_law_433 : decode cL_law 433 = .ok (.aload_n 0, 1) := by decide +kernel
theorem dL_law_434 : decode cL_law 434 = .ok (.iload_n 3, 1) := by decide +kernel
theorem dL_law_435 : decode cL_law 435 = .ok (.iconst 3, 1) := by decide +kernel
theorem dL_law_436 : decode cL_law 436 = .ok (.iadd, 1) := by decide +kernel
theorem dL_law_437 : decode cL_law 437 = .ok (.iaload, 1) := by decide +kernel
theorem dL_law_438 : decode cL_law 438 = .ok (.aload_n 0, 1) := by decide +kernel
theorem dL_law_439 : decode cL_law 439 = .ok (.iload_n 3, 1) := by decide +kernel
theorem dL_law_440 : decode cL_law 440 = .ok (.iconst 4, 1) := by decide +kernel
theorem dL_law_441 : decode cL_law 441 = .ok (.iadd, 1) := by decide +kernel
theorem dL_law_442 : decode cL_law 442 = .ok (.iaload, 1) := by decide +kernel
theorem dL_law_443 : decode cL_law 443 = .ok (.invokevirtual 53, 3) := by decide +kernel
theorem dL_law_446 : decode cL_law 446 = .ok (.aload_n 2, 1) := by decide +kernel
theorem dL_law_447 : decode cL_law 447 = .ok (.aload_n 0, 1) := by decide +kernel
theorem dL_law_448 : decode cL_law 448 = .ok (.iload_n 3, 1) := by decide +kernel
theorem dL_law_449 : decode cL_law 449 = .ok (.iconst 1, 1) := by decide +kernel
theorem dL_law_450 : decode cL_law 450 = .ok (.iadd, 1) := by decide +kernel
theorem dL_law_451 : decode cL_law 451 = .ok (.iaload, 1) := by decide +kernel
theorem dL_law_452 : decode cL_law 452 = .ok (.aload_n 0, 1) := by decide +kernel
theorem dL_law_453 : decode cL_law 453 = .ok (.iload_n 3, 1) := by decide +kernel
theorem dL_law_454 : decode cL_law 454 = .ok (.iconst 2, 1) := by decide +kernel
theorem dL_law_455 : decode cL_law 455 = .ok (.iadd, 1) := by decide +kernel
theorem dL_law_456 : decode cL_law 456 = .ok (.iaload, 1) := by decide +kernel
theorem dL_law_457 : decode cL_law 457 = .ok (.aload_n 0, 1) := by decide +kernel
theorem dL_law_458 : decode cL_law 458 = .ok (.iload_n 3, 1) := by decide +kernel
theorem dL_law_459 : decode cL_law 459 = .ok (.iconst 3, 1) := by decide +kernel
theorem dL_law_460 : decode cL_law 460 = .ok (.iadd, 1) := by decide +kernel
theorem dL_law_461 : decode cL_law 461 = .ok (.iaload, 1) := by decide +kernel
theorem dL_law_462 : decode cL_law 462 = .ok (.aload_n 0, 1) := by decide +kernel
theorem dL_law_463 : decode cL_law 463 = .ok (.iload_n 3, 1) := by decide +kernel
theorem dL_law_464 : decode cL_law 464 = .ok (.iconst 4, 1) := by decide +kernel
theorem dL_law_465 : decode cL_law 465 = .ok (.iadd, 1) := by decide +kernel
theorem dL_law_466 : decode cL_law 466 = .ok (.iaload, 1) := by decide +kernel
theorem dL_law_467 : decode cL_law 467 = .ok (.invokevirtual 57, 3) := by decide +kernel
theorem dL_law_470 : decode cL_law 470 = .ok (.if_icmp .eq 362, 3) := by decide +kernel
theorem dL_law_473 : decode cL_law 473 = .ok (.iconst 0, 1) := by decide +kernel
theorem dL_law_474 : decode cL_law 474 = .ok (.ireturn, 1) := by decide +kernel
theorem dL_law_475 : decode cL_law 475 = .ok (.aload_n 1, 1) := by decide +kernel
theorem dL_law_476 : decode cL_law 476 = .ok (.aload_n 0, 1) := by decide +kernel
theorem dL_law_477 : decode cL_law 477 = .ok (.iload_n 3, 1) := by decide +kernel
theorem dL_law_478 : decode cL_law 478 = .ok (.iconst 1, 1) := by decide +kernel
theorem dL_law_479 : decode cL_law 479 = .ok (.iadd, 1) := by decide +kernel
theorem dL_law_480 : decode cL_law 480 = .ok (.iaload, 1) := by decide +kernel
theorem dL_law_481 : decode cL_law 481 = .ok (.aload_n 0, 1) := by decide +kernel
theorem dL_law_482 : decode cL_law 482 = .ok (.iload_n 3, 1) := by decide +kernel
theorem dL_law_483 : decode cL_law 483 = .ok (.iconst 2, 1) := by decide +kernel
theorem dL_law_484 : decode cL_law 484 = .ok (.iadd, 1) := by decide +kernel
theorem dL_law_485 : decode cL_law 485 = .ok (.iaload, 1) := by decide +kernel
theorem dL_law_486 : decode cL_law 486 = .ok (.aload_n 0, 1) := by decide +kernel
theorem dL_law_487 : decode cL_law 487 = .ok (.iload_n 3, 1) := by decide +kernel
theorem dL_law_488 : decode cL_law 488 = .ok (.iconst 3, 1) := by decide +kernel
theorem dL_law_489 : decode cL_law 489 = .ok (.iadd, 1) := by decide +kernel
theorem dL_law_490 : decode cL_law 490 = .ok (.iaload, 1) := by decide +kernel
theorem dL_law_491 : decode cL_law 491 = .ok (.invokevirtual 58, 3) := by decide +kernel
theorem dL_law_494 : decode cL_law 494 = .ok (.aload_n 2, 1) := by decide +kernel
theorem dL_law_495 : decode cL_law 495 = .ok (.aload_n 0, 1) := by decide +kernel
theorem dL_law_496 : decode cL_law 496 = .ok (.iload_n 3, 1) := by decide +kernel
theorem dL_law_497 : decode cL_law 497 = .ok (.iconst 1, 1) := by decide +kernel
theorem dL_law_498 : decode cL_law 498 = .ok (.iadd, 1) := by decide +kernel
theorem dL_law_499 : decode cL_law 499 = .ok (.iaload, 1) := by decide +kernel
theorem dL_law_500 : decode cL_law 500 = .ok (.aload_n 0, 1) := by decide +kernel
theorem dL_law_501 : decode cL_law 501 = .ok (.iload_n 3, 1) := by decide +kernel
theorem dL_law_502 : decode cL_law 502 = .ok (.iconst 2, 1) := by decide +kernel
theorem dL_law_503 : decode cL_law 503 = .ok (.iadd, 1) := by decide +kernel
theorem dL_law_504 : decode cL_law 504 = .ok (.iaload, 1) := by decide +kernel
theorem dL_law_505 : decode cL_law 505 = .ok (.aload_n 0, 1) := by decide +kernel
theorem dL_law_506 : decode cL_law 506 = .ok (.iload_n 3, 1) := by decide +kernel
theorem dL_law_507 : decode cL_law 507 = .ok (.iconst 3, 1) := by decide +kernel
theorem dL_law_508 : decode cL_law 508 = .ok (.iadd, 1) := by decide +kernel
theorem dL_law_509 : decode cL_law 509 = .ok (.iaload, 1) := by decide +kernel
theorem dL_law_510 : decode cL_law 510 = .ok (.invokevirtual 62, 3) := by decide +kernel
theorem dL_law_513 : decode cL_law 513 = .ok (.if_icmp .eq 319, 3) := by decide +kernel
theorem dL_law_516 : decode cL_law 516 = .ok (.iconst 0, 1) := by decide +kernel
theorem dL_law_517 : decode cL_law 517 = .ok (.ireturn, 1) := by decide +kernel
theorem dL_law_518 : decode cL_law 518 = .ok (.aload_n 1, 1) := by decide +kernel
theorem dL_law_519 : decode cL_law 519 = .ok (.aload_n 0, 1) := by decide +kernel
theorem dL_law_520 : decode cL_law 520 = .ok (.iload_n 3, 1) := by decide +kernel
theorem dL_law_521 : decode cL_law 521 = .ok (.iconst 1, 1) := by decide +kernel
theorem dL_law_522 : decode cL_law 522 = .ok (.iadd, 1) := by decide +kernel
theorem dL_law_523 : decode cL_law 523 = .ok (.iaload, 1) := by decide +kernel
theorem dL_law_524 : decode cL_law 524 = .ok (.invokevirtual 63, 3) := by decide +kernel
theorem dL_law_527 : decode cL_law 527 = .ok (.aload_n 2, 1) := by decide +kernel
theorem dL_law_528 : decode cL_law 528 = .ok (.aload_n 0, 1) := by decide +kernel
theorem dL_law_529 : decode cL_law 529 = .ok (.iload_n 3, 1) := by decide +kernel
theorem dL_law_530 : decode cL_law 530 = .ok (.iconst 1, 1) := by decide +kernel
theorem dL_law_531 : decode cL_law 531 = .ok (.iadd, 1) := by decide +kernel
theorem dL_law_532 : decode cL_law 532 = .ok (.iaload, 1) := by decide +kernel
theorem dL_law_533 : decode cL_law 533 = .ok (.invokevirtual 66, 3) := by decide +kernel
theorem dL_law_536 : decode cL_law 536 = .ok (.if_icmp .eq 296, 3) := by decide +kernel
theorem dL_law_539 : decode cL_law 539 = .ok (.iconst 0, 1) := by decide +kernel
theorem dL_law_540 : decode cL_law 540 = .ok (.ireturn, 1) := by decide +kernel
theorem dL_law_541 : decode cL_law 541 = .ok (.aload_n 1, 1) := by decide +kernel
theorem dL_law_542 : decode cL_law 542 = .ok (.aload_n 0, 1) := by decide +kernel
theorem dL_law_543 : decode cL_law 543 = .ok (.iload_n 3, 1) := by decide +kernel
theorem dL_law_544 : decode cL_law 544 = .ok (.iconst 1, 1) := by decide +kernel
theorem dL_law_545 : decode cL_law 545 = .ok (.iadd, 1) := by decide +kernel
theorem dL_law_546 : decode cL_law 546 = .ok (.iaload, 1) := by decide +kernel
theorem dL_law_547 : decode cL_law 547 = .ok (.aload_n 0, 1) := by decide +kernel
theorem dL_law_548 : decode cL_law 548 = .ok (.iload_n 3, 1) := by decide +kernel
theorem dL_law_549 : decode cL_law 549 = .ok (.iconst 2, 1) := by decide +kernel
theorem dL_law_550 : decode cL_law 550 = .ok (.iadd, 1) := by decide +kernel
theorem dL_law_551 : decode cL_law 551 = .ok (.iaload, 1) := by decide +kernel
theorem dL_law_552 : decode cL_law 552 = .ok (.aload_n 0, 1) := by decide +kernel
theorem dL_law_553 : decode cL_law 553 = .ok (.iload_n 3, 1) := by decide +kernel
theorem dL_law_554 : decode cL_law 554 = .ok (.iconst 3, 1) := by decide +kernel
theorem dL_law_555 : decode cL_law 555 = .ok (.iadd, 1) := by decide +kernel
theorem dL_law_556 : decode cL_law 556 = .ok (.iaload, 1) := by decide +kernel
theorem dL_law_557 : decode cL_law 557 = .ok (.invokevirtual 67, 3) := by decide +kernel
theorem dL_law_560 : decode cL_law 560 = .ok (.aload_n 2, 1) := by decide +kernel
theorem dL_law_561 : decode cL_law 561 = .ok (.aload_n 0, 1) := by decide +kernel
theorem dL_law_562 : decode cL_law 562 = .ok (.iload_n 3, 1) := by decide +kernel
theorem dL_law_563 : decode cL_law 563 = .ok (.iconst 1, 1) := by decide +kernel
theorem dL_law_564 : decode cL_law 564 = .ok (.iadd, 1) := by decide +kernel
theorem dL_law_565 : decode cL_law 565 = .ok (.iaload, 1) := by decide +kernel
theorem dL_law_566 : decode cL_law 566 = .ok (.aload_n 0, 1) := by decide +kernel
theorem dL_law_567 : decode cL_law 567 = .ok (.iload_n 3, 1) := by decide +kernel
theorem dL_law_568 : decode cL_law 568 = .ok (.iconst 2, 1) := by decide +kernel
theorem dL_law_569 : decode cL_law 569 = .ok (.iadd, 1) := by decide +kernel
theorem dL_law_570 : decode cL_law 570 = .ok (.iaload, 1) := by decide +kernel
theorem dL_law_571 : decode cL_law 571 = .ok (.aload_n 0, 1) := by decide +kernel
theorem dL_law_572 : decode cL_law 572 = .ok (.iload_n 3, 1) := by decide +kernel
theorem dL_law_573 : decode cL_law 573 = .ok (.iconst 3, 1) := by decide +kernel
theorem dL_law_574 : decode cL_law 574 = .ok (.iadd, 1) := by decide +kernel
theorem dL_law_575 : decode cL_law 575 = .ok (.iaload, 1) := by decide +kernel
theorem dL_law_576 : decode cL_law 576 = .ok (.invokevirtual 70, 3) := by decide +kernel
theorem dL_law_579 : decode cL_law 579 = .ok (.if_icmp .eq 253, 3) := by decide +kernel
theorem dL_law_582 : decode cL_law 582 = .ok (.iconst 0, 1) := by decide +kernel
theorem dL_law_583 : decode cL_law 583 = .ok (.ireturn, 1) := by decide +kernel
theorem dL_law_584 : decode cL_law 584 = .ok (.aload_n 1, 1) := by decide +kernel
theorem dL_law_585 : decode cL_law 585 = .ok (.aload_n 0, 1) := by decide +kernel
theorem dL_law_586 : decode cL_law 586 = .ok (.iload_n 3, 1) := by decide +kernel
theorem dL_law_587 : decode cL_law 587 = .ok (.iconst 1, 1) := by decide +kernel
theorem dL_law_588 : decode cL_law 588 = .ok (.iadd, 1) := by decide +kernel
theorem dL_law_589 : decode cL_law 589 = .ok (.iaload, 1) := by decide +kernel
theorem dL_law_590 : decode cL_law 590 = .ok (.aload_n 0, 1) := by decide +kernel
theorem dL_law_591 : decode cL_law 591 = .ok (.iload_n 3, 1) := by decide +kernel
theorem dL_law_592 : decode cL_law 592 = .ok (.iconst 2, 1) := by decide +kernel
theorem dL_law_593 : decode cL_law 593 = .ok (.iadd, 1) := by decide +kernel
theorem dL_law_594 : decode cL_law 594 = .ok (.iaload, 1) := by decide +kernel
theorem dL_law_595 : decode cL_law 595 = .ok (.aload_n 0, 1) := by decide +kernel
theorem dL_law_596 : decode cL_law 596 = .ok (.iload_n 3, 1) := by decide +kernel
theorem dL_law_597 : decode cL_law 597 = .ok (.iconst 3, 1) := by decide +kernel
theorem dL_law_598 : decode cL_law 598 = .ok (.iadd, 1) := by decide +kernel
theorem dL_law_599 : decode cL_law 599 = .ok (.iaload, 1) := by decide +kernel
theorem dL_law_600 : decode cL_law 600 = .ok (.invokevirtual 71, 3) := by decide +kernel
theorem dL_law_603 : decode cL_law 603 = .ok (.aload_n 2, 1) := by decide +kernel
theorem dL_law_604 : decode cL_law 604 = .ok (.aload_n 0, 1) := by decide +kernel
theorem dL_law_605 : decode cL_law 605 = .ok (.iload_n 3, 1) := by decide +kernel
theorem dL_law_606 : decode cL_law 606 = .ok (.iconst 1, 1) := by decide +kernel
theorem dL_law_607 : decode cL_law 607 = .ok (.iadd, 1) := by decide +kernel
theorem dL_law_608 : decode cL_law 608 = .ok (.iaload, 1) := by decide +kernel
theorem dL_law_609 : decode cL_law 609 = .ok (.aload_n 0, 1) := by decide +kernel
theorem dL_law_610 : decode cL_law 610 = .ok (.iload_n 3, 1) := by decide +kernel
theorem dL_law_611 : decode cL_law 611 = .ok (.iconst 2, 1) := by decide +kernel
theorem dL_law_612 : decode cL_law 612 = .ok (.iadd, 1) := by decide +kernel
theorem dL_law_613 : decode cL_law 613 = .ok (.iaload, 1) := by decide +kernel
theorem dL_law_614 : decode cL_law 614 = .ok (.aload_n 0, 1) := by decide +kernel
theorem dL_law_615 : decode cL_law 615 = .ok (.iload_n 3, 1) := by decide +kernel
theorem dL_law_616 : decode cL_law 616 = .ok (.iconst 3, 1) := by decide +kernel
theorem dL_law_617 : decode cL_law 617 = .ok (.iadd, 1) := by decide +kernel
theorem dL_law_618 : decode cL_law 618 = .ok (.iaload, 1) := by decide +kernel
theorem dL_law_619 : decode cL_law 619 = .ok (.invokevirtual 74, 3) := by decide +kernel
theorem dL_law_622 : decode cL_law 622 = .ok (.if_icmp .eq 210, 3) := by decide +kernel
theorem dL_law_625 : decode cL_law 625 = .ok (.iconst 0, 1) := by decide +kernel
theorem dL_law_626 : decode cL_law 626 = .ok (.ireturn, 1) := by decide +kernel
theorem dL_law_627 : decode cL_law 627 = .ok (.aload_n 1, 1) := by decide +kernel
theorem dL_law_628 : decode cL_law 628 = .ok (.aload_n 0, 1) := by decide +kernel
theorem dL_law_629 : decode cL_law 629 = .ok (.iload_n 3, 1) := by decide +kernel
theorem dL_law_630 : decode cL_law 630 = .ok (.iconst 1, 1) := by decide +kernel
theorem dL_law_631 : decode cL_law 631 = .ok (.iadd, 1) := by decide +kernel
theorem dL_law_632 : decode cL_law 632 = .ok (.iaload, 1) := by decide +kernel
theorem dL_law_633 : decode cL_law 633 = .ok (.aload_n 0, 1) := by decide +kernel
theorem dL_law_634 : decode cL_law 634 = .ok (.iload_n 3, 1) := by decide +kernel
theorem dL_law_635 : decode cL_law 635 = .ok (.iconst 2, 1) := by decide +kernel
theorem dL_law_636 : decode cL_law 636 = .ok (.iadd, 1) := by decide +kernel
theorem dL_law_637 : decode cL_law 637 = .ok (.iaload, 1) := by decide +kernel
theorem dL_law_638 : decode cL_law 638 = .ok (.aload_n 0, 1) := by decide +kernel
theorem dL_law_639 : decode cL_law 639 = .ok (.iload_n 3, 1) := by decide +kernel
theorem dL_law_640 : decode cL_law 640 = .ok (.iconst 3, 1) := by decide +kernel
theorem dL_law_641 : decode cL_law 641 = .ok (.iadd, 1) := by decide +kernel
theorem dL_law_642 : decode cL_law 642 = .ok (.iaload, 1) := by decide +kernel
theorem dL_law_643 : decode cL_law 643 = .ok (.aload_n 0, 1) := by decide +kernel
theorem dL_law_644 : decode cL_law 644 = .ok (.iload_n 3, 1) := by decide +kernel
theorem dL_law_645 : decode cL_law 645 = .ok (.iconst 4, 1) := by decide +kernel
theorem dL_law_646 : decode cL_law 646 = .ok (.iadd, 1) := by decide +kernel
theorem dL_law_647 : decode cL_law 647 = .ok (.iaload, 1) := by decide +kernel
theorem dL_law_648 : decode cL_law 648 = .ok (.aload_n 0, 1) := by decide +kernel
theorem dL_law_649 : decode cL_law 649 = .ok (.iload_n 3, 1) := by decide +kernel
theorem dL_law_650 : decode cL_law 650 = .ok (.iconst 5, 1) := by decide +kernel
theorem dL_law_651 : decode cL_law 651 = .ok (.iadd, 1) := by decide +kernel
theorem dL_law_652 : decode cL_law 652 = .ok (.iaload, 1) := by decide +kernel
theorem dL_law_653 : decode cL_law 653 = .ok (.invokevirtual 75, 3) := by decide +kernel
theorem dL_law_656 : decode cL_law 656 = .ok (.aload_n 2, 1) := by decide +kernel
theorem dL_law_657 : decode cL_law 657 = .ok (.aload_n 0, 1) := by decide +kernel
theorem dL_law_658 : decode cL_law 658 = .ok (.iload_n 3, 1) := by decide +kernel
theorem dL_law_659 : decode cL_law 659 = .ok (.iconst 1, 1) := by decide +kernel
theorem dL_law_660 : decode cL_law 660 = .ok (.iadd, 1) := by decide +kernel
theorem dL_law_661 : decode cL_law 661 = .ok (.iaload, 1) := by decide +kernel
theorem dL_law_662 : decode cL_law 662 = .ok (.aload_n 0, 1) := by decide +kernel
theorem dL_law_663 : decode cL_law 663 = .ok (.iload_n 3, 1) := by decide +kernel
theorem dL_law_664 : decode cL_law 664 = .ok (.iconst 2, 1) := by decide +kernel
theorem dL_law_665 : decode cL_law 665 = .ok (.iadd, 1) := by decide +kernel
theorem dL_law_666 : decode cL_law 666 = .ok (.iaload, 1) := by decide +kernel
theorem dL_law_667 : decode cL_law 667 = .ok (.aload_n 0, 1) := by decide +kernel
theorem dL_law_668 : decode cL_law 668 = .ok (.iload_n 3, 1) := by decide +kernel
theorem dL_law_669 : decode cL_law 669 = .ok (.iconst 3, 1) := by decide +kernel
theorem dL_law_670 : decode cL_law 670 = .ok (.iadd, 1) := by decide +kernel
theorem dL_law_671 : decode cL_law 671 = .ok (.iaload, 1) := by decide +kernel
theorem dL_law_672 : decode cL_law 672 = .ok (.aload_n 0, 1) := by decide +kernel
theorem dL_law_673 : decode cL_law 673 = .ok (.iload_n 3, 1) := by decide +kernel
theorem dL_law_674 : decode cL_law 674 = .ok (.iconst 4, 1) := by decide +kernel
theorem dL_law_675 : decode cL_law 675 = .ok (.iadd, 1) := by decide +kernel
theorem dL_law_676 : decode cL_law 676 = .ok (.iaload, 1) := by decide +kernel
theorem dL_law_677 : decode cL_law 677 = .ok (.aload_n 0, 1) := by decide +kernel
theorem dL_law_678 : decode cL_law 678 = .ok (.iload_n 3, 1) := by decide +kernel
theorem dL_law_679 : decode cL_law 679 = .ok (.iconst 5, 1) := by decide +kernel
theorem dL_law_680 : decode cL_law 680 = .ok (.iadd, 1) := by decide +kernel
theorem dL_law_681 : decode cL_law 681 = .ok (.iaload, 1) := by decide +kernel
theorem dL_law_682 : decode cL_law 682 = .ok (.invokevirtual 78, 3) := by decide +kernel
theorem dL_law_685 : decode cL_law 685 = .ok (.if_icmp .eq 147, 3) := by decide +kernel
theorem dL_law_688 : decode cL_law 688 = .ok (.iconst 0, 1) := by decide +kernel
theorem dL_law_689 : decode cL_law 689 = .ok (.ireturn, 1) := by decide +kernel
theorem dL_law_690 : decode cL_law 690 = .ok (.aload_n 1, 1) := by decide +kernel
theorem dL_law_691 : decode cL_law 691 = .ok (.aload_n 0, 1) := by decide +kernel
theorem dL_law_692 : decode cL_law 692 = .ok (.iload_n 3, 1) := by decide +kernel
theorem dL_law_693 : decode cL_law 693 = .ok (.iconst 1, 1) := by decide +kernel
theorem dL_law_694 : decode cL_law 694 = .ok (.iadd, 1) := by decide +kernel
theorem dL_law_695 : decode cL_law 695 = .ok (.iaload, 1) := by decide +kernel
theorem dL_law_696 : decode cL_law 696 = .ok (.invokevirtual 79, 3) := by decide +kernel
theorem dL_law_699 : decode cL_law 699 = .ok (.aload_n 2, 1) := by decide +kernel
theorem dL_law_700 : decode cL_law 700 = .ok (.aload_n 0, 1) := by decide +kernel
theorem dL_law_701 : decode cL_law 701 = .ok (.iload_n 3, 1) := by decide +kernel
theorem dL_law_702 : decode cL_law 702 = .ok (.iconst 1, 1) := by decide +kernel
theorem dL_law_703 : decode cL_law 703 = .ok (.iadd, 1) := by decide +kernel
theorem dL_law_704 : decode cL_law 704 = .ok (.iaload, 1) := by decide +kernel
theorem dL_law_705 : decode cL_law 705 = .ok (.invokevirtual 82, 3) := by decide +kernel
theorem dL_law_708 : decode cL_law 708 = .ok (.if_icmp .eq 124, 3) := by decide +kernel
theorem dL_law_711 : decode cL_law 711 = .ok (.iconst 0, 1) := by decide +kernel
theorem dL_law_712 : decode cL_law 712 = .ok (.ireturn, 1) := by decide +kernel
theorem dL_law_713 : decode cL_law 713 = .ok (.aload_n 1, 1) := by decide +kernel
theorem dL_law_714 : decode cL_law 714 = .ok (.aload_n 0, 1) := by decide +kernel
theorem dL_law_715 : decode cL_law 715 = .ok (.iload_n 3, 1) := by decide +kernel
theorem dL_law_716 : decode cL_law 716 = .ok (.iconst 1, 1) := by decide +kernel
theorem dL_law_717 : decode cL_law 717 = .ok (.iadd, 1) := by decide +kernel
theorem dL_law_718 : decode cL_law 718 = .ok (.iaload, 1) := by decide +kernel
theorem dL_law_719 : decode cL_law 719 = .ok (.aload_n 0, 1) := by decide +kernel
theorem dL_law_720 : decode cL_law 720 = .ok (.iload_n 3, 1) := by decide +kernel
theorem dL_law_721 : decode cL_law 721 = .ok (.iconst 2, 1) := by decide +kernel
theorem dL_law_722 : decode cL_law 722 = .ok (.iadd, 1) := by decide +kernel
theorem dL_law_723 : decode cL_law 723 = .ok (.iaload, 1) := by decide +kernel
theorem dL_law_724 : decode cL_law 724 = .ok (.invokevirtual 83, 3) := by decide +kernel
theorem dL_law_727 : decode cL_law 727 = .ok (.aload_n 2, 1) := by decide +kernel
theorem dL_law_728 : decode cL_law 728 = .ok (.aload_n 0, 1) := by decide +kernel
theorem dL_law_729 : decode cL_law 729 = .ok (.iload_n 3, 1) := by decide +kernel
theorem dL_law_730 : decode cL_law 730 = .ok (.iconst 1, 1) := by decide +kernel
theorem dL_law_731 : decode cL_law 731 = .ok (.iadd, 1) := by decide +kernel
theorem dL_law_732 : decode cL_law 732 = .ok (.iaload, 1) := by decide +kernel
theorem dL_law_733 : decode cL_law 733 = .ok (.aload_n 0, 1) := by decide +kernel
theorem dL_law_734 : decode cL_law 734 = .ok (.iload_n 3, 1) := by decide +kernel
theorem dL_law_735 : decode cL_law 735 = .ok (.iconst 2, 1) := by decide +kernel
theorem dL_law_736 : decode cL_law 736 = .ok (.iadd, 1) := by decide +kernel
theorem dL_law_737 : decode cL_law 737 = .ok (.iaload, 1) := by decide +kernel
theorem dL_law_738 : decode cL_law 738 = .ok (.invokevirtual 86, 3) := by decide +kernel
theorem dL_law_741 : decode cL_law 741 = .ok (.if_icmp .eq 91, 3) := by decide +kernel
theorem dL_law_744 : decode cL_law 744 = .ok (.iconst 0, 1) := by decide +kernel
theorem dL_law_745 : decode cL_law 745 = .ok (.ireturn, 1) := by decide +kernel
theorem dL_law_746 : decode cL_law 746 = .ok (.aload_n 1, 1) := by decide +kernel
theorem dL_law_747 : decode cL_law 747 = .ok (.aload_n 0, 1) := by decide +kernel
theorem dL_law_748 : decode cL_law 748 = .ok (.iload_n 3, 1) := by decide +kernel
theorem dL_law_749 : decode cL_law 749 = .ok (.iconst 1, 1) := by decide +kernel
theorem dL_law_750 : decode cL_law 750 = .ok (.iadd, 1) := by decide +kernel
theorem dL_law_751 : decode cL_law 751 = .ok (.iaload, 1) := by decide +kernel
theorem dL_law_752 : decode cL_law 752 = .ok (.aload_n 0, 1) := by decide +kernel
theorem dL_law_753 : decode cL_law 753 = .ok (.iload_n 3, 1) := by decide +kernel
theorem dL_law_754 : decode cL_law 754 = .ok (.iconst 2, 1) := by decide +kernel
theorem dL_law_755 : decode cL_law 755 = .ok (.iadd, 1) := by decide +kernel
theorem dL_law_756 : decode cL_law 756 = .ok (.iaload, 1) := by decide +kernel
theorem dL_law_757 : decode cL_law 757 = .ok (.aload_n 0, 1) := by decide +kernel
theorem dL_law_758 : decode cL_law 758 = .ok (.iload_n 3, 1) := by decide +kernel
theorem dL_law_759 : decode cL_law 759 = .ok (.iconst 3, 1) := by decide +kernel
theorem dL_law_760 : decode cL_law 760 = .ok (.iadd, 1) := by decide +kernel
theorem dL_law_761 : decode cL_law 761 = .ok (.iaload, 1) := by decide +kernel
theorem dL_law_762 : decode cL_law 762 = .ok (.aload_n 0, 1) := by decide +kernel
theorem dL_law_763 : decode cL_law 763 = .ok (.iload_n 3, 1) := by decide +kernel
theorem dL_law_764 : decode cL_law 764 = .ok (.iconst 4, 1) := by decide +kernel
theorem dL_law_765 : decode cL_law 765 = .ok (.iadd, 1) := by decide +kernel
theorem dL_law_766 : decode cL_law 766 = .ok (.iaload, 1) := by decide +kernel
theorem dL_law_767 : decode cL_law 767 = .ok (.aload_n 0, 1) := by decide +kernel
theorem dL_law_768 : decode cL_law 768 = .ok (.iload_n 3, 1) := by decide +kernel
theorem dL_law_769 : decode cL_law 769 = .ok (.iconst 5, 1) := by decide +kernel
theorem dL_law_770 : decode cL_law 770 = .ok (.iadd, 1) := by decide +kernel
theorem dL_law_771 : decode cL_law 771 = .ok (.iaload, 1) := by decide +kernel
theorem dL_law_772 : decode cL_law 772 = .ok (.invokevirtual 87, 3) := by decide +kernel
theorem dL_law_775 : decode cL_law 775 = .ok (.aload_n 2, 1) := by decide +kernel
theorem dL_law_776 : decode cL_law 776 = .ok (.aload_n 0, 1) := by decide +kernel
theorem dL_law_777 : decode cL_law 777 = .ok (.iload_n 3, 1) := by decide +kernel
theorem dL_law_778 : decode cL_law 778 = .ok (.iconst 1, 1) := by decide +kernel
theorem dL_law_779 : decode cL_law 779 = .ok (.iadd, 1) := by decide +kernel
theorem dL_law_780 : decode cL_law 780 = .ok (.iaload, 1) := by decide +kernel
theorem dL_law_781 : decode cL_law 781 = .ok (.aload_n 0, 1) := by decide +kernel
theorem dL_law_782 : decode cL_law 782 = .ok (.iload_n 3, 1) := by decide +kernel
theorem dL_law_783 : decode cL_law 783 = .ok (.iconst 2, 1) := by decide +kernel
theorem dL_law_784 : decode cL_law 784 = .ok (.iadd, 1) := by decide +kernel
theorem dL_law_785 : decode cL_law 785 = .ok (.iaload, 1) := by decide +kernel
theorem dL_law_786 : decode cL_law 786 = .ok (.aload_n 0, 1) := by decide +kernel
theorem dL_law_787 : decode cL_law 787 = .ok (.iload_n 3, 1) := by decide +kernel
theorem dL_law_788 : decode cL_law 788 = .ok (.iconst 3, 1) := by decide +kernel
theorem dL_law_789 : decode cL_law 789 = .ok (.iadd, 1) := by decide +kernel
theorem dL_law_790 : decode cL_law 790 = .ok (.iaload, 1) := by decide +kernel
theorem dL_law_791 : decode cL_law 791 = .ok (.aload_n 0, 1) := by decide +kernel
theorem dL_law_792 : decode cL_law 792 = .ok (.iload_n 3, 1) := by decide +kernel
theorem dL_law_793 : decode cL_law 793 = .ok (.iconst 4, 1) := by decide +kernel
theorem dL_law_794 : decode cL_law 794 = .ok (.iadd, 1) := by decide +kernel
theorem dL_law_795 : decode cL_law 795 = .ok (.iaload, 1) := by decide +kernel
theorem dL_law_796 : decode cL_law 796 = .ok (.aload_n 0, 1) := by decide +kernel
theorem dL_law_797 : decode cL_law 797 = .ok (.iload_n 3, 1) := by decide +kernel
theorem dL_law_798 : decode cL_law 798 = .ok (.iconst 5, 1) := by decide +kernel
theorem dL_law_799 : decode cL_law 799 = .ok (.iadd, 1) := by decide +kernel
theorem dL_law_800 : decode cL_law 800 = .ok (.iaload, 1) := by decide +kernel
theorem dL_law_801 : decode cL_law 801 = .ok (.invokevirtual 90, 3) := by decide +kernel
theorem dL_law_804 : decode cL_law 804 = .ok (.if_icmp .eq 28, 3) := by decide +kernel
theorem dL_law_807 : decode cL_law 807 = .ok (.iconst 0, 1) := by decide +kernel
theorem dL_law_808 : decode cL_law 808 = .ok (.ireturn, 1) := by decide +kernel
theorem dL_law_809 : decode cL_law 809 = .ok (.aload_n 1, 1) := by decide +kernel
theorem dL_law_810 : decode cL_law 810 = .ok (.aload_n 0, 1) := by decide +kernel
theorem dL_law_811 : decode cL_law 811 = .ok (.iload_n 3, 1) := by decide +kernel
theorem dL_law_812 : decode cL_law 812 = .ok (.iconst 1, 1) := by decide +kernel
theorem dL_law_813 : decode cL_law 813 = .ok (.iadd, 1) := by decide +kernel
theorem dL_law_814 : decode cL_law 814 = .ok (.iaload, 1) := by decide +kernel
theorem dL_law_815 : decode cL_law 815 = .ok (.invokevirtual 91, 3) := by decide +kernel
theorem dL_law_818 : decode cL_law 818 = .ok (.aload_n 2, 1) := by decide +kernel
theorem dL_law_819 : decode cL_law 819 = .ok (.aload_n 0, 1) := by decide +kernel
theorem dL_law_820 : decode cL_law 820 = .ok (.iload_n 3, 1) := by decide +kernel
theorem dL_law_821 : decode cL_law 821 = .ok (.iconst 1, 1) := by decide +kernel
theorem dL_law_822 : decode cL_law 822 = .ok (.iadd, 1) := by decide +kernel
theorem dL_law_823 : decode cL_law 823 = .ok (.iaload, 1) := by decide +kernel
theorem dL_law_824 : decode cL_law 824 = .ok (.invokevirtual 94, 3) := by decide +kernel
theorem dL_law_827 : decode cL_law 827 = .ok (.if_icmp .eq 5, 3) := by decide +kernel
theorem dL_law_830 : decode cL_law 830 = .ok (.iconst 0, 1) := by decide +kernel
theorem dL_law_831 : decode cL_law 831 = .ok (.ireturn, 1) := by decide +kernel
theorem dL_law_832 : decode cL_law 832 = .ok (.iinc 3 6, 3) := by decide +kernel
theorem dL_law_835 : decode cL_law 835 = .ok (.goto (-817), 3) := by decide +kernel
theorem dL_law_838 : decode cL_law 838 = .ok (.iconst 1, 1) := by decide +kernel
theorem dL_law_839 : decode cL_law 839 = .ok (.ireturn, 1) := by decide +kernel
