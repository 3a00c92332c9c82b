theorem dX0_of_0 : decode cX0_of 0 = .ok (.iload_n 0, 1) := by decide +kernel
theorem dX0_of_1 : decode cX0_of 1 = .ok (.bipush 6, 2) := by decide +kernel
theorem dX0_of_3 : decode cX0_of 3 = .ok (.ishl, 1) := by decide +kernel
theorem dX0_of_4 : decode cX0_of 4 = .ok (.iload_n 1, 1) := by decide +kernel
theorem dX0_of_5 : decode cX0_of 5 = .ok (.iconst 3, 1) := by decide +kernel
theorem dX0_of_6 : decode cX0_of 6 = .ok (.ishl, 1) := by decide +kernel
theorem dX0_of_7 : decode cX0_of 7 = .ok (.ior, 1) := by decide +kernel
theorem dX0_of_8 : decode cX0_of 8 = .ok (.iload_n 2, 1) := by decide +kernel
theorem dX0_of_9 : decode cX0_of 9 = .ok (.ior, 1) := by decide +kernel
theorem dX0_of_10 : decode cX0_of 10 = .ok (.ireturn, 1) := by decide +kernel
theorem dX0_number_0 : decode cX0_number 0 = .ok (.iload_n 0, 1) := by decide +kernel
theorem dX0_number_1 : decode cX0_number 1 = .ok (.bipush 6, 2) := by decide +kernel
theorem dX0_number_3 : decode cX0_number 3 = .ok (.ishr, 1) := by decide +kernel
theorem dX0_number_4 : decode cX0_number 4 = .ok (.ireturn, 1) := by decide +kernel
theorem dX0_a_0 : decode cX0_a 0 = .ok (.iload_n 0, 1) := by decide +kernel
theorem dX0_a_1 : decode cX0_a 1 = .ok (.iconst 3, 1) := by decide +kernel
theorem dX0_a_2 : decode cX0_a 2 = .ok (.ishr, 1) := by decide +kernel
theorem dX0_a_3 : decode cX0_a 3 = .ok (.bipush 7, 2) := by decide +kernel
theorem dX0_a_5 : decode cX0_a 5 = .ok (.iand, 1) := by decide +kernel
theorem dX0_a_6 : decode cX0_a 6 = .ok (.ireturn, 1) := by decide +kernel
theorem dX0_b_0 : decode cX0_b 0 = .ok (.iload_n 0, 1) := by decide +kernel
theorem dX0_b_1 : decode cX0_b 1 = .ok (.bipush 7, 2) := by decide +kernel
theorem dX0_b_3 : decode cX0_b 3 = .ok (.iand, 1) := by decide +kernel
theorem dX0_b_4 : decode cX0_b 4 = .ok (.ireturn, 1) := by decide +kernel
theorem dX1_init_0 : decode cX1_init 0 = .ok (.aload_n 0, 1) := by decide +kernel
theorem dX1_init_1 : decode cX1_init 1 = .ok (.invokespecial 3, 3) := by decide +kernel
theorem dX1_init_4 : decode cX1_init 4 = .ok (.aload_n 0, 1) := by decide +kernel
theorem dX1_init_5 : decode cX1_init 5 = .ok (.new 9, 3) := by decide +kernel
theorem dX1_init_8 : decode cX1_init 8 = .ok (.dup, 1) := by decide +kernel
theorem dX1_init_9 : decode cX1_init 9 = .ok (.invokespecial 11, 3) := by decide +kernel
theorem dX1_init_12 : decode cX1_init 12 = .ok (.putfield 12, 3) := by decide +kernel
theorem dX1_init_15 : decode cX1_init 15 = .ok (.aload_n 0, 1) := by decide +kernel
theorem dX1_init_16 : decode cX1_init 16 = .ok (.new 9, 3) := by decide +kernel
theorem dX1_init_19 : decode cX1_init 19 = .ok (.dup, 1) := by decide +kernel
theorem dX1_init_20 : decode cX1_init 20 = .ok (.invokespecial 11, 3) := by decide +kernel
theorem dX1_init_23 : decode cX1_init 23 = .ok (.putfield 18, 3) := by decide +kernel
theorem dX1_init_26 : decode cX1_init 26 = .ok (.aload_n 0, 1) := by decide +kernel
theorem dX1_init_27 : decode cX1_init 27 = .ok (.new 9, 3) := by decide +kernel
theorem dX1_init_30 : decode cX1_init 30 = .ok (.dup, 1) := by decide +kernel
theorem dX1_init_31 : decode cX1_init 31 = .ok (.invokespecial 11, 3) := by decide +kernel
theorem dX1_init_34 : decode cX1_init 34 = .ok (.putfield 21, 3) := by decide +kernel
theorem dX1_init_37 : decode cX1_init 37 = .ok (.aload_n 0, 1) := by decide +kernel
theorem dX1_init_38 : decode cX1_init 38 = .ok (.new 9, 3) := by decide +kernel
theorem dX1_init_41 : decode cX1_init 41 = .ok (.dup, 1) := by decide +kernel
theorem dX1_init_42 : decode cX1_init 42 = .ok (.invokespecial 11, 3) := by decide +kernel
theorem dX1_init_45 : decode cX1_init 45 = .ok (.putfield 24, 3) := by decide +kernel
theorem dX1_init_48 : decode cX1_init 48 = .ok (.aload_n 0, 1) := by decide +kernel
theorem dX1_init_49 : decode cX1_init 49 = .ok (.new 9, 3) := by decide +kernel
theorem dX1_init_52 : decode cX1_init 52 = .ok (.dup, 1) := by decide +kernel
theorem dX1_init_53 : decode cX1_init 53 = .ok (.invokespecial 11, 3) := by decide +kernel
theorem dX1_init_56 : decode cX1_init 56 = .ok (.putfield 27, 3) := by decide +kernel
theorem dX1_init_59 : decode cX1_init 59 = .ok (.aload_n 0, 1) := by decide +kernel
theorem dX1_init_60 : decode cX1_init 60 = .ok (.new 9, 3) := by decide +kernel
theorem dX1_init_63 : decode cX1_init 63 = .ok (.dup, 1) := by decide +kernel
theorem dX1_init_64 : decode cX1_init 64 = .ok (.invokespecial 11, 3) := by decide +kernel
theorem dX1_init_67 : decode cX1_init 67 = .ok (.putfield 30, 3) := by decide +kernel
theorem dX1_init_70 : decode cX1_init 70 = .ok (.aload_n 0, 1) := by decide +kernel
theorem dX1_init_71 : decode cX1_init 71 = .ok (.new 9, 3) := by decide +kernel
theorem dX1_init_74 : decode cX1_init 74 = .ok (.dup, 1) := by decide +kernel
theorem dX1_init_75 : decode cX1_init 75 = .ok (.invokespecial 11, 3) := by decide +kernel
theorem dX1_init_78 : decode cX1_init 78 = .ok (.putfield 33, 3) := by decide +kernel
theorem dX1_init_81 : decode cX1_init 81 = .ok (.aload_n 0, 1) := by decide +kernel
theorem dX1_init_82 : decode cX1_init 82 = .ok (.iconst 0, 1) := by decide +kernel
theorem dX1_init_83 : decode cX1_init 83 = .ok (.putfield 36, 3) := by decide +kernel
theorem dX1_init_86 : decode cX1_init 86 = .ok (.aload_n 0, 1) := by decide +kernel
theorem dX1_init_87 : decode cX1_init 87 = .ok (.sipush 1500, 3) := by decide +kernel
theorem dX1_init_90 : decode cX1_init 90 = .ok (.anewarray 40, 3) := by decide +kernel
theorem dX1_init_93 : decode cX1_init 93 = .ok (.putfield 42, 3) := by decide +kernel
theorem dX1_init_96 : decode cX1_init 96 = .ok (.aload_n 0, 1) := by decide +kernel
theorem dX1_init_97 : decode cX1_init 97 = .ok (.sipush 4096, 3) := by decide +kernel
theorem dX1_init_100 : decode cX1_init 100 = .ok (.newarray .int, 2) := by decide +kernel
theorem dX1_init_102 : decode cX1_init 102 = .ok (.putfield 46, 3) := by decide +kernel
theorem dX1_init_105 : decode cX1_init 105 = .ok (.aload_n 0, 1) := by decide +kernel
theorem dX1_init_106 : decode cX1_init 106 = .ok (.sipush 1024, 3) := by decide +kernel
theorem dX1_init_109 : decode cX1_init 109 = .ok (.newarray .int, 2) := by decide +kernel
theorem dX1_init_111 : decode cX1_init 111 = .ok (.putfield 50, 3) := by decide +kernel
theorem dX1_init_114 : decode cX1_init 114 = .ok (.aload_n 0, 1) := by decide +kernel
theorem dX1_init_115 : decode cX1_init 115 = .ok (.iconst 0, 1) := by decide +kernel
theorem dX1_init_116 : decode cX1_init 116 = .ok (.putfield 53, 3) := by decide +kernel
theorem dX1_init_119 : decode cX1_init 119 = .ok (.aload_n 0, 1) := by decide +kernel
theorem dX1_init_120 : decode cX1_init 120 = .ok (.new 57, 3) := by decide +kernel
theorem dX1_init_123 : decode cX1_init 123 = .ok (.dup, 1) := by decide +kernel
theorem dX1_init_124 : decode cX1_init 124 = .ok (.invokespecial 59, 3) := by decide +kernel
theorem dX1_init_127 : decode cX1_init 127 = .ok (.putfield 60, 3) := by decide +kernel
theorem dX1_init_130 : decode cX1_init 130 = .ok (.aload_n 0, 1) := by decide +kernel
theorem dX1_init_131 : decode cX1_init 131 = .ok (.iconst 0, 1) := by decide +kernel
theorem dX1_init_132 : decode cX1_init 132 = .ok (.putfield 64, 3) := by decide +kernel
theorem dX1_init_135 : decode cX1_init 135 = .ok (.aload_n 0, 1) := by decide +kernel
theorem dX1_init_136 : decode cX1_init 136 = .ok (.iconst 0, 1) := by decide +kernel
theorem dX1_init_137 : decode cX1_init 137 = .ok (.putfield 67, 3) := by decide +kernel
theorem dX1_init_140 : decode cX1_init 140 = .ok (.aload_n 0, 1) := by decide +kernel
theorem dX1_init_141 : decode cX1_init 141 = .ok (.iconst 0, 1) := by decide +kernel
theorem dX1_init_142 : decode cX1_init 142 = .ok (.putfield 70, 3) := by decide +kernel
theorem dX1_init_145 : decode cX1_init 145 = .ok (.aload_n 0, 1) := by decide +kernel
theorem dX1_init_146 : decode cX1_init 146 = .ok (.aload_n 1, 1) := by decide +kernel
theorem dX1_init_147 : decode cX1_init 147 = .ok (.putfield 73, 3) := by decide +kernel
theorem dX1_init_150 : decode cX1_init 150 = .ok (.return_, 1) := by decide +kernel
theorem dX1_seek_0 : decode cX1_seek 0 = .ok (.aload_n 0, 1) := by decide +kernel
theorem dX1_seek_1 : decode cX1_seek 1 = .ok (.aload_n 1, 1) := by decide +kernel
theorem dX1_seek_2 : decode cX1_seek 2 = .ok (.aload_n 2, 1) := by decide +kernel
theorem dX1_seek_3 : decode cX1_seek 3 = .ok (.aload_n 3, 1) := by decide +kernel
theorem dX1_seek_4 : decode cX1_seek 4 = .ok (.aload 4, 2) := by decide +kernel
theorem dX1_seek_6 : decode cX1_seek 6 = .ok (.invokevirtual 77, 3) := by decide +kernel
theorem dX1_seek_9 : decode cX1_seek 9 = .ok (.aload_n 0, 1) := by decide +kernel
theorem dX1_seek_10 : decode cX1_seek 10 = .ok (.getfield 67, 3) := by decide +kernel
theorem dX1_seek_13 : decode cX1_seek 13 = .ok (.ifCond .le 11, 3) := by decide +kernel
theorem dX1_seek_16 : decode cX1_seek 16 = .ok (.aload_n 0, 1) := by decide +kernel
theorem dX1_seek_17 : decode cX1_seek 17 = .ok (.iconst 0, 1) := by decide +kernel
theorem dX1_seek_18 : decode cX1_seek 18 = .ok (.iconst 0, 1) := by decide +kernel
theorem dX1_seek_19 : decode cX1_seek 19 = .ok (.invokevirtual 81, 3) := by decide +kernel
theorem dX1_seek_22 : decode cX1_seek 22 = .ok (.iconst 0, 1) := by decide +kernel
theorem dX1_seek_23 : decode cX1_seek 23 = .ok (.ireturn, 1) := by decide +kernel
theorem dX1_seek_24 : decode cX1_seek 24 = .ok (.iconst 0, 1) := by decide +kernel
theorem dX1_seek_25 : decode cX1_seek 25 = .ok (.istore 6, 2) := by decide +kernel
theorem dX1_seek_27 : decode cX1_seek 27 = .ok (.iconst 1, 1) := by decide +kernel
theorem dX1_seek_28 : decode cX1_seek 28 = .ok (.istore 7, 2) := by decide +kernel
theorem dX1_seek_30 : decode cX1_seek 30 = .ok (.iload 7, 2) := by decide +kernel
theorem dX1_seek_32 : decode cX1_seek 32 = .ok (.iload 5, 2) := by decide +kernel
theorem dX1_seek_34 : decode cX1_seek 34 = .ok (.if_icmp .gt 73, 3) := by decide +kernel
theorem dX1_seek_37 : decode cX1_seek 37 = .ok (.aload_n 0, 1) := by decide +kernel
theorem dX1_seek_38 : decode cX1_seek 38 = .ok (.getfield 64, 3) := by decide +kernel
theorem dX1_seek_41 : decode cX1_seek 41 = .ok (.istore 8, 2) := by decide +kernel
theorem dX1_seek_43 : decode cX1_seek 43 = .ok (.iload 6, 2) := by decide +kernel
theorem dX1_seek_45 : decode cX1_seek 45 = .ok (.istore 9, 2) := by decide +kernel
theorem dX1_seek_47 : decode cX1_seek 47 = .ok (.iload 9, 2) := by decide +kernel
theorem dX1_seek_49 : decode cX1_seek 49 = .ok (.iload 8, 2) := by decide +kernel
theorem dX1_seek_51 : decode cX1_seek 51 = .ok (.if_icmp .ge 28, 3) := by decide +kernel
theorem dX1_seek_54 : decode cX1_seek 54 = .ok (.aload_n 0, 1) := by decide +kernel
theorem dX1_seek_55 : decode cX1_seek 55 = .ok (.aload_n 0, 1) := by decide +kernel
theorem dX1_seek_56 : decode cX1_seek 56 = .ok (.getfield 42, 3) := by decide +kernel
theorem dX1_seek_59 : decode cX1_seek 59 = .ok (.iload 9, 2) := by decide +kernel
theorem dX1_seek_61 : decode cX1_seek 61 = .ok (.aaload, 1) := by decide +kernel
theorem dX1_seek_62 : decode cX1_seek 62 = .ok (.iload 8, 2) := by decide +kernel
theorem dX1_seek_64 : decode cX1_seek 64 = .ok (.invokevirtual 85, 3) := by decide +kernel
theorem dX1_seek_67 : decode cX1_seek 67 = .ok (.ifCond .ne 6, 3) := by decide +kernel
theorem dX1_seek_70 : decode cX1_seek 70 = .ok (.bipush (-3), 2) := by decide +kernel
theorem dX1_seek_72 : decode cX1_seek 72 = .ok (.ireturn, 1) := by decide +kernel
theorem dX1_seek_73 : decode cX1_seek 73 = .ok (.iinc 9 1, 3) := by decide +kernel
theorem dX1_seek_76 : decode cX1_seek 76 = .ok (.goto (-29), 3) := by decide +kernel
theorem dX1_seek_79 : decode cX1_seek 79 = .ok (.aload_n 0, 1) := by decide +kernel
theorem dX1_seek_80 : decode cX1_seek 80 = .ok (.getfield 67, 3) := by decide +kernel
theorem dX1_seek_83 : decode cX1_seek 83 = .ok (.ifCond .le 14, 3) := by decide +kernel
theorem dX1_seek_86 : decode cX1_seek 86 = .ok (.aload_n 0, 1) := by decide +kernel
theorem dX1_seek_87 : decode cX1_seek 87 = .ok (.iload 7, 2) := by decide +kernel
theorem dX1_seek_89 : decode cX1_seek 89 = .ok (.iload 8, 2) := by decide +kernel
theorem dX1_seek_91 : decode cX1_seek 91 = .ok (.invokevirtual 81, 3) := by decide +kernel
theorem dX1_seek_94 : decode cX1_seek 94 = .ok (.iload 7, 2) := by decide +kernel
theorem dX1_seek_96 : decode cX1_seek 96 = .ok (.ireturn, 1) := by decide +kernel
theorem dX1_seek_97 : decode cX1_seek 97 = .ok (.iload 8, 2) := by decide +kernel
theorem dX1_seek_99 : decode cX1_seek 99 = .ok (.istore 6, 2) := by decide +kernel
theorem dX1_seek_101 : decode cX1_seek 101 = .ok (.iinc 7 1, 3) := by decide +kernel
theorem dX1_seek_104 : decode cX1_seek 104 = .ok (.goto (-74), 3) := by decide +kernel
theorem dX1_seek_107 : decode cX1_seek 107 = .ok (.iconst (-1), 1) := by decide +kernel
theorem dX1_seek_108 : decode cX1_seek 108 = .ok (.ireturn, 1) := by decide +kernel
theorem dX1_begin_0 : decode cX1_begin 0 = .ok (.aload_n 0, 1) := by decide +kernel
theorem dX1_begin_1 : decode cX1_begin 1 = .ok (.getfield 46, 3) := by decide +kernel
theorem dX1_begin_4 : decode cX1_begin 4 = .ok (.iconst 0, 1) := by decide +kernel
theorem dX1_begin_5 : decode cX1_begin 5 = .ok (.invokestatic 89, 3) := by decide +kernel
theorem dX1_begin_8 : decode cX1_begin 8 = .ok (.aload_n 0, 1) := by decide +kernel
theorem dX1_begin_9 : decode cX1_begin 9 = .ok (.getfield 60, 3) := by decide +kernel
theorem dX1_begin_12 : decode cX1_begin 12 = .ok (.invokevirtual 95, 3) := by decide +kernel
theorem dX1_begin_15 : decode cX1_begin 15 = .ok (.aload_n 0, 1) := by decide +kernel
theorem dX1_begin_16 : decode cX1_begin 16 = .ok (.iconst 0, 1) := by decide +kernel
theorem dX1_begin_17 : decode cX1_begin 17 = .ok (.putfield 64, 3) := by decide +kernel
theorem dX1_begin_20 : decode cX1_begin 20 = .ok (.aload_n 0, 1) := by decide +kernel
theorem dX1_begin_21 : decode cX1_begin 21 = .ok (.iconst 0, 1) := by decide +kernel
theorem dX1_begin_22 : decode cX1_begin 22 = .ok (.putfield 53, 3) := by decide +kernel
theorem dX1_begin_25 : decode cX1_begin 25 = .ok (.aload_n 0, 1) := by decide +kernel
theorem dX1_begin_26 : decode cX1_begin 26 = .ok (.iconst 0, 1) := by decide +kernel
theorem dX1_begin_27 : decode cX1_begin 27 = .ok (.putfield 67, 3) := by decide +kernel
theorem dX1_begin_30 : decode cX1_begin 30 = .ok (.aload_n 0, 1) := by decide +kernel
theorem dX1_begin_31 : decode cX1_begin 31 = .ok (.iconst 0, 1) := by decide +kernel
theorem dX1_begin_32 : decode cX1_begin 32 = .ok (.putfield 70, 3) := by decide +kernel
theorem dX1_begin_35 : decode cX1_begin 35 = .ok (.aload_n 0, 1) := by decide +kernel
theorem dX1_begin_36 : decode cX1_begin 36 = .ok (.aload_n 3, 1) := by decide +kernel
theorem dX1_begin_37 : decode cX1_begin 37 = .ok (.ifnull 12, 3) := by decide +kernel
theorem dX1_begin_40 : decode cX1_begin 40 = .ok (.aload 4, 2) := by decide +kernel
theorem dX1_begin_42 : decode cX1_begin 42 = .ok (.ifnull 7, 3) := by decide +kernel
theorem dX1_begin_45 : decode cX1_begin 45 = .ok (.iconst 1, 1) := by decide +kernel
theorem dX1_begin_46 : decode cX1_begin 46 = .ok (.goto 4, 3) := by decide +kernel
theorem dX1_begin_49 : decode cX1_begin 49 = .ok (.iconst 0, 1) := by decide +kernel
theorem dX1_begin_50 : decode cX1_begin 50 = .ok (.putfield 36, 3) := by decide +kernel
theorem dX1_begin_53 : decode cX1_begin 53 = .ok (.aload_n 0, 1) := by decide +kernel
theorem dX1_begin_54 : decode cX1_begin 54 = .ok (.getfield 21, 3) := by decide +kernel
theorem dX1_begin_57 : decode cX1_begin 57 = .ok (.aload_n 1, 1) := by decide +kernel
theorem dX1_begin_58 : decode cX1_begin 58 = .ok (.invokevirtual 98, 3) := by decide +kernel
theorem dX1_begin_61 : decode cX1_begin 61 = .ok (.aload_n 0, 1) := by decide +kernel
theorem dX1_begin_62 : decode cX1_begin 62 = .ok (.getfield 27, 3) := by decide +kernel
theorem dX1_begin_65 : decode cX1_begin 65 = .ok (.aload_n 2, 1) := by decide +kernel
theorem dX1_begin_66 : decode cX1_begin 66 = .ok (.invokevirtual 98, 3) := by decide +kernel
theorem dX1_begin_69 : decode cX1_begin 69 = .ok (.aload_n 0, 1) := by decide +kernel
theorem dX1_begin_70 : decode cX1_begin 70 = .ok (.getfield 24, 3) := by decide +kernel
theorem dX1_begin_73 : decode cX1_begin 73 = .ok (.aload_n 3, 1) := by decide +kernel
theorem dX1_begin_74 : decode cX1_begin 74 = .ok (.ifnull 7, 3) := by decide +kernel
theorem dX1_begin_77 : decode cX1_begin 77 = .ok (.aload_n 3, 1) := by decide +kernel
theorem dX1_begin_78 : decode cX1_begin 78 = .ok (.goto 7, 3) := by decide +kernel
theorem dX1_begin_81 : decode cX1_begin 81 = .ok (.aload_n 0, 1) := by decide +kernel
theorem dX1_begin_82 : decode cX1_begin 82 = .ok (.getfield 33, 3) := by decide +kernel
theorem dX1_begin_85 : decode cX1_begin 85 = .ok (.invokevirtual 98, 3) := by decide +kernel
theorem dX1_begin_88 : decode cX1_begin 88 = .ok (.aload_n 0, 1) := by decide +kernel
theorem dX1_begin_89 : decode cX1_begin 89 = .ok (.getfield 30, 3) := by decide +kernel
theorem dX1_begin_92 : decode cX1_begin 92 = .ok (.aload 4, 2) := by decide +kernel
theorem dX1_begin_94 : decode cX1_begin 94 = .ok (.ifnull 8, 3) := by decide +kernel
theorem dX1_begin_97 : decode cX1_begin 97 = .ok (.aload 4, 2) := by decide +kernel
theorem dX1_begin_99 : decode cX1_begin 99 = .ok (.goto 7, 3) := by decide +kernel
theorem dX1_begin_102 : decode cX1_begin 102 = .ok (.aload_n 0, 1) := by decide +kernel
theorem dX1_begin_103 : decode cX1_begin 103 = .ok (.getfield 33, 3) := by decide +kernel
theorem dX1_begin_106 : decode cX1_begin 106 = .ok (.invokevirtual 98, 3) := by decide +kernel
theorem dX1_begin_109 : decode cX1_begin 109 = .ok (.aload_n 0, 1) := by decide +kernel
theorem dX1_begin_110 : decode cX1_begin 110 = .ok (.invokevirtual 102, 3) := by decide +kernel
theorem dX1_begin_113 : decode cX1_begin 113 = .ok (.istore 5, 2) := by decide +kernel
theorem dX1_begin_115 : decode cX1_begin 115 = .ok (.aload_n 0, 1) := by decide +kernel
theorem dX1_begin_116 : decode cX1_begin 116 = .ok (.aload_n 0, 1) := by decide +kernel
theorem dX1_begin_117 : decode cX1_begin 117 = .ok (.iload 5, 2) := by decide +kernel
theorem dX1_begin_119 : decode cX1_begin 119 = .ok (.invokevirtual 106, 3) := by decide +kernel
theorem dX1_begin_122 : decode cX1_begin 122 = .ok (.iload 5, 2) := by decide +kernel
theorem dX1_begin_124 : decode cX1_begin 124 = .ok (.invokevirtual 110, 3) := by decide +kernel
theorem dX1_begin_127 : decode cX1_begin 127 = .ok (.pop, 1) := by decide +kernel
theorem dX1_begin_128 : decode cX1_begin 128 = .ok (.aload_n 0, 1) := by decide +kernel
theorem dX1_begin_129 : decode cX1_begin 129 = .ok (.getfield 42, 3) := by decide +kernel
theorem dX1_begin_132 : decode cX1_begin 132 = .ok (.iconst 0, 1) := by decide +kernel
theorem dX1_begin_133 : decode cX1_begin 133 = .ok (.aaload, 1) := by decide +kernel
theorem dX1_begin_134 : decode cX1_begin 134 = .ok (.iconst 1, 1) := by decide +kernel
theorem dX1_begin_135 : decode cX1_begin 135 = .ok (.putfield 114, 3) := by decide +kernel
theorem dX1_begin_138 : decode cX1_begin 138 = .ok (.return_, 1) := by decide +kernel
theorem dX1_expand_0 : decode cX1_expand 0 = .ok (.aload_n 1, 1) := by decide +kernel
theorem dX1_expand_1 : decode cX1_expand 1 = .ok (.aload_n 0, 1) := by decide +kernel
theorem dX1_expand_2 : decode cX1_expand 2 = .ok (.getfield 12, 3) := by decide +kernel
theorem dX1_expand_5 : decode cX1_expand 5 = .ok (.aload_n 0, 1) := by decide +kernel
theorem dX1_expand_6 : decode cX1_expand 6 = .ok (.getfield 18, 3) := by decide +kernel
theorem dX1_expand_9 : decode cX1_expand 9 = .ok (.invokevirtual 117, 3) := by decide +kernel
theorem dX1_expand_12 : decode cX1_expand 12 = .ok (.aload_n 1, 1) := by decide +kernel
theorem dX1_expand_13 : decode cX1_expand 13 = .ok (.aload_n 0, 1) := by decide +kernel
theorem dX1_expand_14 : decode cX1_expand 14 = .ok (.getfield 53, 3) := by decide +kernel
theorem dX1_expand_17 : decode cX1_expand 17 = .ok (.putfield 121, 3) := by decide +kernel
theorem dX1_expand_20 : decode cX1_expand 20 = .ok (.aload_n 1, 1) := by decide +kernel
theorem dX1_expand_21 : decode cX1_expand 21 = .ok (.aload_n 0, 1) := by decide +kernel
theorem dX1_expand_22 : decode cX1_expand 22 = .ok (.getfield 53, 3) := by decide +kernel
theorem dX1_expand_25 : decode cX1_expand 25 = .ok (.putfield 124, 3) := by decide +kernel
theorem dX1_expand_28 : decode cX1_expand 28 = .ok (.aload_n 0, 1) := by decide +kernel
theorem dX1_expand_29 : decode cX1_expand 29 = .ok (.getfield 12, 3) := by decide +kernel
theorem dX1_expand_32 : decode cX1_expand 32 = .ok (.invokevirtual 127, 3) := by decide +kernel
theorem dX1_expand_35 : decode cX1_expand 35 = .ok (.aload_n 0, 1) := by decide +kernel
theorem dX1_expand_36 : decode cX1_expand 36 = .ok (.getfield 18, 3) := by decide +kernel
theorem dX1_expand_39 : decode cX1_expand 39 = .ok (.invokevirtual 127, 3) := by decide +kernel
theorem dX1_expand_42 : decode cX1_expand 42 = .ok (.iadd, 1) := by decide +kernel
theorem dX1_expand_43 : decode cX1_expand 43 = .ok (.ifCond .le 5, 3) := by decide +kernel
theorem dX1_expand_46 : decode cX1_expand 46 = .ok (.iconst 1, 1) := by decide +kernel
theorem dX1_expand_47 : decode cX1_expand 47 = .ok (.ireturn, 1) := by decide +kernel
theorem dX1_expand_48 : decode cX1_expand 48 = .ok (.iconst 1, 1) := by decide +kernel
theorem dX1_expand_49 : decode cX1_expand 49 = .ok (.istore_n 3, 1) := by decide +kernel
theorem dX1_expand_50 : decode cX1_expand 50 = .ok (.iload_n 3, 1) := by decide +kernel
theorem dX1_expand_51 : decode cX1_expand 51 = .ok (.bipush 14, 2) := by decide +kernel
theorem dX1_expand_53 : decode cX1_expand 53 = .ok (.if_icmp .gt 137, 3) := by decide +kernel
theorem dX1_expand_56 : decode cX1_expand 56 = .ok (.iload_n 3, 1) := by decide +kernel
theorem dX1_expand_57 : decode cX1_expand 57 = .ok (.invokestatic 132, 3) := by decide +kernel
theorem dX1_expand_60 : decode cX1_expand 60 = .ok (.istore 4, 2) := by decide +kernel
theorem dX1_expand_62 : decode cX1_expand 62 = .ok (.iload_n 3, 1) := by decide +kernel
theorem dX1_expand_63 : decode cX1_expand 63 = .ok (.invokestatic 135, 3) := by decide +kernel
theorem dX1_expand_66 : decode cX1_expand 66 = .ok (.istore 5, 2) := by decide +kernel
theorem dX1_expand_68 : decode cX1_expand 68 = .ok (.iconst 0, 1) := by decide +kernel
theorem dX1_expand_69 : decode cX1_expand 69 = .ok (.istore 6, 2) := by decide +kernel
theorem dX1_expand_71 : decode cX1_expand 71 = .ok (.iload 6, 2) := by decide +kernel
theorem dX1_expand_73 : decode cX1_expand 73 = .ok (.iload 4, 2) := by decide +kernel
theorem dX1_expand_75 : decode cX1_expand 75 = .ok (.if_icmp .gt 109, 3) := by decide +kernel
theorem dX1_expand_78 : decode cX1_expand 78 = .ok (.iconst 0, 1) := by decide +kernel
theorem dX1_expand_79 : decode cX1_expand 79 = .ok (.istore 7, 2) := by decide +kernel
theorem dX1_expand_81 : decode cX1_expand 81 = .ok (.iload 7, 2) := by decide +kernel
theorem dX1_expand_83 : decode cX1_expand 83 = .ok (.iload 5, 2) := by decide +kernel
theorem dX1_expand_85 : decode cX1_expand 85 = .ok (.if_icmp .gt 93, 3) := by decide +kernel
theorem dX1_expand_88 : decode cX1_expand 88 = .ok (.aload_n 0, 1) := by decide +kernel
theorem dX1_expand_89 : decode cX1_expand 89 = .ok (.getfield 73, 3) := by decide +kernel
theorem dX1_expand_92 : decode cX1_expand 92 = .ok (.aload_n 0, 1) := by decide +kernel
theorem dX1_expand_93 : decode cX1_expand 93 = .ok (.getfield 12, 3) := by decide +kernel
theorem dX1_expand_96 : decode cX1_expand 96 = .ok (.aload_n 0, 1) := by decide +kernel
theorem dX1_expand_97 : decode cX1_expand 97 = .ok (.getfield 21, 3) := by decide +kernel
theorem dX1_expand_100 : decode cX1_expand 100 = .ok (.iload_n 3, 1) := by decide +kernel
theorem dX1_expand_101 : decode cX1_expand 101 = .ok (.iload 6, 2) := by decide +kernel
theorem dX1_expand_103 : decode cX1_expand 103 = .ok (.iload 7, 2) := by decide +kernel
theorem dX1_expand_105 : decode cX1_expand 105 = .ok (.invokevirtual 138, 3) := by decide +kernel
theorem dX1_expand_108 : decode cX1_expand 108 = .ok (.ifCond .eq 37, 3) := by decide +kernel
theorem dX1_expand_111 : decode cX1_expand 111 = .ok (.aload_n 0, 1) := by decide +kernel
theorem dX1_expand_112 : decode cX1_expand 112 = .ok (.getfield 36, 3) := by decide +kernel
theorem dX1_expand_115 : decode cX1_expand 115 = .ok (.ifCond .eq 26, 3) := by decide +kernel
theorem dX1_expand_118 : decode cX1_expand 118 = .ok (.aload_n 0, 1) := by decide +kernel
theorem dX1_expand_119 : decode cX1_expand 119 = .ok (.getfield 73, 3) := by decide +kernel
theorem dX1_expand_122 : decode cX1_expand 122 = .ok (.aload_n 0, 1) := by decide +kernel
theorem dX1_expand_123 : decode cX1_expand 123 = .ok (.getfield 18, 3) := by decide +kernel
theorem dX1_expand_126 : decode cX1_expand 126 = .ok (.aload_n 0, 1) := by decide +kernel
theorem dX1_expand_127 : decode cX1_expand 127 = .ok (.getfield 24, 3) := by decide +kernel
theorem dX1_expand_130 : decode cX1_expand 130 = .ok (.iload_n 3, 1) := by decide +kernel
theorem dX1_expand_131 : decode cX1_expand 131 = .ok (.iload 6, 2) := by decide +kernel
theorem dX1_expand_133 : decode cX1_expand 133 = .ok (.iload 7, 2) := by decide +kernel
theorem dX1_expand_135 : decode cX1_expand 135 = .ok (.invokevirtual 138, 3) := by decide +kernel
theorem dX1_expand_138 : decode cX1_expand 138 = .ok (.ifCond .eq 7, 3) := by decide +kernel
theorem dX1_expand_141 : decode cX1_expand 141 = .ok (.iconst 1, 1) := by decide +kernel
theorem dX1_expand_142 : decode cX1_expand 142 = .ok (.goto 4, 3) := by decide +kernel
theorem dX1_expand_145 : decode cX1_expand 145 = .ok (.iconst 0, 1) := by decide +kernel
theorem dX1_expand_146 : decode cX1_expand 146 = .ok (.istore 8, 2) := by decide +kernel
theorem dX1_expand_148 : decode cX1_expand 148 = .ok (.iload 8, 2) := by decide +kernel
theorem dX1_expand_150 : decode cX1_expand 150 = .ok (.ifCond .eq 22, 3) := by decide +kernel
theorem dX1_expand_153 : decode cX1_expand 153 = .ok (.aload_n 0, 1) := by decide +kernel
theorem dX1_expand_154 : decode cX1_expand 154 = .ok (.aload_n 1, 1) := by decide +kernel
theorem dX1_expand_155 : decode cX1_expand 155 = .ok (.iload_n 3, 1) := by decide +kernel
theorem dX1_expand_156 : decode cX1_expand 156 = .ok (.iload 6, 2) := by decide +kernel
theorem dX1_expand_158 : decode cX1_expand 158 = .ok (.iload 7, 2) := by decide +kernel
theorem dX1_expand_160 : decode cX1_expand 160 = .ok (.invokestatic 142, 3) := by decide +kernel
theorem dX1_expand_163 : decode cX1_expand 163 = .ok (.iload_n 2, 1) := by decide +kernel
theorem dX1_expand_164 : decode cX1_expand 164 = .ok (.invokevirtual 148, 3) := by decide +kernel
theorem dX1_expand_167 : decode cX1_expand 167 = .ok (.ifCond .ne 5, 3) := by decide +kernel
theorem dX1_expand_170 : decode cX1_expand 170 = .ok (.iconst 0, 1) := by decide +kernel
theorem dX1_expand_171 : decode cX1_expand 171 = .ok (.ireturn, 1) := by decide +kernel
theorem dX1_expand_172 : decode cX1_expand 172 = .ok (.iinc 7 1, 3) := by decide +kernel
theorem dX1_expand_175 : decode cX1_expand 175 = .ok (.goto (-94), 3) := by decide +kernel
theorem dX1_expand_178 : decode cX1_expand 178 = .ok (.iinc 6 1, 3) := by decide +kernel
theorem dX1_expand_181 : decode cX1_expand 181 = .ok (.goto (-110), 3) := by decide +kernel
theorem dX1_expand_184 : decode cX1_expand 184 = .ok (.iinc 3 1, 3) := by decide +kernel
theorem dX1_expand_187 : decode cX1_expand 187 = .ok (.goto (-137), 3) := by decide +kernel
theorem dX1_expand_190 : decode cX1_expand 190 = .ok (.aload_n 1, 1) := by decide +kernel
theorem dX1_expand_191 : decode cX1_expand 191 = .ok (.aload_n 0, 1) := by decide +kernel
theorem dX1_expand_192 : decode cX1_expand 192 = .ok (.getfield 53, 3) := by decide +kernel
theorem dX1_expand_195 : decode cX1_expand 195 = .ok (.putfield 124, 3) := by decide +kernel
theorem dX1_expand_198 : decode cX1_expand 198 = .ok (.iconst 1, 1) := by decide +kernel
theorem dX1_expand_199 : decode cX1_expand 199 = .ok (.ireturn, 1) := by decide +kernel
theorem dX1_mostA_0 : decode cX1_mostA 0 = .ok (.iload_n 0, 1) := by decide +kernel
theorem dX1_mostA_1 : decode cX1_mostA 1 = .ok (.invokestatic 152, 3) := by decide +kernel
theorem dX1_mostA_4 : decode cX1_mostA 4 = .ok (.ifCond .ne 7, 3) := by decide +kernel
theorem dX1_mostA_7 : decode cX1_mostA 7 = .ok (.iconst 0, 1) := by decide +kernel
theorem dX1_mostA_8 : decode cX1_mostA 8 = .ok (.goto 4, 3) := by decide +kernel
theorem dX1_mostA_11 : decode cX1_mostA 11 = .ok (.iconst 5, 1) := by decide +kernel
theorem dX1_mostA_12 : decode cX1_mostA 12 = .ok (.ireturn, 1) := by decide +kernel
theorem dX1_mostB_0 : decode cX1_mostB 0 = .ok (.iload_n 0, 1) := by decide +kernel
theorem dX1_mostB_1 : decode cX1_mostB 1 = .ok (.invokestatic 152, 3) := by decide +kernel
theorem dX1_mostB_4 : decode cX1_mostB 4 = .ok (.lookupswitch 32 #[(2, 28), (3, 30)], 28) := by decide +kernel
theorem dX1_mostB_32 : decode cX1_mostB 32 = .ok (.iconst 3, 1) := by decide +kernel
theorem dX1_mostB_33 : decode cX1_mostB 33 = .ok (.ireturn, 1) := by decide +kernel
theorem dX1_mostB_34 : decode cX1_mostB 34 = .ok (.iconst 5, 1) := by decide +kernel
theorem dX1_mostB_35 : decode cX1_mostB 35 = .ok (.ireturn, 1) := by decide +kernel
theorem dX1_mostB_36 : decode cX1_mostB 36 = .ok (.iconst 0, 1) := by decide +kernel
theorem dX1_mostB_37 : decode cX1_mostB 37 = .ok (.ireturn, 1) := by decide +kernel
theorem dX1_arrive_0 : decode cX1_arrive 0 = .ok (.aload_n 0, 1) := by decide +kernel
theorem dX1_arrive_1 : decode cX1_arrive 1 = .ok (.invokevirtual 102, 3) := by decide +kernel
theorem dX1_arrive_4 : decode cX1_arrive 4 = .ok (.istore 4, 2) := by decide +kernel
theorem dX1_arrive_6 : decode cX1_arrive 6 = .ok (.aload_n 0, 1) := by decide +kernel
theorem dX1_arrive_7 : decode cX1_arrive 7 = .ok (.iload 4, 2) := by decide +kernel
theorem dX1_arrive_9 : decode cX1_arrive 9 = .ok (.invokevirtual 106, 3) := by decide +kernel
theorem dX1_arrive_12 : decode cX1_arrive 12 = .ok (.istore 5, 2) := by decide +kernel
theorem dX1_arrive_14 : decode cX1_arrive 14 = .ok (.aload_n 0, 1) := by decide +kernel
theorem dX1_arrive_15 : decode cX1_arrive 15 = .ok (.getfield 46, 3) := by decide +kernel
theorem dX1_arrive_18 : decode cX1_arrive 18 = .ok (.iload 5, 2) := by decide +kernel
theorem dX1_arrive_20 : decode cX1_arrive 20 = .ok (.iaload, 1) := by decide +kernel
theorem dX1_arrive_21 : decode cX1_arrive 21 = .ok (.ifCond .ne 16, 3) := by decide +kernel
theorem dX1_arrive_24 : decode cX1_arrive 24 = .ok (.aload_n 0, 1) := by decide +kernel
theorem dX1_arrive_25 : decode cX1_arrive 25 = .ok (.iload 5, 2) := by decide +kernel
theorem dX1_arrive_27 : decode cX1_arrive 27 = .ok (.iload 4, 2) := by decide +kernel
theorem dX1_arrive_29 : decode cX1_arrive 29 = .ok (.invokevirtual 110, 3) := by decide +kernel
theorem dX1_arrive_32 : decode cX1_arrive 32 = .ok (.ifCond .ne 5, 3) := by decide +kernel
theorem dX1_arrive_35 : decode cX1_arrive 35 = .ok (.iconst 0, 1) := by decide +kernel
theorem dX1_arrive_36 : decode cX1_arrive 36 = .ok (.ireturn, 1) := by decide +kernel
theorem dX1_arrive_37 : decode cX1_arrive 37 = .ok (.aload_n 0, 1) := by decide +kernel
theorem dX1_arrive_38 : decode cX1_arrive 38 = .ok (.getfield 46, 3) := by decide +kernel
theorem dX1_arrive_41 : decode cX1_arrive 41 = .ok (.iload 5, 2) := by decide +kernel
theorem dX1_arrive_43 : decode cX1_arrive 43 = .ok (.iaload, 1) := by decide +kernel
theorem dX1_arrive_44 : decode cX1_arrive 44 = .ok (.iconst 1, 1) := by decide +kernel
theorem dX1_arrive_45 : decode cX1_arrive 45 = .ok (.isub, 1) := by decide +kernel
theorem dX1_arrive_46 : decode cX1_arrive 46 = .ok (.istore 6, 2) := by decide +kernel
theorem dX1_arrive_48 : decode cX1_arrive 48 = .ok (.iload 6, 2) := by decide +kernel
theorem dX1_arrive_50 : decode cX1_arrive 50 = .ok (.iload_n 3, 1) := by decide +kernel
theorem dX1_arrive_51 : decode cX1_arrive 51 = .ok (.if_icmp .lt 40, 3) := by decide +kernel
theorem dX1_arrive_54 : decode cX1_arrive 54 = .ok (.aload_n 0, 1) := by decide +kernel
theorem dX1_arrive_55 : decode cX1_arrive 55 = .ok (.getfield 42, 3) := by decide +kernel
theorem dX1_arrive_58 : decode cX1_arrive 58 = .ok (.iload 6, 2) := by decide +kernel
theorem dX1_arrive_60 : decode cX1_arrive 60 = .ok (.aaload, 1) := by decide +kernel
theorem dX1_arrive_61 : decode cX1_arrive 61 = .ok (.ldc 157, 2) := by decide +kernel
theorem dX1_arrive_63 : decode cX1_arrive 63 = .ok (.aload_n 0, 1) := by decide +kernel
theorem dX1_arrive_64 : decode cX1_arrive 64 = .ok (.getfield 42, 3) := by decide +kernel
theorem dX1_arrive_67 : decode cX1_arrive 67 = .ok (.iload 6, 2) := by decide +kernel
theorem dX1_arrive_69 : decode cX1_arrive 69 = .ok (.aaload, 1) := by decide +kernel
theorem dX1_arrive_70 : decode cX1_arrive 70 = .ok (.getfield 114, 3) := by decide +kernel
theorem dX1_arrive_73 : decode cX1_arrive 73 = .ok (.aload_n 1, 1) := by decide +kernel
theorem dX1_arrive_74 : decode cX1_arrive 74 = .ok (.getfield 114, 3) := by decide +kernel
theorem dX1_arrive_77 : decode cX1_arrive 77 = .ok (.iadd, 1) := by decide +kernel
theorem dX1_arrive_78 : decode cX1_arrive 78 = .ok (.invokestatic 158, 3) := by decide +kernel
theorem dX1_arrive_81 : decode cX1_arrive 81 = .ok (.putfield 114, 3) := by decide +kernel
theorem dX1_arrive_84 : decode cX1_arrive 84 = .ok (.aload_n 0, 1) := by decide +kernel
theorem dX1_arrive_85 : decode cX1_arrive 85 = .ok (.iload_n 2, 1) := by decide +kernel
theorem dX1_arrive_86 : decode cX1_arrive 86 = .ok (.iload 6, 2) := by decide +kernel
theorem dX1_arrive_88 : decode cX1_arrive 88 = .ok (.invokevirtual 164, 3) := by decide +kernel
theorem dX1_arrive_91 : decode cX1_arrive 91 = .ok (.iconst 1, 1) := by decide +kernel
theorem dX1_arrive_92 : decode cX1_arrive 92 = .ok (.ireturn, 1) := by decide +kernel
theorem dX1_addState_0 : decode cX1_addState 0 = .ok (.aload_n 0, 1) := by decide +kernel
theorem dX1_addState_1 : decode cX1_addState 1 = .ok (.getfield 64, 3) := by decide +kernel
theorem dX1_addState_4 : decode cX1_addState 4 = .ok (.sipush 1500, 3) := by decide +kernel
theorem dX1_addState_7 : decode cX1_addState 7 = .ok (.if_icmp .lt 5, 3) := by decide +kernel
theorem dX1_addState_10 : decode cX1_addState 10 = .ok (.iconst 0, 1) := by decide +kernel
theorem dX1_addState_11 : decode cX1_addState 11 = .ok (.ireturn, 1) := by decide +kernel
theorem dX1_addState_12 : decode cX1_addState 12 = .ok (.aload_n 0, 1) := by decide +kernel
theorem dX1_addState_13 : decode cX1_addState 13 = .ok (.getfield 42, 3) := by decide +kernel
theorem dX1_addState_16 : decode cX1_addState 16 = .ok (.aload_n 0, 1) := by decide +kernel
theorem dX1_addState_17 : decode cX1_addState 17 = .ok (.getfield 64, 3) := by decide +kernel
theorem dX1_addState_20 : decode cX1_addState 20 = .ok (.aaload, 1) := by decide +kernel
theorem dX1_addState_21 : decode cX1_addState 21 = .ok (.ifnonnull 19, 3) := by decide +kernel
theorem dX1_addState_24 : decode cX1_addState 24 = .ok (.aload_n 0, 1) := by decide +kernel
theorem dX1_addState_25 : decode cX1_addState 25 = .ok (.getfield 42, 3) := by decide +kernel
theorem dX1_addState_28 : decode cX1_addState 28 = .ok (.aload_n 0, 1) := by decide +kernel
theorem dX1_addState_29 : decode cX1_addState 29 = .ok (.getfield 64, 3) := by decide +kernel
theorem dX1_addState_32 : decode cX1_addState 32 = .ok (.new 40, 3) := by decide +kernel
theorem dX1_addState_35 : decode cX1_addState 35 = .ok (.dup, 1) := by decide +kernel
theorem dX1_addState_36 : decode cX1_addState 36 = .ok (.invokespecial 167, 3) := by decide +kernel
theorem dX1_addState_39 : decode cX1_addState 39 = .ok (.aastore, 1) := by decide +kernel
theorem dX1_addState_40 : decode cX1_addState 40 = .ok (.aload_n 0, 1) := by decide +kernel
theorem dX1_addState_41 : decode cX1_addState 41 = .ok (.getfield 42, 3) := by decide +kernel
theorem dX1_addState_44 : decode cX1_addState 44 = .ok (.aload_n 0, 1) := by decide +kernel
theorem dX1_addState_45 : decode cX1_addState 45 = .ok (.getfield 64, 3) := by decide +kernel
theorem dX1_addState_48 : decode cX1_addState 48 = .ok (.aaload, 1) := by decide +kernel
theorem dX1_addState_49 : decode cX1_addState 49 = .ok (.astore_n 3, 1) := by decide +kernel
theorem dX1_addState_50 : decode cX1_addState 50 = .ok (.aload_n 3, 1) := by decide +kernel
theorem dX1_addState_51 : decode cX1_addState 51 = .ok (.aload_n 0, 1) := by decide +kernel
theorem dX1_addState_52 : decode cX1_addState 52 = .ok (.getfield 21, 3) := by decide +kernel
theorem dX1_addState_55 : decode cX1_addState 55 = .ok (.aload_n 0, 1) := by decide +kernel
theorem dX1_addState_56 : decode cX1_addState 56 = .ok (.getfield 24, 3) := by decide +kernel
theorem dX1_addState_59 : decode cX1_addState 59 = .ok (.iload_n 2, 1) := by decide +kernel
theorem dX1_addState_60 : decode cX1_addState 60 = .ok (.invokevirtual 168, 3) := by decide +kernel
theorem dX1_addState_63 : decode cX1_addState 63 = .ok (.aload_n 0, 1) := by decide +kernel
theorem dX1_addState_64 : decode cX1_addState 64 = .ok (.dup, 1) := by decide +kernel
theorem dX1_addState_65 : decode cX1_addState 65 = .ok (.getfield 64, 3) := by decide +kernel
theorem dX1_addState_68 : decode cX1_addState 68 = .ok (.iconst 1, 1) := by decide +kernel
theorem dX1_addState_69 : decode cX1_addState 69 = .ok (.iadd, 1) := by decide +kernel
theorem dX1_addState_70 : decode cX1_addState 70 = .ok (.putfield 64, 3) := by decide +kernel
theorem dX1_addState_73 : decode cX1_addState 73 = .ok (.aload_n 0, 1) := by decide +kernel
theorem dX1_addState_74 : decode cX1_addState 74 = .ok (.getfield 46, 3) := by decide +kernel
theorem dX1_addState_77 : decode cX1_addState 77 = .ok (.iload_n 1, 1) := by decide +kernel
theorem dX1_addState_78 : decode cX1_addState 78 = .ok (.aload_n 0, 1) := by decide +kernel
theorem dX1_addState_79 : decode cX1_addState 79 = .ok (.getfield 64, 3) := by decide +kernel
theorem dX1_addState_82 : decode cX1_addState 82 = .ok (.iastore, 1) := by decide +kernel
theorem dX1_addState_83 : decode cX1_addState 83 = .ok (.aload_n 0, 1) := by decide +kernel
theorem dX1_addState_84 : decode cX1_addState 84 = .ok (.getfield 21, 3) := by decide +kernel
theorem dX1_addState_87 : decode cX1_addState 87 = .ok (.aload_n 0, 1) := by decide +kernel
theorem dX1_addState_88 : decode cX1_addState 88 = .ok (.getfield 27, 3) := by decide +kernel
theorem dX1_addState_91 : decode cX1_addState 91 = .ok (.invokevirtual 172, 3) := by decide +kernel
theorem dX1_addState_94 : decode cX1_addState 94 = .ok (.ifCond .eq 32, 3) := by decide +kernel
theorem dX1_addState_97 : decode cX1_addState 97 = .ok (.aload_n 0, 1) := by decide +kernel
theorem dX1_addState_98 : decode cX1_addState 98 = .ok (.getfield 24, 3) := by decide +kernel
theorem dX1_addState_101 : decode cX1_addState 101 = .ok (.aload_n 0, 1) := by decide +kernel
theorem dX1_addState_102 : decode cX1_addState 102 = .ok (.getfield 30, 3) := by decide +kernel
theorem dX1_addState_105 : decode cX1_addState 105 = .ok (.invokevirtual 172, 3) := by decide +kernel
theorem dX1_addState_108 : decode cX1_addState 108 = .ok (.ifCond .eq 18, 3) := by decide +kernel
theorem dX1_addState_111 : decode cX1_addState 111 = .ok (.aload_n 3, 1) := by decide +kernel
theorem dX1_addState_112 : decode cX1_addState 112 = .ok (.iconst 1, 1) := by decide +kernel
theorem dX1_addState_113 : decode cX1_addState 113 = .ok (.putfield 176, 3) := by decide +kernel
theorem dX1_addState_116 : decode cX1_addState 116 = .ok (.aload_n 0, 1) := by decide +kernel
theorem dX1_addState_117 : decode cX1_addState 117 = .ok (.dup, 1) := by decide +kernel
theorem dX1_addState_118 : decode cX1_addState 118 = .ok (.getfield 67, 3) := by decide +kernel
theorem dX1_addState_121 : decode cX1_addState 121 = .ok (.iconst 1, 1) := by decide +kernel
theorem dX1_addState_122 : decode cX1_addState 122 = .ok (.iadd, 1) := by decide +kernel
theorem dX1_addState_123 : decode cX1_addState 123 = .ok (.putfield 67, 3) := by decide +kernel
theorem dX1_addState_126 : decode cX1_addState 126 = .ok (.iconst 1, 1) := by decide +kernel
theorem dX1_addState_127 : decode cX1_addState 127 = .ok (.ireturn, 1) := by decide +kernel
theorem dX1_addEdge_0 : decode cX1_addEdge 0 = .ok (.aload_n 0, 1) := by decide +kernel
theorem dX1_addEdge_1 : decode cX1_addEdge 1 = .ok (.getfield 53, 3) := by decide +kernel
theorem dX1_addEdge_4 : decode cX1_addEdge 4 = .ok (.aload_n 0, 1) := by decide +kernel
theorem dX1_addEdge_5 : decode cX1_addEdge 5 = .ok (.getfield 50, 3) := by decide +kernel
theorem dX1_addEdge_8 : decode cX1_addEdge 8 = .ok (.arraylength, 1) := by decide +kernel
theorem dX1_addEdge_9 : decode cX1_addEdge 9 = .ok (.if_icmp .lt 21, 3) := by decide +kernel
theorem dX1_addEdge_12 : decode cX1_addEdge 12 = .ok (.aload_n 0, 1) := by decide +kernel
theorem dX1_addEdge_13 : decode cX1_addEdge 13 = .ok (.aload_n 0, 1) := by decide +kernel
theorem dX1_addEdge_14 : decode cX1_addEdge 14 = .ok (.getfield 50, 3) := by decide +kernel
theorem dX1_addEdge_17 : decode cX1_addEdge 17 = .ok (.iconst 2, 1) := by decide +kernel
theorem dX1_addEdge_18 : decode cX1_addEdge 18 = .ok (.aload_n 0, 1) := by decide +kernel
theorem dX1_addEdge_19 : decode cX1_addEdge 19 = .ok (.getfield 50, 3) := by decide +kernel
theorem dX1_addEdge_22 : decode cX1_addEdge 22 = .ok (.arraylength, 1) := by decide +kernel
theorem dX1_addEdge_23 : decode cX1_addEdge 23 = .ok (.imul, 1) := by decide +kernel
theorem dX1_addEdge_24 : decode cX1_addEdge 24 = .ok (.invokestatic 179, 3) := by decide +kernel
theorem dX1_addEdge_27 : decode cX1_addEdge 27 = .ok (.putfield 50, 3) := by decide +kernel
theorem dX1_addEdge_30 : decode cX1_addEdge 30 = .ok (.aload_n 0, 1) := by decide +kernel
theorem dX1_addEdge_31 : decode cX1_addEdge 31 = .ok (.getfield 50, 3) := by decide +kernel
theorem dX1_addEdge_34 : decode cX1_addEdge 34 = .ok (.aload_n 0, 1) := by decide +kernel
theorem dX1_addEdge_35 : decode cX1_addEdge 35 = .ok (.getfield 53, 3) := by decide +kernel
theorem dX1_addEdge_38 : decode cX1_addEdge 38 = .ok (.iload_n 2, 1) := by decide +kernel
theorem dX1_addEdge_39 : decode cX1_addEdge 39 = .ok (.bipush 10, 2) := by decide +kernel
theorem dX1_addEdge_41 : decode cX1_addEdge 41 = .ok (.ishl, 1) := by decide +kernel
theorem dX1_addEdge_42 : decode cX1_addEdge 42 = .ok (.iload_n 1, 1) := by decide +kernel
theorem dX1_addEdge_43 : decode cX1_addEdge 43 = .ok (.ior, 1) := by decide +kernel
theorem dX1_addEdge_44 : decode cX1_addEdge 44 = .ok (.iastore, 1) := by decide +kernel
theorem dX1_addEdge_45 : decode cX1_addEdge 45 = .ok (.aload_n 0, 1) := by decide +kernel
theorem dX1_addEdge_46 : decode cX1_addEdge 46 = .ok (.dup, 1) := by decide +kernel
theorem dX1_addEdge_47 : decode cX1_addEdge 47 = .ok (.getfield 53, 3) := by decide +kernel
theorem dX1_addEdge_50 : decode cX1_addEdge 50 = .ok (.iconst 1, 1) := by decide +kernel
theorem dX1_addEdge_51 : decode cX1_addEdge 51 = .ok (.iadd, 1) := by decide +kernel
theorem dX1_addEdge_52 : decode cX1_addEdge 52 = .ok (.putfield 53, 3) := by decide +kernel
theorem dX1_addEdge_55 : decode cX1_addEdge 55 = .ok (.return_, 1) := by decide +kernel
theorem dX1_slotOf_0 : decode cX1_slotOf 0 = .ok (.iload_n 1, 1) := by decide +kernel
theorem dX1_slotOf_1 : decode cX1_slotOf 1 = .ok (.sipush 4095, 3) := by decide +kernel
theorem dX1_slotOf_4 : decode cX1_slotOf 4 = .ok (.iand, 1) := by decide +kernel
theorem dX1_slotOf_5 : decode cX1_slotOf 5 = .ok (.istore_n 2, 1) := by decide +kernel
theorem dX1_slotOf_6 : decode cX1_slotOf 6 = .ok (.iconst 0, 1) := by decide +kernel
theorem dX1_slotOf_7 : decode cX1_slotOf 7 = .ok (.istore_n 3, 1) := by decide +kernel
theorem dX1_slotOf_8 : decode cX1_slotOf 8 = .ok (.iload_n 3, 1) := by decide +kernel
theorem dX1_slotOf_9 : decode cX1_slotOf 9 = .ok (.sipush 4096, 3) := by decide +kernel
theorem dX1_slotOf_12 : decode cX1_slotOf 12 = .ok (.if_icmp .ge 68, 3) := by decide +kernel
theorem dX1_slotOf_15 : decode cX1_slotOf 15 = .ok (.aload_n 0, 1) := by decide +kernel
theorem dX1_slotOf_16 : decode cX1_slotOf 16 = .ok (.getfield 46, 3) := by decide +kernel
theorem dX1_slotOf_19 : decode cX1_slotOf 19 = .ok (.iload_n 2, 1) := by decide +kernel
theorem dX1_slotOf_20 : decode cX1_slotOf 20 = .ok (.iaload, 1) := by decide +kernel
theorem dX1_slotOf_21 : decode cX1_slotOf 21 = .ok (.ifCond .eq 59, 3) := by decide +kernel
theorem dX1_slotOf_24 : decode cX1_slotOf 24 = .ok (.aload_n 0, 1) := by decide +kernel
theorem dX1_slotOf_25 : decode cX1_slotOf 25 = .ok (.getfield 42, 3) := by decide +kernel
theorem dX1_slotOf_28 : decode cX1_slotOf 28 = .ok (.aload_n 0, 1) := by decide +kernel
theorem dX1_slotOf_29 : decode cX1_slotOf 29 = .ok (.getfield 46, 3) := by decide +kernel
theorem dX1_slotOf_32 : decode cX1_slotOf 32 = .ok (.iload_n 2, 1) := by decide +kernel
theorem dX1_slotOf_33 : decode cX1_slotOf 33 = .ok (.iaload, 1) := by decide +kernel
theorem dX1_slotOf_34 : decode cX1_slotOf 34 = .ok (.iconst 1, 1) := by decide +kernel
theorem dX1_slotOf_35 : decode cX1_slotOf 35 = .ok (.isub, 1) := by decide +kernel
theorem dX1_slotOf_36 : decode cX1_slotOf 36 = .ok (.aaload, 1) := by decide +kernel
theorem dX1_slotOf_37 : decode cX1_slotOf 37 = .ok (.astore 4, 2) := by decide +kernel
theorem dX1_slotOf_39 : decode cX1_slotOf 39 = .ok (.aload 4, 2) := by decide +kernel
theorem dX1_slotOf_41 : decode cX1_slotOf 41 = .ok (.getfield 183, 3) := by decide +kernel
theorem dX1_slotOf_44 : decode cX1_slotOf 44 = .ok (.iload_n 1, 1) := by decide +kernel
theorem dX1_slotOf_45 : decode cX1_slotOf 45 = .ok (.if_icmp .ne 21, 3) := by decide +kernel
theorem dX1_slotOf_48 : decode cX1_slotOf 48 = .ok (.aload 4, 2) := by decide +kernel
theorem dX1_slotOf_50 : decode cX1_slotOf 50 = .ok (.aload_n 0, 1) := by decide +kernel
theorem dX1_slotOf_51 : decode cX1_slotOf 51 = .ok (.getfield 21, 3) := by decide +kernel
theorem dX1_slotOf_54 : decode cX1_slotOf 54 = .ok (.aload_n 0, 1) := by decide +kernel
theorem dX1_slotOf_55 : decode cX1_slotOf 55 = .ok (.getfield 24, 3) := by decide +kernel
theorem dX1_slotOf_58 : decode cX1_slotOf 58 = .ok (.invokevirtual 186, 3) := by decide +kernel
theorem dX1_slotOf_61 : decode cX1_slotOf 61 = .ok (.ifCond .eq 5, 3) := by decide +kernel
theorem dX1_slotOf_64 : decode cX1_slotOf 64 = .ok (.iload_n 2, 1) := by decide +kernel
theorem dX1_slotOf_65 : decode cX1_slotOf 65 = .ok (.ireturn, 1) := by decide +kernel
theorem dX1_slotOf_66 : decode cX1_slotOf 66 = .ok (.iload_n 2, 1) := by decide +kernel
theorem dX1_slotOf_67 : decode cX1_slotOf 67 = .ok (.iconst 1, 1) := by decide +kernel
theorem dX1_slotOf_68 : decode cX1_slotOf 68 = .ok (.iadd, 1) := by decide +kernel
theorem dX1_slotOf_69 : decode cX1_slotOf 69 = .ok (.sipush 4095, 3) := by decide +kernel
theorem dX1_slotOf_72 : decode cX1_slotOf 72 = .ok (.iand, 1) := by decide +kernel
theorem dX1_slotOf_73 : decode cX1_slotOf 73 = .ok (.istore_n 2, 1) := by decide +kernel
theorem dX1_slotOf_74 : decode cX1_slotOf 74 = .ok (.iinc 3 1, 3) := by decide +kernel
theorem dX1_slotOf_77 : decode cX1_slotOf 77 = .ok (.goto (-69), 3) := by decide +kernel
theorem dX1_slotOf_80 : decode cX1_slotOf 80 = .ok (.iload_n 2, 1) := by decide +kernel
theorem dX1_slotOf_81 : decode cX1_slotOf 81 = .ok (.ireturn, 1) := by decide +kernel
theorem dX1_mixOfMade_0 : decode cX1_mixOfMade 0 = .ok (.aload_n 0, 1) := by decide +kernel
theorem dX1_mixOfMade_1 : decode cX1_mixOfMade 1 = .ok (.getfield 24, 3) := by decide +kernel
theorem dX1_mixOfMade_4 : decode cX1_mixOfMade 4 = .ok (.aload_n 0, 1) := by decide +kernel
theorem dX1_mixOfMade_5 : decode cX1_mixOfMade 5 = .ok (.getfield 21, 3) := by decide +kernel
theorem dX1_mixOfMade_8 : decode cX1_mixOfMade 8 = .ok (.iconst 1, 1) := by decide +kernel
theorem dX1_mixOfMade_9 : decode cX1_mixOfMade 9 = .ok (.invokestatic 190, 3) := by decide +kernel
theorem dX1_mixOfMade_12 : decode cX1_mixOfMade 12 = .ok (.invokestatic 190, 3) := by decide +kernel
theorem dX1_mixOfMade_15 : decode cX1_mixOfMade 15 = .ok (.istore_n 1, 1) := by decide +kernel
theorem dX1_mixOfMade_16 : decode cX1_mixOfMade 16 = .ok (.iload_n 1, 1) := by decide +kernel
theorem dX1_mixOfMade_17 : decode cX1_mixOfMade 17 = .ok (.iload_n 1, 1) := by decide +kernel
theorem dX1_mixOfMade_18 : decode cX1_mixOfMade 18 = .ok (.bipush 15, 2) := by decide +kernel
theorem dX1_mixOfMade_20 : decode cX1_mixOfMade 20 = .ok (.iushr, 1) := by decide +kernel
theorem dX1_mixOfMade_21 : decode cX1_mixOfMade 21 = .ok (.ixor, 1) := by decide +kernel
theorem dX1_mixOfMade_22 : decode cX1_mixOfMade 22 = .ok (.ireturn, 1) := by decide +kernel
theorem dX1_mixOf_0 : decode cX1_mixOf 0 = .ok (.bipush 31, 2) := by decide +kernel
theorem dX1_mixOf_2 : decode cX1_mixOf 2 = .ok (.bipush 31, 2) := by decide +kernel
theorem dX1_mixOf_4 : decode cX1_mixOf 4 = .ok (.iload_n 1, 1) := by decide +kernel
theorem dX1_mixOf_5 : decode cX1_mixOf 5 = .ok (.imul, 1) := by decide +kernel
theorem dX1_mixOf_6 : decode cX1_mixOf 6 = .ok (.aload_n 0, 1) := by decide +kernel
theorem dX1_mixOf_7 : decode cX1_mixOf 7 = .ok (.getfield 194, 3) := by decide +kernel
theorem dX1_mixOf_10 : decode cX1_mixOf 10 = .ok (.iadd, 1) := by decide +kernel
theorem dX1_mixOf_11 : decode cX1_mixOf 11 = .ok (.imul, 1) := by decide +kernel
theorem dX1_mixOf_12 : decode cX1_mixOf 12 = .ok (.aload_n 0, 1) := by decide +kernel
theorem dX1_mixOf_13 : decode cX1_mixOf 13 = .ok (.getfield 197, 3) := by decide +kernel
theorem dX1_mixOf_16 : decode cX1_mixOf 16 = .ok (.iadd, 1) := by decide +kernel
theorem dX1_mixOf_17 : decode cX1_mixOf 17 = .ok (.istore_n 2, 1) := by decide +kernel
theorem dX1_mixOf_18 : decode cX1_mixOf 18 = .ok (.iconst 0, 1) := by decide +kernel
theorem dX1_mixOf_19 : decode cX1_mixOf 19 = .ok (.istore_n 3, 1) := by decide +kernel
theorem dX1_mixOf_20 : decode cX1_mixOf 20 = .ok (.iload_n 3, 1) := by decide +kernel
theorem dX1_mixOf_21 : decode cX1_mixOf 21 = .ok (.aload_n 0, 1) := by decide +kernel
theorem dX1_mixOf_22 : decode cX1_mixOf 22 = .ok (.getfield 194, 3) := by decide +kernel
theorem dX1_mixOf_25 : decode cX1_mixOf 25 = .ok (.aload_n 0, 1) := by decide +kernel
theorem dX1_mixOf_26 : decode cX1_mixOf 26 = .ok (.getfield 197, 3) := by decide +kernel
theorem dX1_mixOf_29 : decode cX1_mixOf 29 = .ok (.imul, 1) := by decide +kernel
theorem dX1_mixOf_30 : decode cX1_mixOf 30 = .ok (.if_icmp .ge 39, 3) := by decide +kernel
theorem dX1_mixOf_33 : decode cX1_mixOf 33 = .ok (.aload_n 0, 1) := by decide +kernel
theorem dX1_mixOf_34 : decode cX1_mixOf 34 = .ok (.getfield 200, 3) := by decide +kernel
theorem dX1_mixOf_37 : decode cX1_mixOf 37 = .ok (.iload_n 3, 1) := by decide +kernel
theorem dX1_mixOf_38 : decode cX1_mixOf 38 = .ok (.laload, 1) := by decide +kernel
theorem dX1_mixOf_39 : decode cX1_mixOf 39 = .ok (.lstore 4, 2) := by decide +kernel
theorem dX1_mixOf_41 : decode cX1_mixOf 41 = .ok (.iload_n 2, 1) := by decide +kernel
theorem dX1_mixOf_42 : decode cX1_mixOf 42 = .ok (.lload 4, 2) := by decide +kernel
theorem dX1_mixOf_44 : decode cX1_mixOf 44 = .ok (.lload 4, 2) := by decide +kernel
theorem dX1_mixOf_46 : decode cX1_mixOf 46 = .ok (.bipush 32, 2) := by decide +kernel
theorem dX1_mixOf_48 : decode cX1_mixOf 48 = .ok (.lushr, 1) := by decide +kernel
theorem dX1_mixOf_49 : decode cX1_mixOf 49 = .ok (.lxor, 1) := by decide +kernel
theorem dX1_mixOf_50 : decode cX1_mixOf 50 = .ok (.l2i, 1) := by decide +kernel
theorem dX1_mixOf_51 : decode cX1_mixOf 51 = .ok (.ixor, 1) := by decide +kernel
theorem dX1_mixOf_52 : decode cX1_mixOf 52 = .ok (.ldc 204, 2) := by decide +kernel
theorem dX1_mixOf_54 : decode cX1_mixOf 54 = .ok (.imul, 1) := by decide +kernel
theorem dX1_mixOf_55 : decode cX1_mixOf 55 = .ok (.istore_n 2, 1) := by decide +kernel
theorem dX1_mixOf_56 : decode cX1_mixOf 56 = .ok (.iload_n 2, 1) := by decide +kernel
theorem dX1_mixOf_57 : decode cX1_mixOf 57 = .ok (.iload_n 2, 1) := by decide +kernel
theorem dX1_mixOf_58 : decode cX1_mixOf 58 = .ok (.bipush 13, 2) := by decide +kernel
theorem dX1_mixOf_60 : decode cX1_mixOf 60 = .ok (.iushr, 1) := by decide +kernel
theorem dX1_mixOf_61 : decode cX1_mixOf 61 = .ok (.ixor, 1) := by decide +kernel
theorem dX1_mixOf_62 : decode cX1_mixOf 62 = .ok (.istore_n 2, 1) := by decide +kernel
theorem dX1_mixOf_63 : decode cX1_mixOf 63 = .ok (.iinc 3 1, 3) := by decide +kernel
theorem dX1_mixOf_66 : decode cX1_mixOf 66 = .ok (.goto (-46), 3) := by decide +kernel
theorem dX1_mixOf_69 : decode cX1_mixOf 69 = .ok (.iload_n 2, 1) := by decide +kernel
theorem dX1_mixOf_70 : decode cX1_mixOf 70 = .ok (.ireturn, 1) := by decide +kernel
theorem dX1_tellWays_0 : decode cX1_tellWays 0 = .ok (.iload_n 2, 1) := by decide +kernel
theorem dX1_tellWays_1 : decode cX1_tellWays 1 = .ok (.istore_n 3, 1) := by decide +kernel
theorem dX1_tellWays_2 : decode cX1_tellWays 2 = .ok (.iload_n 3, 1) := by decide +kernel
theorem dX1_tellWays_3 : decode cX1_tellWays 3 = .ok (.aload_n 0, 1) := by decide +kernel
theorem dX1_tellWays_4 : decode cX1_tellWays 4 = .ok (.getfield 64, 3) := by decide +kernel
theorem dX1_tellWays_7 : decode cX1_tellWays 7 = .ok (.if_icmp .ge 44, 3) := by decide +kernel
theorem dX1_tellWays_10 : decode cX1_tellWays 10 = .ok (.aload_n 0, 1) := by decide +kernel
theorem dX1_tellWays_11 : decode cX1_tellWays 11 = .ok (.getfield 42, 3) := by decide +kernel
theorem dX1_tellWays_14 : decode cX1_tellWays 14 = .ok (.iload_n 3, 1) := by decide +kernel
theorem dX1_tellWays_15 : decode cX1_tellWays 15 = .ok (.aaload, 1) := by decide +kernel
theorem dX1_tellWays_16 : decode cX1_tellWays 16 = .ok (.getfield 176, 3) := by decide +kernel
theorem dX1_tellWays_19 : decode cX1_tellWays 19 = .ok (.ifCond .eq 26, 3) := by decide +kernel
theorem dX1_tellWays_22 : decode cX1_tellWays 22 = .ok (.aload_n 0, 1) := by decide +kernel
theorem dX1_tellWays_23 : decode cX1_tellWays 23 = .ok (.ldc 157, 2) := by decide +kernel
theorem dX1_tellWays_25 : decode cX1_tellWays 25 = .ok (.aload_n 0, 1) := by decide +kernel
theorem dX1_tellWays_26 : decode cX1_tellWays 26 = .ok (.getfield 70, 3) := by decide +kernel
theorem dX1_tellWays_29 : decode cX1_tellWays 29 = .ok (.aload_n 0, 1) := by decide +kernel
theorem dX1_tellWays_30 : decode cX1_tellWays 30 = .ok (.getfield 42, 3) := by decide +kernel
theorem dX1_tellWays_33 : decode cX1_tellWays 33 = .ok (.iload_n 3, 1) := by decide +kernel
theorem dX1_tellWays_34 : decode cX1_tellWays 34 = .ok (.aaload, 1) := by decide +kernel
theorem dX1_tellWays_35 : decode cX1_tellWays 35 = .ok (.getfield 114, 3) := by decide +kernel
theorem dX1_tellWays_38 : decode cX1_tellWays 38 = .ok (.iadd, 1) := by decide +kernel
theorem dX1_tellWays_39 : decode cX1_tellWays 39 = .ok (.invokestatic 158, 3) := by decide +kernel
theorem dX1_tellWays_42 : decode cX1_tellWays 42 = .ok (.putfield 70, 3) := by decide +kernel
theorem dX1_tellWays_45 : decode cX1_tellWays 45 = .ok (.iinc 3 1, 3) := by decide +kernel
theorem dX1_tellWays_48 : decode cX1_tellWays 48 = .ok (.goto (-46), 3) := by decide +kernel
theorem dX1_tellWays_51 : decode cX1_tellWays 51 = .ok (.iload_n 2, 1) := by decide +kernel
theorem dX1_tellWays_52 : decode cX1_tellWays 52 = .ok (.iconst 1, 1) := by decide +kernel
theorem dX1_tellWays_53 : decode cX1_tellWays 53 = .ok (.isub, 1) := by decide +kernel
theorem dX1_tellWays_54 : decode cX1_tellWays 54 = .ok (.istore_n 3, 1) := by decide +kernel
theorem dX1_tellWays_55 : decode cX1_tellWays 55 = .ok (.iload_n 3, 1) := by decide +kernel
theorem dX1_tellWays_56 : decode cX1_tellWays 56 = .ok (.ifCond .lt 28, 3) := by decide +kernel
theorem dX1_tellWays_59 : decode cX1_tellWays 59 = .ok (.aload_n 0, 1) := by decide +kernel
theorem dX1_tellWays_60 : decode cX1_tellWays 60 = .ok (.getfield 42, 3) := by decide +kernel
theorem dX1_tellWays_63 : decode cX1_tellWays 63 = .ok (.iload_n 3, 1) := by decide +kernel
theorem dX1_tellWays_64 : decode cX1_tellWays 64 = .ok (.aaload, 1) := by decide +kernel
theorem dX1_tellWays_65 : decode cX1_tellWays 65 = .ok (.aload_n 0, 1) := by decide +kernel
theorem dX1_tellWays_66 : decode cX1_tellWays 66 = .ok (.aload_n 0, 1) := by decide +kernel
theorem dX1_tellWays_67 : decode cX1_tellWays 67 = .ok (.getfield 42, 3) := by decide +kernel
theorem dX1_tellWays_70 : decode cX1_tellWays 70 = .ok (.iload_n 3, 1) := by decide +kernel
theorem dX1_tellWays_71 : decode cX1_tellWays 71 = .ok (.aaload, 1) := by decide +kernel
theorem dX1_tellWays_72 : decode cX1_tellWays 72 = .ok (.invokevirtual 205, 3) := by decide +kernel
theorem dX1_tellWays_75 : decode cX1_tellWays 75 = .ok (.putfield 176, 3) := by decide +kernel
theorem dX1_tellWays_78 : decode cX1_tellWays 78 = .ok (.iinc 3 (-1), 3) := by decide +kernel
theorem dX1_tellWays_81 : decode cX1_tellWays 81 = .ok (.goto (-26), 3) := by decide +kernel
theorem dX1_tellWays_84 : decode cX1_tellWays 84 = .ok (.aload_n 0, 1) := by decide +kernel
theorem dX1_tellWays_85 : decode cX1_tellWays 85 = .ok (.getfield 60, 3) := by decide +kernel
theorem dX1_tellWays_88 : decode cX1_tellWays 88 = .ok (.invokevirtual 209, 3) := by decide +kernel
theorem dX1_tellWays_91 : decode cX1_tellWays 91 = .ok (.iconst 0, 1) := by decide +kernel
theorem dX1_tellWays_92 : decode cX1_tellWays 92 = .ok (.istore_n 3, 1) := by decide +kernel
theorem dX1_tellWays_93 : decode cX1_tellWays 93 = .ok (.iload_n 3, 1) := by decide +kernel
theorem dX1_tellWays_94 : decode cX1_tellWays 94 = .ok (.iload_n 1, 1) := by decide +kernel
theorem dX1_tellWays_95 : decode cX1_tellWays 95 = .ok (.if_icmp .ge 24, 3) := by decide +kernel
theorem dX1_tellWays_98 : decode cX1_tellWays 98 = .ok (.aload_n 0, 1) := by decide +kernel
theorem dX1_tellWays_99 : decode cX1_tellWays 99 = .ok (.getfield 60, 3) := by decide +kernel
theorem dX1_tellWays_102 : decode cX1_tellWays 102 = .ok (.aload_n 0, 1) := by decide +kernel
theorem dX1_tellWays_103 : decode cX1_tellWays 103 = .ok (.getfield 42, 3) := by decide +kernel
theorem dX1_tellWays_106 : decode cX1_tellWays 106 = .ok (.aload_n 0, 1) := by decide +kernel
theorem dX1_tellWays_107 : decode cX1_tellWays 107 = .ok (.getfield 50, 3) := by decide +kernel
theorem dX1_tellWays_110 : decode cX1_tellWays 110 = .ok (.invokevirtual 212, 3) := by decide +kernel
theorem dX1_tellWays_113 : decode cX1_tellWays 113 = .ok (.iinc 3 1, 3) := by decide +kernel
theorem dX1_tellWays_116 : decode cX1_tellWays 116 = .ok (.goto (-23), 3) := by decide +kernel
theorem dX1_tellWays_119 : decode cX1_tellWays 119 = .ok (.return_, 1) := by decide +kernel
theorem dX1_hasEdgeToEnd_0 : decode cX1_hasEdgeToEnd 0 = .ok (.aload_n 1, 1) := by decide +kernel
theorem dX1_hasEdgeToEnd_1 : decode cX1_hasEdgeToEnd 1 = .ok (.getfield 121, 3) := by decide +kernel
theorem dX1_hasEdgeToEnd_4 : decode cX1_hasEdgeToEnd 4 = .ok (.istore_n 2, 1) := by decide +kernel
theorem dX1_hasEdgeToEnd_5 : decode cX1_hasEdgeToEnd 5 = .ok (.iload_n 2, 1) := by decide +kernel
theorem dX1_hasEdgeToEnd_6 : decode cX1_hasEdgeToEnd 6 = .ok (.aload_n 1, 1) := by decide +kernel
theorem dX1_hasEdgeToEnd_7 : decode cX1_hasEdgeToEnd 7 = .ok (.getfield 124, 3) := by decide +kernel
theorem dX1_hasEdgeToEnd_10 : decode cX1_hasEdgeToEnd 10 = .ok (.if_icmp .ge 31, 3) := by decide +kernel
theorem dX1_hasEdgeToEnd_13 : decode cX1_hasEdgeToEnd 13 = .ok (.aload_n 0, 1) := by decide +kernel
theorem dX1_hasEdgeToEnd_14 : decode cX1_hasEdgeToEnd 14 = .ok (.getfield 42, 3) := by decide +kernel
theorem dX1_hasEdgeToEnd_17 : decode cX1_hasEdgeToEnd 17 = .ok (.aload_n 0, 1) := by decide +kernel
theorem dX1_hasEdgeToEnd_18 : decode cX1_hasEdgeToEnd 18 = .ok (.getfield 50, 3) := by decide +kernel
theorem dX1_hasEdgeToEnd_21 : decode cX1_hasEdgeToEnd 21 = .ok (.iload_n 2, 1) := by decide +kernel
theorem dX1_hasEdgeToEnd_22 : decode cX1_hasEdgeToEnd 22 = .ok (.iaload, 1) := by decide +kernel
theorem dX1_hasEdgeToEnd_23 : decode cX1_hasEdgeToEnd 23 = .ok (.bipush 10, 2) := by decide +kernel
theorem dX1_hasEdgeToEnd_25 : decode cX1_hasEdgeToEnd 25 = .ok (.ishr, 1) := by decide +kernel
theorem dX1_hasEdgeToEnd_26 : decode cX1_hasEdgeToEnd 26 = .ok (.aaload, 1) := by decide +kernel
theorem dX1_hasEdgeToEnd_27 : decode cX1_hasEdgeToEnd 27 = .ok (.getfield 176, 3) := by decide +kernel
theorem dX1_hasEdgeToEnd_30 : decode cX1_hasEdgeToEnd 30 = .ok (.ifCond .eq 5, 3) := by decide +kernel
theorem dX1_hasEdgeToEnd_33 : decode cX1_hasEdgeToEnd 33 = .ok (.iconst 1, 1) := by decide +kernel
theorem dX1_hasEdgeToEnd_34 : decode cX1_hasEdgeToEnd 34 = .ok (.ireturn, 1) := by decide +kernel
theorem dX1_hasEdgeToEnd_35 : decode cX1_hasEdgeToEnd 35 = .ok (.iinc 2 1, 3) := by decide +kernel
theorem dX1_hasEdgeToEnd_38 : decode cX1_hasEdgeToEnd 38 = .ok (.goto (-33), 3) := by decide +kernel
theorem dX1_hasEdgeToEnd_41 : decode cX1_hasEdgeToEnd 41 = .ok (.iconst 0, 1) := by decide +kernel
theorem dX1_hasEdgeToEnd_42 : decode cX1_hasEdgeToEnd 42 = .ok (.ireturn, 1) := by decide +kernel
theorem dX2_init_0 : decode cX2_init 0 = .ok (.aload_n 0, 1) := by decide +kernel
theorem dX2_init_1 : decode cX2_init 1 = .ok (.invokespecial 3, 3) := by decide +kernel
theorem dX2_init_4 : decode cX2_init 4 = .ok (.aload_n 0, 1) := by decide +kernel
theorem dX2_init_5 : decode cX2_init 5 = .ok (.bipush 16, 2) := by decide +kernel
theorem dX2_init_7 : decode cX2_init 7 = .ok (.newarray .long, 2) := by decide +kernel
theorem dX2_init_9 : decode cX2_init 9 = .ok (.putfield 11, 3) := by decide +kernel
theorem dX2_init_12 : decode cX2_init 12 = .ok (.return_, 1) := by decide +kernel
theorem dX2_hold_0 : decode cX2_hold 0 = .ok (.aload_n 0, 1) := by decide +kernel
theorem dX2_hold_1 : decode cX2_hold 1 = .ok (.aload_n 1, 1) := by decide +kernel
theorem dX2_hold_2 : decode cX2_hold 2 = .ok (.getfield 15, 3) := by decide +kernel
theorem dX2_hold_5 : decode cX2_hold 5 = .ok (.putfield 19, 3) := by decide +kernel
theorem dX2_hold_8 : decode cX2_hold 8 = .ok (.aload_n 0, 1) := by decide +kernel
theorem dX2_hold_9 : decode cX2_hold 9 = .ok (.aload_n 1, 1) := by decide +kernel
theorem dX2_hold_10 : decode cX2_hold 10 = .ok (.getfield 20, 3) := by decide +kernel
theorem dX2_hold_13 : decode cX2_hold 13 = .ok (.putfield 23, 3) := by decide +kernel
theorem dX2_hold_16 : decode cX2_hold 16 = .ok (.aload_n 0, 1) := by decide +kernel
theorem dX2_hold_17 : decode cX2_hold 17 = .ok (.aload_n 2, 1) := by decide +kernel
theorem dX2_hold_18 : decode cX2_hold 18 = .ok (.getfield 15, 3) := by decide +kernel
theorem dX2_hold_21 : decode cX2_hold 21 = .ok (.putfield 24, 3) := by decide +kernel
theorem dX2_hold_24 : decode cX2_hold 24 = .ok (.aload_n 0, 1) := by decide +kernel
theorem dX2_hold_25 : decode cX2_hold 25 = .ok (.aload_n 2, 1) := by decide +kernel
theorem dX2_hold_26 : decode cX2_hold 26 = .ok (.getfield 20, 3) := by decide +kernel
theorem dX2_hold_29 : decode cX2_hold 29 = .ok (.putfield 27, 3) := by decide +kernel
theorem dX2_hold_32 : decode cX2_hold 32 = .ok (.aload_n 0, 1) := by decide +kernel
theorem dX2_hold_33 : decode cX2_hold 33 = .ok (.getfield 19, 3) := by decide +kernel
theorem dX2_hold_36 : decode cX2_hold 36 = .ok (.aload_n 0, 1) := by decide +kernel
theorem dX2_hold_37 : decode cX2_hold 37 = .ok (.getfield 23, 3) := by decide +kernel
theorem dX2_hold_40 : decode cX2_hold 40 = .ok (.imul, 1) := by decide +kernel
theorem dX2_hold_41 : decode cX2_hold 41 = .ok (.istore 4, 2) := by decide +kernel
theorem dX2_hold_43 : decode cX2_hold 43 = .ok (.aload_n 0, 1) := by decide +kernel
theorem dX2_hold_44 : decode cX2_hold 44 = .ok (.getfield 24, 3) := by decide +kernel
theorem dX2_hold_47 : decode cX2_hold 47 = .ok (.aload_n 0, 1) := by decide +kernel
theorem dX2_hold_48 : decode cX2_hold 48 = .ok (.getfield 27, 3) := by decide +kernel
theorem dX2_hold_51 : decode cX2_hold 51 = .ok (.imul, 1) := by decide +kernel
theorem dX2_hold_52 : decode cX2_hold 52 = .ok (.istore 5, 2) := by decide +kernel
theorem dX2_hold_54 : decode cX2_hold 54 = .ok (.aload_n 0, 1) := by decide +kernel
theorem dX2_hold_55 : decode cX2_hold 55 = .ok (.getfield 11, 3) := by decide +kernel
theorem dX2_hold_58 : decode cX2_hold 58 = .ok (.arraylength, 1) := by decide +kernel
theorem dX2_hold_59 : decode cX2_hold 59 = .ok (.iload 4, 2) := by decide +kernel
theorem dX2_hold_61 : decode cX2_hold 61 = .ok (.iload 5, 2) := by decide +kernel
theorem dX2_hold_63 : decode cX2_hold 63 = .ok (.iadd, 1) := by decide +kernel
theorem dX2_hold_64 : decode cX2_hold 64 = .ok (.if_icmp .ge 30, 3) := by decide +kernel
theorem dX2_hold_67 : decode cX2_hold 67 = .ok (.aload_n 0, 1) := by decide +kernel
theorem dX2_hold_68 : decode cX2_hold 68 = .ok (.sipush 144, 3) := by decide +kernel
theorem dX2_hold_71 : decode cX2_hold 71 = .ok (.iload 4, 2) := by decide +kernel
theorem dX2_hold_73 : decode cX2_hold 73 = .ok (.iload 5, 2) := by decide +kernel
theorem dX2_hold_75 : decode cX2_hold 75 = .ok (.iadd, 1) := by decide +kernel
theorem dX2_hold_76 : decode cX2_hold 76 = .ok (.iconst 2, 1) := by decide +kernel
theorem dX2_hold_77 : decode cX2_hold 77 = .ok (.aload_n 0, 1) := by decide +kernel
theorem dX2_hold_78 : decode cX2_hold 78 = .ok (.getfield 11, 3) := by decide +kernel
theorem dX2_hold_81 : decode cX2_hold 81 = .ok (.arraylength, 1) := by decide +kernel
theorem dX2_hold_82 : decode cX2_hold 82 = .ok (.imul, 1) := by decide +kernel
theorem dX2_hold_83 : decode cX2_hold 83 = .ok (.invokestatic 30, 3) := by decide +kernel
theorem dX2_hold_86 : decode cX2_hold 86 = .ok (.invokestatic 36, 3) := by decide +kernel
theorem dX2_hold_89 : decode cX2_hold 89 = .ok (.newarray .long, 2) := by decide +kernel
theorem dX2_hold_91 : decode cX2_hold 91 = .ok (.putfield 11, 3) := by decide +kernel
theorem dX2_hold_94 : decode cX2_hold 94 = .ok (.aload_n 1, 1) := by decide +kernel
theorem dX2_hold_95 : decode cX2_hold 95 = .ok (.getfield 39, 3) := by decide +kernel
theorem dX2_hold_98 : decode cX2_hold 98 = .ok (.iconst 0, 1) := by decide +kernel
theorem dX2_hold_99 : decode cX2_hold 99 = .ok (.aload_n 0, 1) := by decide +kernel
theorem dX2_hold_100 : decode cX2_hold 100 = .ok (.getfield 11, 3) := by decide +kernel
theorem dX2_hold_103 : decode cX2_hold 103 = .ok (.iconst 0, 1) := by decide +kernel
theorem dX2_hold_104 : decode cX2_hold 104 = .ok (.iload 4, 2) := by decide +kernel
theorem dX2_hold_106 : decode cX2_hold 106 = .ok (.invokestatic 40, 3) := by decide +kernel
theorem dX2_hold_109 : decode cX2_hold 109 = .ok (.aload_n 2, 1) := by decide +kernel
theorem dX2_hold_110 : decode cX2_hold 110 = .ok (.getfield 39, 3) := by decide +kernel
theorem dX2_hold_113 : decode cX2_hold 113 = .ok (.iconst 0, 1) := by decide +kernel
theorem dX2_hold_114 : decode cX2_hold 114 = .ok (.aload_n 0, 1) := by decide +kernel
theorem dX2_hold_115 : decode cX2_hold 115 = .ok (.getfield 11, 3) := by decide +kernel
theorem dX2_hold_118 : decode cX2_hold 118 = .ok (.iload 4, 2) := by decide +kernel
theorem dX2_hold_120 : decode cX2_hold 120 = .ok (.iload 5, 2) := by decide +kernel
theorem dX2_hold_122 : decode cX2_hold 122 = .ok (.invokestatic 40, 3) := by decide +kernel
theorem dX2_hold_125 : decode cX2_hold 125 = .ok (.aload_n 0, 1) := by decide +kernel
theorem dX2_hold_126 : decode cX2_hold 126 = .ok (.iload_n 3, 1) := by decide +kernel
theorem dX2_hold_127 : decode cX2_hold 127 = .ok (.putfield 46, 3) := by decide +kernel
theorem dX2_hold_130 : decode cX2_hold 130 = .ok (.aload_n 0, 1) := by decide +kernel
theorem dX2_hold_131 : decode cX2_hold 131 = .ok (.iconst 0, 1) := by decide +kernel
theorem dX2_hold_132 : decode cX2_hold 132 = .ok (.putfield 49, 3) := by decide +kernel
theorem dX2_hold_135 : decode cX2_hold 135 = .ok (.aload_n 0, 1) := by decide +kernel
theorem dX2_hold_136 : decode cX2_hold 136 = .ok (.iconst 0, 1) := by decide +kernel
theorem dX2_hold_137 : decode cX2_hold 137 = .ok (.putfield 52, 3) := by decide +kernel
theorem dX2_hold_140 : decode cX2_hold 140 = .ok (.aload_n 0, 1) := by decide +kernel
theorem dX2_hold_141 : decode cX2_hold 141 = .ok (.iconst 0, 1) := by decide +kernel
theorem dX2_hold_142 : decode cX2_hold 142 = .ok (.putfield 55, 3) := by decide +kernel
theorem dX2_hold_145 : decode cX2_hold 145 = .ok (.aload_n 0, 1) := by decide +kernel
theorem dX2_hold_146 : decode cX2_hold 146 = .ok (.iconst 0, 1) := by decide +kernel
theorem dX2_hold_147 : decode cX2_hold 147 = .ok (.putfield 58, 3) := by decide +kernel
theorem dX2_hold_150 : decode cX2_hold 150 = .ok (.return_, 1) := by decide +kernel
theorem dX2_lay_0 : decode cX2_lay 0 = .ok (.aload_n 1, 1) := by decide +kernel
theorem dX2_lay_1 : decode cX2_lay 1 = .ok (.aload_n 0, 1) := by decide +kernel
theorem dX2_lay_2 : decode cX2_lay 2 = .ok (.getfield 19, 3) := by decide +kernel
theorem dX2_lay_5 : decode cX2_lay 5 = .ok (.aload_n 0, 1) := by decide +kernel
theorem dX2_lay_6 : decode cX2_lay 6 = .ok (.getfield 23, 3) := by decide +kernel
theorem dX2_lay_9 : decode cX2_lay 9 = .ok (.invokevirtual 62, 3) := by decide +kernel
theorem dX2_lay_12 : decode cX2_lay 12 = .ok (.pop, 1) := by decide +kernel
theorem dX2_lay_13 : decode cX2_lay 13 = .ok (.aload_n 2, 1) := by decide +kernel
theorem dX2_lay_14 : decode cX2_lay 14 = .ok (.aload_n 0, 1) := by decide +kernel
theorem dX2_lay_15 : decode cX2_lay 15 = .ok (.getfield 24, 3) := by decide +kernel
theorem dX2_lay_18 : decode cX2_lay 18 = .ok (.aload_n 0, 1) := by decide +kernel
theorem dX2_lay_19 : decode cX2_lay 19 = .ok (.getfield 27, 3) := by decide +kernel
theorem dX2_lay_22 : decode cX2_lay 22 = .ok (.invokevirtual 62, 3) := by decide +kernel
theorem dX2_lay_25 : decode cX2_lay 25 = .ok (.pop, 1) := by decide +kernel
theorem dX2_lay_26 : decode cX2_lay 26 = .ok (.aload_n 0, 1) := by decide +kernel
theorem dX2_lay_27 : decode cX2_lay 27 = .ok (.getfield 19, 3) := by decide +kernel
theorem dX2_lay_30 : decode cX2_lay 30 = .ok (.aload_n 0, 1) := by decide +kernel
theorem dX2_lay_31 : decode cX2_lay 31 = .ok (.getfield 23, 3) := by decide +kernel
theorem dX2_lay_34 : decode cX2_lay 34 = .ok (.imul, 1) := by decide +kernel
theorem dX2_lay_35 : decode cX2_lay 35 = .ok (.istore_n 3, 1) := by decide +kernel
theorem dX2_lay_36 : decode cX2_lay 36 = .ok (.aload_n 0, 1) := by decide +kernel
theorem dX2_lay_37 : decode cX2_lay 37 = .ok (.getfield 11, 3) := by decide +kernel
theorem dX2_lay_40 : decode cX2_lay 40 = .ok (.iconst 0, 1) := by decide +kernel
theorem dX2_lay_41 : decode cX2_lay 41 = .ok (.aload_n 1, 1) := by decide +kernel
theorem dX2_lay_42 : decode cX2_lay 42 = .ok (.getfield 39, 3) := by decide +kernel
theorem dX2_lay_45 : decode cX2_lay 45 = .ok (.iconst 0, 1) := by decide +kernel
theorem dX2_lay_46 : decode cX2_lay 46 = .ok (.iload_n 3, 1) := by decide +kernel
theorem dX2_lay_47 : decode cX2_lay 47 = .ok (.invokestatic 40, 3) := by decide +kernel
theorem dX2_lay_50 : decode cX2_lay 50 = .ok (.aload_n 0, 1) := by decide +kernel
theorem dX2_lay_51 : decode cX2_lay 51 = .ok (.getfield 11, 3) := by decide +kernel
theorem dX2_lay_54 : decode cX2_lay 54 = .ok (.iload_n 3, 1) := by decide +kernel
theorem dX2_lay_55 : decode cX2_lay 55 = .ok (.aload_n 2, 1) := by decide +kernel
theorem dX2_lay_56 : decode cX2_lay 56 = .ok (.getfield 39, 3) := by decide +kernel
theorem dX2_lay_59 : decode cX2_lay 59 = .ok (.iconst 0, 1) := by decide +kernel
theorem dX2_lay_60 : decode cX2_lay 60 = .ok (.aload_n 0, 1) := by decide +kernel
theorem dX2_lay_61 : decode cX2_lay 61 = .ok (.getfield 24, 3) := by decide +kernel
theorem dX2_lay_64 : decode cX2_lay 64 = .ok (.aload_n 0, 1) := by decide +kernel
theorem dX2_lay_65 : decode cX2_lay 65 = .ok (.getfield 27, 3) := by decide +kernel
theorem dX2_lay_68 : decode cX2_lay 68 = .ok (.imul, 1) := by decide +kernel
theorem dX2_lay_69 : decode cX2_lay 69 = .ok (.invokestatic 40, 3) := by decide +kernel
theorem dX2_lay_72 : decode cX2_lay 72 = .ok (.return_, 1) := by decide +kernel
theorem dX2_holds_0 : decode cX2_holds 0 = .ok (.aload_n 0, 1) := by decide +kernel
theorem dX2_holds_1 : decode cX2_holds 1 = .ok (.getfield 19, 3) := by decide +kernel
theorem dX2_holds_4 : decode cX2_holds 4 = .ok (.aload_n 1, 1) := by decide +kernel
theorem dX2_holds_5 : decode cX2_holds 5 = .ok (.getfield 15, 3) := by decide +kernel
theorem dX2_holds_8 : decode cX2_holds 8 = .ok (.if_icmp .ne 14, 3) := by decide +kernel
theorem dX2_holds_11 : decode cX2_holds 11 = .ok (.aload_n 0, 1) := by decide +kernel
theorem dX2_holds_12 : decode cX2_holds 12 = .ok (.getfield 23, 3) := by decide +kernel
theorem dX2_holds_15 : decode cX2_holds 15 = .ok (.aload_n 1, 1) := by decide +kernel
theorem dX2_holds_16 : decode cX2_holds 16 = .ok (.getfield 20, 3) := by decide +kernel
theorem dX2_holds_19 : decode cX2_holds 19 = .ok (.if_icmp .eq 5, 3) := by decide +kernel
theorem dX2_holds_22 : decode cX2_holds 22 = .ok (.iconst 0, 1) := by decide +kernel
theorem dX2_holds_23 : decode cX2_holds 23 = .ok (.ireturn, 1) := by decide +kernel
theorem dX2_holds_24 : decode cX2_holds 24 = .ok (.aload_n 0, 1) := by decide +kernel
theorem dX2_holds_25 : decode cX2_holds 25 = .ok (.getfield 24, 3) := by decide +kernel
theorem dX2_holds_28 : decode cX2_holds 28 = .ok (.aload_n 2, 1) := by decide +kernel
theorem dX2_holds_29 : decode cX2_holds 29 = .ok (.getfield 15, 3) := by decide +kernel
theorem dX2_holds_32 : decode cX2_holds 32 = .ok (.if_icmp .ne 14, 3) := by decide +kernel
theorem dX2_holds_35 : decode cX2_holds 35 = .ok (.aload_n 0, 1) := by decide +kernel
theorem dX2_holds_36 : decode cX2_holds 36 = .ok (.getfield 27, 3) := by decide +kernel
theorem dX2_holds_39 : decode cX2_holds 39 = .ok (.aload_n 2, 1) := by decide +kernel
theorem dX2_holds_40 : decode cX2_holds 40 = .ok (.getfield 20, 3) := by decide +kernel
theorem dX2_holds_43 : decode cX2_holds 43 = .ok (.if_icmp .eq 5, 3) := by decide +kernel
theorem dX2_holds_46 : decode cX2_holds 46 = .ok (.iconst 0, 1) := by decide +kernel
theorem dX2_holds_47 : decode cX2_holds 47 = .ok (.ireturn, 1) := by decide +kernel
theorem dX2_holds_48 : decode cX2_holds 48 = .ok (.aload_n 0, 1) := by decide +kernel
theorem dX2_holds_49 : decode cX2_holds 49 = .ok (.getfield 19, 3) := by decide +kernel
theorem dX2_holds_52 : decode cX2_holds 52 = .ok (.aload_n 0, 1) := by decide +kernel
theorem dX2_holds_53 : decode cX2_holds 53 = .ok (.getfield 23, 3) := by decide +kernel
theorem dX2_holds_56 : decode cX2_holds 56 = .ok (.imul, 1) := by decide +kernel
theorem dX2_holds_57 : decode cX2_holds 57 = .ok (.istore_n 3, 1) := by decide +kernel
theorem dX2_holds_58 : decode cX2_holds 58 = .ok (.aload_n 0, 1) := by decide +kernel
theorem dX2_holds_59 : decode cX2_holds 59 = .ok (.aload_n 1, 1) := by decide +kernel
theorem dX2_holds_60 : decode cX2_holds 60 = .ok (.iconst 0, 1) := by decide +kernel
theorem dX2_holds_61 : decode cX2_holds 61 = .ok (.iload_n 3, 1) := by decide +kernel
theorem dX2_holds_62 : decode cX2_holds 62 = .ok (.invokevirtual 66, 3) := by decide +kernel
theorem dX2_holds_65 : decode cX2_holds 65 = .ok (.ifCond .eq 25, 3) := by decide +kernel
theorem dX2_holds_68 : decode cX2_holds 68 = .ok (.aload_n 0, 1) := by decide +kernel
theorem dX2_holds_69 : decode cX2_holds 69 = .ok (.aload_n 2, 1) := by decide +kernel
theorem dX2_holds_70 : decode cX2_holds 70 = .ok (.iload_n 3, 1) := by decide +kernel
theorem dX2_holds_71 : decode cX2_holds 71 = .ok (.aload_n 0, 1) := by decide +kernel
theorem dX2_holds_72 : decode cX2_holds 72 = .ok (.getfield 24, 3) := by decide +kernel
theorem dX2_holds_75 : decode cX2_holds 75 = .ok (.aload_n 0, 1) := by decide +kernel
theorem dX2_holds_76 : decode cX2_holds 76 = .ok (.getfield 27, 3) := by decide +kernel
theorem dX2_holds_79 : decode cX2_holds 79 = .ok (.imul, 1) := by decide +kernel
theorem dX2_holds_80 : decode cX2_holds 80 = .ok (.invokevirtual 66, 3) := by decide +kernel
theorem dX2_holds_83 : decode cX2_holds 83 = .ok (.ifCond .eq 7, 3) := by decide +kernel
theorem dX2_holds_86 : decode cX2_holds 86 = .ok (.iconst 1, 1) := by decide +kernel
theorem dX2_holds_87 : decode cX2_holds 87 = .ok (.goto 4, 3) := by decide +kernel
theorem dX2_holds_90 : decode cX2_holds 90 = .ok (.iconst 0, 1) := by decide +kernel
theorem dX2_holds_91 : decode cX2_holds 91 = .ok (.ireturn, 1) := by decide +kernel
theorem dX2_isAt_0 : decode cX2_isAt 0 = .ok (.iconst 0, 1) := by decide +kernel
theorem dX2_isAt_1 : decode cX2_isAt 1 = .ok (.istore 4, 2) := by decide +kernel
theorem dX2_isAt_3 : decode cX2_isAt 3 = .ok (.iload 4, 2) := by decide +kernel
theorem dX2_isAt_5 : decode cX2_isAt 5 = .ok (.iload_n 3, 1) := by decide +kernel
theorem dX2_isAt_6 : decode cX2_isAt 6 = .ok (.if_icmp .ge 31, 3) := by decide +kernel
theorem dX2_isAt_9 : decode cX2_isAt 9 = .ok (.aload_n 0, 1) := by decide +kernel
theorem dX2_isAt_10 : decode cX2_isAt 10 = .ok (.getfield 11, 3) := by decide +kernel
theorem dX2_isAt_13 : decode cX2_isAt 13 = .ok (.iload_n 2, 1) := by decide +kernel
theorem dX2_isAt_14 : decode cX2_isAt 14 = .ok (.iload 4, 2) := by decide +kernel
theorem dX2_isAt_16 : decode cX2_isAt 16 = .ok (.iadd, 1) := by decide +kernel
theorem dX2_isAt_17 : decode cX2_isAt 17 = .ok (.laload, 1) := by decide +kernel
theorem dX2_isAt_18 : decode cX2_isAt 18 = .ok (.aload_n 1, 1) := by decide +kernel
theorem dX2_isAt_19 : decode cX2_isAt 19 = .ok (.getfield 39, 3) := by decide +kernel
theorem dX2_isAt_22 : decode cX2_isAt 22 = .ok (.iload 4, 2) := by decide +kernel
theorem dX2_isAt_24 : decode cX2_isAt 24 = .ok (.laload, 1) := by decide +kernel
theorem dX2_isAt_25 : decode cX2_isAt 25 = .ok (.lcmp, 1) := by decide +kernel
theorem dX2_isAt_26 : decode cX2_isAt 26 = .ok (.ifCond .eq 5, 3) := by decide +kernel
theorem dX2_isAt_29 : decode cX2_isAt 29 = .ok (.iconst 0, 1) := by decide +kernel
theorem dX2_isAt_30 : decode cX2_isAt 30 = .ok (.ireturn, 1) := by decide +kernel
theorem dX2_isAt_31 : decode cX2_isAt 31 = .ok (.iinc 4 1, 3) := by decide +kernel
theorem dX2_isAt_34 : decode cX2_isAt 34 = .ok (.goto (-31), 3) := by decide +kernel
theorem dX2_isAt_37 : decode cX2_isAt 37 = .ok (.iconst 1, 1) := by decide +kernel
theorem dX2_isAt_38 : decode cX2_isAt 38 = .ok (.ireturn, 1) := by decide +kernel
theorem dX3_init_0 : decode cX3_init 0 = .ok (.aload_n 0, 1) := by decide +kernel
theorem dX3_init_1 : decode cX3_init 1 = .ok (.invokespecial 3, 3) := by decide +kernel
theorem dX3_init_4 : decode cX3_init 4 = .ok (.aload_n 0, 1) := by decide +kernel
theorem dX3_init_5 : decode cX3_init 5 = .ok (.bipush 12, 2) := by decide +kernel
theorem dX3_init_7 : decode cX3_init 7 = .ok (.newarray .int, 2) := by decide +kernel
theorem dX3_init_9 : decode cX3_init 9 = .ok (.putfield 11, 3) := by decide +kernel
theorem dX3_init_12 : decode cX3_init 12 = .ok (.aload_n 0, 1) := by decide +kernel
theorem dX3_init_13 : decode cX3_init 13 = .ok (.bipush 12, 2) := by decide +kernel
theorem dX3_init_15 : decode cX3_init 15 = .ok (.newarray .int, 2) := by decide +kernel
theorem dX3_init_17 : decode cX3_init 17 = .ok (.putfield 17, 3) := by decide +kernel
theorem dX3_init_20 : decode cX3_init 20 = .ok (.aload_n 0, 1) := by decide +kernel
theorem dX3_init_21 : decode cX3_init 21 = .ok (.bipush 12, 2) := by decide +kernel
theorem dX3_init_23 : decode cX3_init 23 = .ok (.newarray .int, 2) := by decide +kernel
theorem dX3_init_25 : decode cX3_init 25 = .ok (.putfield 20, 3) := by decide +kernel
theorem dX3_init_28 : decode cX3_init 28 = .ok (.aload_n 0, 1) := by decide +kernel
theorem dX3_init_29 : decode cX3_init 29 = .ok (.bipush 12, 2) := by decide +kernel
theorem dX3_init_31 : decode cX3_init 31 = .ok (.newarray .int, 2) := by decide +kernel
theorem dX3_init_33 : decode cX3_init 33 = .ok (.putfield 23, 3) := by decide +kernel
theorem dX3_init_36 : decode cX3_init 36 = .ok (.aload_n 0, 1) := by decide +kernel
theorem dX3_init_37 : decode cX3_init 37 = .ok (.bipush 12, 2) := by decide +kernel
theorem dX3_init_39 : decode cX3_init 39 = .ok (.newarray .int, 2) := by decide +kernel
theorem dX3_init_41 : decode cX3_init 41 = .ok (.putfield 26, 3) := by decide +kernel
theorem dX3_init_44 : decode cX3_init 44 = .ok (.aload_n 0, 1) := by decide +kernel
theorem dX3_init_45 : decode cX3_init 45 = .ok (.bipush 12, 2) := by decide +kernel
theorem dX3_init_47 : decode cX3_init 47 = .ok (.newarray .int, 2) := by decide +kernel
theorem dX3_init_49 : decode cX3_init 49 = .ok (.putfield 29, 3) := by decide +kernel
theorem dX3_init_52 : decode cX3_init 52 = .ok (.return_, 1) := by decide +kernel
theorem dX3_formOf_0 : decode cX3_formOf 0 = .ok (.iload_n 0, 1) := by decide +kernel
theorem dX3_formOf_1 : decode cX3_formOf 1 = .ok (.iconst 1, 1) := by decide +kernel
theorem dX3_formOf_2 : decode cX3_formOf 2 = .ok (.if_icmp .lt 17, 3) := by decide +kernel
theorem dX3_formOf_5 : decode cX3_formOf 5 = .ok (.iload_n 0, 1) := by decide +kernel
theorem dX3_formOf_6 : decode cX3_formOf 6 = .ok (.bipush 14, 2) := by decide +kernel
theorem dX3_formOf_8 : decode cX3_formOf 8 = .ok (.if_icmp .gt 11, 3) := by decide +kernel
theorem dX3_formOf_11 : decode cX3_formOf 11 = .ok (.getstatic 32, 3) := by decide +kernel
theorem dX3_formOf_14 : decode cX3_formOf 14 = .ok (.iload_n 0, 1) := by decide +kernel
theorem dX3_formOf_15 : decode cX3_formOf 15 = .ok (.iaload, 1) := by decide +kernel
theorem dX3_formOf_16 : decode cX3_formOf 16 = .ok (.goto 4, 3) := by decide +kernel
theorem dX3_formOf_19 : decode cX3_formOf 19 = .ok (.iconst 0, 1) := by decide +kernel
theorem dX3_formOf_20 : decode cX3_formOf 20 = .ok (.ireturn, 1) := by decide +kernel
theorem dX3_make_0 : decode cX3_make 0 = .ok (.aload_n 1, 1) := by decide +kernel
theorem dX3_make_1 : decode cX3_make 1 = .ok (.invokevirtual 35, 3) := by decide +kernel
theorem dX3_make_4 : decode cX3_make 4 = .ok (.ifCond .ne 21, 3) := by decide +kernel
theorem dX3_make_7 : decode cX3_make 7 = .ok (.aload_n 0, 1) := by decide +kernel
theorem dX3_make_8 : decode cX3_make 8 = .ok (.aload_n 1, 1) := by decide +kernel
theorem dX3_make_9 : decode cX3_make 9 = .ok (.aload_n 2, 1) := by decide +kernel
theorem dX3_make_10 : decode cX3_make 10 = .ok (.iload_n 3, 1) := by decide +kernel
theorem dX3_make_11 : decode cX3_make 11 = .ok (.iload 4, 2) := by decide +kernel
theorem dX3_make_13 : decode cX3_make 13 = .ok (.iload 5, 2) := by decide +kernel
theorem dX3_make_15 : decode cX3_make 15 = .ok (.invokevirtual 39, 3) := by decide +kernel
theorem dX3_make_18 : decode cX3_make 18 = .ok (.ifCond .eq 7, 3) := by decide +kernel
theorem dX3_make_21 : decode cX3_make 21 = .ok (.iconst 1, 1) := by decide +kernel
theorem dX3_make_22 : decode cX3_make 22 = .ok (.goto 4, 3) := by decide +kernel
theorem dX3_make_25 : decode cX3_make 25 = .ok (.iconst 0, 1) := by decide +kernel
theorem dX3_make_26 : decode cX3_make 26 = .ok (.ireturn, 1) := by decide +kernel
theorem dX3_change_0 : decode cX3_change 0 = .ok (.aload_n 1, 1) := by decide +kernel
theorem dX3_change_1 : decode cX3_change 1 = .ok (.getfield 43, 3) := by decide +kernel
theorem dX3_change_4 : decode cX3_change 4 = .ok (.iload_n 3, 1) := by decide +kernel
theorem dX3_change_5 : decode cX3_change 5 = .ok (.iload 4, 2) := by decide +kernel
theorem dX3_change_7 : decode cX3_change 7 = .ok (.iload 5, 2) := by decide +kernel
theorem dX3_change_9 : decode cX3_change 9 = .ok (.invokestatic 47, 3) := by decide +kernel
theorem dX3_change_12 : decode cX3_change 12 = .ok (.ifCond .ne 5, 3) := by decide +kernel
theorem dX3_change_15 : decode cX3_change 15 = .ok (.iconst 0, 1) := by decide +kernel
theorem dX3_change_16 : decode cX3_change 16 = .ok (.ireturn, 1) := by decide +kernel
theorem dX3_change_17 : decode cX3_change 17 = .ok (.iload_n 3, 1) := by decide +kernel
theorem dX3_change_18 : decode cX3_change 18 = .ok (.tableswitch 186 1 14 #[70, 76, 84, 94, 102, 112, 120, 127, 136, 143, 152, 163, 172, 178], 70) := by decide +kernel
theorem dX3_change_88 : decode cX3_change 88 = .ok (.aload_n 1, 1) := by decide +kernel
theorem dX3_change_89 : decode cX3_change 89 = .ok (.aload_n 2, 1) := by decide +kernel
theorem dX3_change_90 : decode cX3_change 90 = .ok (.invokestatic 51, 3) := by decide +kernel
theorem dX3_change_93 : decode cX3_change 93 = .ok (.ireturn, 1) := by decide +kernel
theorem dX3_change_94 : decode cX3_change 94 = .ok (.aload_n 1, 1) := by decide +kernel
theorem dX3_change_95 : decode cX3_change 95 = .ok (.aload_n 2, 1) := by decide +kernel
theorem dX3_change_96 : decode cX3_change 96 = .ok (.iload 4, 2) := by decide +kernel
theorem dX3_change_98 : decode cX3_change 98 = .ok (.invokestatic 55, 3) := by decide +kernel
theorem dX3_change_101 : decode cX3_change 101 = .ok (.ireturn, 1) := by decide +kernel
theorem dX3_change_102 : decode cX3_change 102 = .ok (.aload_n 1, 1) := by decide +kernel
theorem dX3_change_103 : decode cX3_change 103 = .ok (.aload_n 2, 1) := by decide +kernel
theorem dX3_change_104 : decode cX3_change 104 = .ok (.iload 4, 2) := by decide +kernel
theorem dX3_change_106 : decode cX3_change 106 = .ok (.iload 5, 2) := by decide +kernel
theorem dX3_change_108 : decode cX3_change 108 = .ok (.invokestatic 59, 3) := by decide +kernel
theorem dX3_change_111 : decode cX3_change 111 = .ok (.ireturn, 1) := by decide +kernel
theorem dX3_change_112 : decode cX3_change 112 = .ok (.aload_n 1, 1) := by decide +kernel
theorem dX3_change_113 : decode cX3_change 113 = .ok (.aload_n 2, 1) := by decide +kernel
theorem dX3_change_114 : decode cX3_change 114 = .ok (.iload 4, 2) := by decide +kernel
theorem dX3_change_116 : decode cX3_change 116 = .ok (.invokestatic 63, 3) := by decide +kernel
theorem dX3_change_119 : decode cX3_change 119 = .ok (.ireturn, 1) := by decide +kernel
theorem dX3_change_120 : decode cX3_change 120 = .ok (.aload_n 1, 1) := by decide +kernel
theorem dX3_change_121 : decode cX3_change 121 = .ok (.aload_n 2, 1) := by decide +kernel
theorem dX3_change_122 : decode cX3_change 122 = .ok (.iload 4, 2) := by decide +kernel
theorem dX3_change_124 : decode cX3_change 124 = .ok (.iload 5, 2) := by decide +kernel
theorem dX3_change_126 : decode cX3_change 126 = .ok (.invokestatic 66, 3) := by decide +kernel
theorem dX3_change_129 : decode cX3_change 129 = .ok (.ireturn, 1) := by decide +kernel
theorem dX3_change_130 : decode cX3_change 130 = .ok (.aload_n 1, 1) := by decide +kernel
theorem dX3_change_131 : decode cX3_change 131 = .ok (.aload_n 2, 1) := by decide +kernel
theorem dX3_change_132 : decode cX3_change 132 = .ok (.iload 4, 2) := by decide +kernel
theorem dX3_change_134 : decode cX3_change 134 = .ok (.invokestatic 69, 3) := by decide +kernel
theorem dX3_change_137 : decode cX3_change 137 = .ok (.ireturn, 1) := by decide +kernel
theorem dX3_change_138 : decode cX3_change 138 = .ok (.aload_n 0, 1) := by decide +kernel
theorem dX3_change_139 : decode cX3_change 139 = .ok (.aload_n 1, 1) := by decide +kernel
theorem dX3_change_140 : decode cX3_change 140 = .ok (.aload_n 2, 1) := by decide +kernel
theorem dX3_change_141 : decode cX3_change 141 = .ok (.invokevirtual 72, 3) := by decide +kernel
theorem dX3_change_144 : decode cX3_change 144 = .ok (.ireturn, 1) := by decide +kernel
theorem dX3_change_145 : decode cX3_change 145 = .ok (.aload_n 0, 1) := by decide +kernel
theorem dX3_change_146 : decode cX3_change 146 = .ok (.aload_n 1, 1) := by decide +kernel
theorem dX3_change_147 : decode cX3_change 147 = .ok (.aload_n 2, 1) := by decide +kernel
theorem dX3_change_148 : decode cX3_change 148 = .ok (.iload 4, 2) := by decide +kernel
theorem dX3_change_150 : decode cX3_change 150 = .ok (.invokevirtual 75, 3) := by decide +kernel
theorem dX3_change_153 : decode cX3_change 153 = .ok (.ireturn, 1) := by decide +kernel
theorem dX3_change_154 : decode cX3_change 154 = .ok (.aload_n 0, 1) := by decide +kernel
theorem dX3_change_155 : decode cX3_change 155 = .ok (.aload_n 1, 1) := by decide +kernel
theorem dX3_change_156 : decode cX3_change 156 = .ok (.aload_n 2, 1) := by decide +kernel
theorem dX3_change_157 : decode cX3_change 157 = .ok (.invokevirtual 78, 3) := by decide +kernel
theorem dX3_change_160 : decode cX3_change 160 = .ok (.ireturn, 1) := by decide +kernel
theorem dX3_change_161 : decode cX3_change 161 = .ok (.aload_n 0, 1) := by decide +kernel
theorem dX3_change_162 : decode cX3_change 162 = .ok (.aload_n 1, 1) := by decide +kernel
theorem dX3_change_163 : decode cX3_change 163 = .ok (.aload_n 2, 1) := by decide +kernel
theorem dX3_change_164 : decode cX3_change 164 = .ok (.iload 4, 2) := by decide +kernel
theorem dX3_change_166 : decode cX3_change 166 = .ok (.invokevirtual 81, 3) := by decide +kernel
theorem dX3_change_169 : decode cX3_change 169 = .ok (.ireturn, 1) := by decide +kernel
theorem dX3_change_170 : decode cX3_change 170 = .ok (.aload_n 0, 1) := by decide +kernel
theorem dX3_change_171 : decode cX3_change 171 = .ok (.aload_n 1, 1) := by decide +kernel
theorem dX3_change_172 : decode cX3_change 172 = .ok (.aload_n 2, 1) := by decide +kernel
theorem dX3_change_173 : decode cX3_change 173 = .ok (.iload 4, 2) := by decide +kernel
theorem dX3_change_175 : decode cX3_change 175 = .ok (.iload 5, 2) := by decide +kernel
theorem dX3_change_177 : decode cX3_change 177 = .ok (.invokevirtual 84, 3) := by decide +kernel
theorem dX3_change_180 : decode cX3_change 180 = .ok (.ireturn, 1) := by decide +kernel
theorem dX3_change_181 : decode cX3_change 181 = .ok (.aload_n 0, 1) := by decide +kernel
theorem dX3_change_182 : decode cX3_change 182 = .ok (.aload_n 1, 1) := by decide +kernel
theorem dX3_change_183 : decode cX3_change 183 = .ok (.aload_n 2, 1) := by decide +kernel
theorem dX3_change_184 : decode cX3_change 184 = .ok (.iload 4, 2) := by decide +kernel
theorem dX3_change_186 : decode cX3_change 186 = .ok (.invokevirtual 87, 3) := by decide +kernel
theorem dX3_change_189 : decode cX3_change 189 = .ok (.ireturn, 1) := by decide +kernel
theorem dX3_change_190 : decode cX3_change 190 = .ok (.aload_n 1, 1) := by decide +kernel
theorem dX3_change_191 : decode cX3_change 191 = .ok (.aload_n 2, 1) := by decide +kernel
theorem dX3_change_192 : decode cX3_change 192 = .ok (.invokestatic 90, 3) := by decide +kernel
theorem dX3_change_195 : decode cX3_change 195 = .ok (.ireturn, 1) := by decide +kernel
theorem dX3_change_196 : decode cX3_change 196 = .ok (.aload_n 1, 1) := by decide +kernel
theorem dX3_change_197 : decode cX3_change 197 = .ok (.aload_n 2, 1) := by decide +kernel
theorem dX3_change_198 : decode cX3_change 198 = .ok (.iload 4, 2) := by decide +kernel
theorem dX3_change_200 : decode cX3_change 200 = .ok (.invokestatic 93, 3) := by decide +kernel
theorem dX3_change_203 : decode cX3_change 203 = .ok (.ireturn, 1) := by decide +kernel
theorem dX3_change_204 : decode cX3_change 204 = .ok (.iconst 0, 1) := by decide +kernel
theorem dX3_change_205 : decode cX3_change 205 = .ok (.ireturn, 1) := by decide +kernel
theorem dX3_numbersCanBe_0 : decode cX3_numbersCanBe 0 = .ok (.iload_n 1, 1) := by decide +kernel
theorem dX3_numbersCanBe_1 : decode cX3_numbersCanBe 1 = .ok (.tableswitch 190 3 14 #[63, 190, 89, 148, 190, 190, 190, 190, 115, 190, 190, 169], 63) := by decide +kernel
theorem dX3_numbersCanBe_64 : decode cX3_numbersCanBe 64 = .ok (.iload_n 2, 1) := by decide +kernel
theorem dX3_numbersCanBe_65 : decode cX3_numbersCanBe 65 = .ok (.iconst 0, 1) := by decide +kernel
theorem dX3_numbersCanBe_66 : decode cX3_numbersCanBe 66 = .ok (.iload_n 0, 1) := by decide +kernel
theorem dX3_numbersCanBe_67 : decode cX3_numbersCanBe 67 = .ok (.iconst 1, 1) := by decide +kernel
theorem dX3_numbersCanBe_68 : decode cX3_numbersCanBe 68 = .ok (.isub, 1) := by decide +kernel
theorem dX3_numbersCanBe_69 : decode cX3_numbersCanBe 69 = .ok (.invokestatic 96, 3) := by decide +kernel
theorem dX3_numbersCanBe_72 : decode cX3_numbersCanBe 72 = .ok (.ifCond .eq 16, 3) := by decide +kernel
theorem dX3_numbersCanBe_75 : decode cX3_numbersCanBe 75 = .ok (.iload_n 3, 1) := by decide +kernel
theorem dX3_numbersCanBe_76 : decode cX3_numbersCanBe 76 = .ok (.iconst 0, 1) := by decide +kernel
theorem dX3_numbersCanBe_77 : decode cX3_numbersCanBe 77 = .ok (.iconst 3, 1) := by decide +kernel
theorem dX3_numbersCanBe_78 : decode cX3_numbersCanBe 78 = .ok (.invokestatic 96, 3) := by decide +kernel
theorem dX3_numbersCanBe_81 : decode cX3_numbersCanBe 81 = .ok (.ifCond .eq 7, 3) := by decide +kernel
theorem dX3_numbersCanBe_84 : decode cX3_numbersCanBe 84 = .ok (.iconst 1, 1) := by decide +kernel
theorem dX3_numbersCanBe_85 : decode cX3_numbersCanBe 85 = .ok (.goto 4, 3) := by decide +kernel
theorem dX3_numbersCanBe_88 : decode cX3_numbersCanBe 88 = .ok (.iconst 0, 1) := by decide +kernel
theorem dX3_numbersCanBe_89 : decode cX3_numbersCanBe 89 = .ok (.ireturn, 1) := by decide +kernel
theorem dX3_numbersCanBe_90 : decode cX3_numbersCanBe 90 = .ok (.iload_n 2, 1) := by decide +kernel
theorem dX3_numbersCanBe_91 : decode cX3_numbersCanBe 91 = .ok (.iconst 0, 1) := by decide +kernel
theorem dX3_numbersCanBe_92 : decode cX3_numbersCanBe 92 = .ok (.iload_n 0, 1) := by decide +kernel
theorem dX3_numbersCanBe_93 : decode cX3_numbersCanBe 93 = .ok (.iconst 2, 1) := by decide +kernel
theorem dX3_numbersCanBe_94 : decode cX3_numbersCanBe 94 = .ok (.isub, 1) := by decide +kernel
theorem dX3_numbersCanBe_95 : decode cX3_numbersCanBe 95 = .ok (.invokestatic 96, 3) := by decide +kernel
theorem dX3_numbersCanBe_98 : decode cX3_numbersCanBe 98 = .ok (.ifCond .eq 16, 3) := by decide +kernel
theorem dX3_numbersCanBe_101 : decode cX3_numbersCanBe 101 = .ok (.iload_n 3, 1) := by decide +kernel
theorem dX3_numbersCanBe_102 : decode cX3_numbersCanBe 102 = .ok (.iconst 0, 1) := by decide +kernel
theorem dX3_numbersCanBe_103 : decode cX3_numbersCanBe 103 = .ok (.iconst 3, 1) := by decide +kernel
theorem dX3_numbersCanBe_104 : decode cX3_numbersCanBe 104 = .ok (.invokestatic 96, 3) := by decide +kernel
theorem dX3_numbersCanBe_107 : decode cX3_numbersCanBe 107 = .ok (.ifCond .eq 7, 3) := by decide +kernel
theorem dX3_numbersCanBe_110 : decode cX3_numbersCanBe 110 = .ok (.iconst 1, 1) := by decide +kernel
theorem dX3_numbersCanBe_111 : decode cX3_numbersCanBe 111 = .ok (.goto 4, 3) := by decide +kernel
theorem dX3_numbersCanBe_114 : decode cX3_numbersCanBe 114 = .ok (.iconst 0, 1) := by decide +kernel
theorem dX3_numbersCanBe_115 : decode cX3_numbersCanBe 115 = .ok (.ireturn, 1) := by decide +kernel
theorem dX3_numbersCanBe_116 : decode cX3_numbersCanBe 116 = .ok (.iload_n 2, 1) := by decide +kernel
theorem dX3_numbersCanBe_117 : decode cX3_numbersCanBe 117 = .ok (.iconst 0, 1) := by decide +kernel
theorem dX3_numbersCanBe_118 : decode cX3_numbersCanBe 118 = .ok (.iload_n 0, 1) := by decide +kernel
theorem dX3_numbersCanBe_119 : decode cX3_numbersCanBe 119 = .ok (.iconst 1, 1) := by decide +kernel
theorem dX3_numbersCanBe_120 : decode cX3_numbersCanBe 120 = .ok (.isub, 1) := by decide +kernel
theorem dX3_numbersCanBe_121 : decode cX3_numbersCanBe 121 = .ok (.invokestatic 96, 3) := by decide +kernel
theorem dX3_numbersCanBe_124 : decode cX3_numbersCanBe 124 = .ok (.ifCond .eq 23, 3) := by decide +kernel
theorem dX3_numbersCanBe_127 : decode cX3_numbersCanBe 127 = .ok (.iload_n 3, 1) := by decide +kernel
theorem dX3_numbersCanBe_128 : decode cX3_numbersCanBe 128 = .ok (.iconst 0, 1) := by decide +kernel
theorem dX3_numbersCanBe_129 : decode cX3_numbersCanBe 129 = .ok (.iload_n 0, 1) := by decide +kernel
theorem dX3_numbersCanBe_130 : decode cX3_numbersCanBe 130 = .ok (.iconst 1, 1) := by decide +kernel
theorem dX3_numbersCanBe_131 : decode cX3_numbersCanBe 131 = .ok (.isub, 1) := by decide +kernel
theorem dX3_numbersCanBe_132 : decode cX3_numbersCanBe 132 = .ok (.invokestatic 96, 3) := by decide +kernel
theorem dX3_numbersCanBe_135 : decode cX3_numbersCanBe 135 = .ok (.ifCond .eq 12, 3) := by decide +kernel
theorem dX3_numbersCanBe_138 : decode cX3_numbersCanBe 138 = .ok (.iload_n 2, 1) := by decide +kernel
theorem dX3_numbersCanBe_139 : decode cX3_numbersCanBe 139 = .ok (.iload_n 3, 1) := by decide +kernel
theorem dX3_numbersCanBe_140 : decode cX3_numbersCanBe 140 = .ok (.if_icmp .eq 7, 3) := by decide +kernel
theorem dX3_numbersCanBe_143 : decode cX3_numbersCanBe 143 = .ok (.iconst 1, 1) := by decide +kernel
theorem dX3_numbersCanBe_144 : decode cX3_numbersCanBe 144 = .ok (.goto 4, 3) := by decide +kernel
theorem dX3_numbersCanBe_147 : decode cX3_numbersCanBe 147 = .ok (.iconst 0, 1) := by decide +kernel
theorem dX3_numbersCanBe_148 : decode cX3_numbersCanBe 148 = .ok (.ireturn, 1) := by decide +kernel
theorem dX3_numbersCanBe_149 : decode cX3_numbersCanBe 149 = .ok (.iload_n 2, 1) := by decide +kernel
theorem dX3_numbersCanBe_150 : decode cX3_numbersCanBe 150 = .ok (.iconst 1, 1) := by decide +kernel
theorem dX3_numbersCanBe_151 : decode cX3_numbersCanBe 151 = .ok (.iload_n 0, 1) := by decide +kernel
theorem dX3_numbersCanBe_152 : decode cX3_numbersCanBe 152 = .ok (.iconst 1, 1) := by decide +kernel
theorem dX3_numbersCanBe_153 : decode cX3_numbersCanBe 153 = .ok (.isub, 1) := by decide +kernel
theorem dX3_numbersCanBe_154 : decode cX3_numbersCanBe 154 = .ok (.invokestatic 96, 3) := by decide +kernel
theorem dX3_numbersCanBe_157 : decode cX3_numbersCanBe 157 = .ok (.ifCond .eq 11, 3) := by decide +kernel
theorem dX3_numbersCanBe_160 : decode cX3_numbersCanBe 160 = .ok (.iload_n 3, 1) := by decide +kernel
theorem dX3_numbersCanBe_161 : decode cX3_numbersCanBe 161 = .ok (.ifCond .ne 7, 3) := by decide +kernel
theorem dX3_numbersCanBe_164 : decode cX3_numbersCanBe 164 = .ok (.iconst 1, 1) := by decide +kernel
theorem dX3_numbersCanBe_165 : decode cX3_numbersCanBe 165 = .ok (.goto 4, 3) := by decide +kernel
theorem dX3_numbersCanBe_168 : decode cX3_numbersCanBe 168 = .ok (.iconst 0, 1) := by decide +kernel
theorem dX3_numbersCanBe_169 : decode cX3_numbersCanBe 169 = .ok (.ireturn, 1) := by decide +kernel
theorem dX3_numbersCanBe_170 : decode cX3_numbersCanBe 170 = .ok (.iload_n 2, 1) := by decide +kernel
theorem dX3_numbersCanBe_171 : decode cX3_numbersCanBe 171 = .ok (.iconst 0, 1) := by decide +kernel
theorem dX3_numbersCanBe_172 : decode cX3_numbersCanBe 172 = .ok (.iload_n 0, 1) := by decide +kernel
theorem dX3_numbersCanBe_173 : decode cX3_numbersCanBe 173 = .ok (.iconst 2, 1) := by decide +kernel
theorem dX3_numbersCanBe_174 : decode cX3_numbersCanBe 174 = .ok (.isub, 1) := by decide +kernel
theorem dX3_numbersCanBe_175 : decode cX3_numbersCanBe 175 = .ok (.invokestatic 96, 3) := by decide +kernel
theorem dX3_numbersCanBe_178 : decode cX3_numbersCanBe 178 = .ok (.ifCond .eq 11, 3) := by decide +kernel
theorem dX3_numbersCanBe_181 : decode cX3_numbersCanBe 181 = .ok (.iload_n 3, 1) := by decide +kernel
theorem dX3_numbersCanBe_182 : decode cX3_numbersCanBe 182 = .ok (.ifCond .ne 7, 3) := by decide +kernel
theorem dX3_numbersCanBe_185 : decode cX3_numbersCanBe 185 = .ok (.iconst 1, 1) := by decide +kernel
theorem dX3_numbersCanBe_186 : decode cX3_numbersCanBe 186 = .ok (.goto 4, 3) := by decide +kernel
theorem dX3_numbersCanBe_189 : decode cX3_numbersCanBe 189 = .ok (.iconst 0, 1) := by decide +kernel
theorem dX3_numbersCanBe_190 : decode cX3_numbersCanBe 190 = .ok (.ireturn, 1) := by decide +kernel
theorem dX3_numbersCanBe_191 : decode cX3_numbersCanBe 191 = .ok (.iload_n 2, 1) := by decide +kernel
theorem dX3_numbersCanBe_192 : decode cX3_numbersCanBe 192 = .ok (.iconst 0, 1) := by decide +kernel
theorem dX3_numbersCanBe_193 : decode cX3_numbersCanBe 193 = .ok (.iload_n 1, 1) := by decide +kernel
theorem dX3_numbersCanBe_194 : decode cX3_numbersCanBe 194 = .ok (.invokestatic 102, 3) := by decide +kernel
theorem dX3_numbersCanBe_197 : decode cX3_numbersCanBe 197 = .ok (.ifCond .ne 7, 3) := by decide +kernel
theorem dX3_numbersCanBe_200 : decode cX3_numbersCanBe 200 = .ok (.iconst 0, 1) := by decide +kernel
theorem dX3_numbersCanBe_201 : decode cX3_numbersCanBe 201 = .ok (.goto 6, 3) := by decide +kernel
theorem dX3_numbersCanBe_204 : decode cX3_numbersCanBe 204 = .ok (.iload_n 0, 1) := by decide +kernel
theorem dX3_numbersCanBe_205 : decode cX3_numbersCanBe 205 = .ok (.iconst 1, 1) := by decide +kernel
theorem dX3_numbersCanBe_206 : decode cX3_numbersCanBe 206 = .ok (.isub, 1) := by decide +kernel
theorem dX3_numbersCanBe_207 : decode cX3_numbersCanBe 207 = .ok (.invokestatic 96, 3) := by decide +kernel
theorem dX3_numbersCanBe_210 : decode cX3_numbersCanBe 210 = .ok (.ifCond .eq 11, 3) := by decide +kernel
theorem dX3_numbersCanBe_213 : decode cX3_numbersCanBe 213 = .ok (.iload_n 3, 1) := by decide +kernel
theorem dX3_numbersCanBe_214 : decode cX3_numbersCanBe 214 = .ok (.ifCond .ne 7, 3) := by decide +kernel
theorem dX3_numbersCanBe_217 : decode cX3_numbersCanBe 217 = .ok (.iconst 1, 1) := by decide +kernel
theorem dX3_numbersCanBe_218 : decode cX3_numbersCanBe 218 = .ok (.goto 4, 3) := by decide +kernel
theorem dX3_numbersCanBe_221 : decode cX3_numbersCanBe 221 = .ok (.iconst 0, 1) := by decide +kernel
theorem dX3_numbersCanBe_222 : decode cX3_numbersCanBe 222 = .ok (.ireturn, 1) := by decide +kernel
theorem dX3_isWithin_0 : decode cX3_isWithin 0 = .ok (.iload_n 0, 1) := by decide +kernel
theorem dX3_isWithin_1 : decode cX3_isWithin 1 = .ok (.iload_n 1, 1) := by decide +kernel
theorem dX3_isWithin_2 : decode cX3_isWithin 2 = .ok (.if_icmp .lt 12, 3) := by decide +kernel
theorem dX3_isWithin_5 : decode cX3_isWithin 5 = .ok (.iload_n 0, 1) := by decide +kernel
theorem dX3_isWithin_6 : decode cX3_isWithin 6 = .ok (.iload_n 2, 1) := by decide +kernel
theorem dX3_isWithin_7 : decode cX3_isWithin 7 = .ok (.if_icmp .gt 7, 3) := by decide +kernel
theorem dX3_isWithin_10 : decode cX3_isWithin 10 = .ok (.iconst 1, 1) := by decide +kernel
theorem dX3_isWithin_11 : decode cX3_isWithin 11 = .ok (.goto 4, 3) := by decide +kernel
theorem dX3_isWithin_14 : decode cX3_isWithin 14 = .ok (.iconst 0, 1) := by decide +kernel
theorem dX3_isWithin_15 : decode cX3_isWithin 15 = .ok (.ireturn, 1) := by decide +kernel
theorem dX3_turn_0 : decode cX3_turn 0 = .ok (.aload_n 1, 1) := by decide +kernel
theorem dX3_turn_1 : decode cX3_turn 1 = .ok (.aload_n 0, 1) := by decide +kernel
theorem dX3_turn_2 : decode cX3_turn 2 = .ok (.getfield 43, 3) := by decide +kernel
theorem dX3_turn_5 : decode cX3_turn 5 = .ok (.aload_n 0, 1) := by decide +kernel
theorem dX3_turn_6 : decode cX3_turn 6 = .ok (.getfield 106, 3) := by decide +kernel
theorem dX3_turn_9 : decode cX3_turn 9 = .ok (.invokevirtual 109, 3) := by decide +kernel
theorem dX3_turn_12 : decode cX3_turn 12 = .ok (.ifCond .ne 5, 3) := by decide +kernel
theorem dX3_turn_15 : decode cX3_turn 15 = .ok (.iconst 0, 1) := by decide +kernel
theorem dX3_turn_16 : decode cX3_turn 16 = .ok (.ireturn, 1) := by decide +kernel
theorem dX3_turn_17 : decode cX3_turn 17 = .ok (.iconst 0, 1) := by decide +kernel
theorem dX3_turn_18 : decode cX3_turn 18 = .ok (.istore_n 2, 1) := by decide +kernel
theorem dX3_turn_19 : decode cX3_turn 19 = .ok (.iload_n 2, 1) := by decide +kernel
theorem dX3_turn_20 : decode cX3_turn 20 = .ok (.aload_n 0, 1) := by decide +kernel
theorem dX3_turn_21 : decode cX3_turn 21 = .ok (.getfield 106, 3) := by decide +kernel
theorem dX3_turn_24 : decode cX3_turn 24 = .ok (.if_icmp .ge 37, 3) := by decide +kernel
theorem dX3_turn_27 : decode cX3_turn 27 = .ok (.iconst 0, 1) := by decide +kernel
theorem dX3_turn_28 : decode cX3_turn 28 = .ok (.istore_n 3, 1) := by decide +kernel
theorem dX3_turn_29 : decode cX3_turn 29 = .ok (.iload_n 3, 1) := by decide +kernel
theorem dX3_turn_30 : decode cX3_turn 30 = .ok (.aload_n 0, 1) := by decide +kernel
theorem dX3_turn_31 : decode cX3_turn 31 = .ok (.getfield 43, 3) := by decide +kernel
theorem dX3_turn_34 : decode cX3_turn 34 = .ok (.if_icmp .ge 21, 3) := by decide +kernel
theorem dX3_turn_37 : decode cX3_turn 37 = .ok (.aload_n 1, 1) := by decide +kernel
theorem dX3_turn_38 : decode cX3_turn 38 = .ok (.iload_n 3, 1) := by decide +kernel
theorem dX3_turn_39 : decode cX3_turn 39 = .ok (.iload_n 2, 1) := by decide +kernel
theorem dX3_turn_40 : decode cX3_turn 40 = .ok (.aload_n 0, 1) := by decide +kernel
theorem dX3_turn_41 : decode cX3_turn 41 = .ok (.iload_n 2, 1) := by decide +kernel
theorem dX3_turn_42 : decode cX3_turn 42 = .ok (.iload_n 3, 1) := by decide +kernel
theorem dX3_turn_43 : decode cX3_turn 43 = .ok (.invokevirtual 113, 3) := by decide +kernel
theorem dX3_turn_46 : decode cX3_turn 46 = .ok (.invokevirtual 117, 3) := by decide +kernel
theorem dX3_turn_49 : decode cX3_turn 49 = .ok (.iinc 3 1, 3) := by decide +kernel
theorem dX3_turn_52 : decode cX3_turn 52 = .ok (.goto (-23), 3) := by decide +kernel
theorem dX3_turn_55 : decode cX3_turn 55 = .ok (.iinc 2 1, 3) := by decide +kernel
theorem dX3_turn_58 : decode cX3_turn 58 = .ok (.goto (-39), 3) := by decide +kernel
theorem dX3_turn_61 : decode cX3_turn 61 = .ok (.iconst 1, 1) := by decide +kernel
theorem dX3_turn_62 : decode cX3_turn 62 = .ok (.ireturn, 1) := by decide +kernel
theorem dX3_drop_0 : decode cX3_drop 0 = .ok (.aload_n 1, 1) := by decide +kernel
theorem dX3_drop_1 : decode cX3_drop 1 = .ok (.aload_n 0, 1) := by decide +kernel
theorem dX3_drop_2 : decode cX3_drop 2 = .ok (.getfield 106, 3) := by decide +kernel
theorem dX3_drop_5 : decode cX3_drop 5 = .ok (.aload_n 0, 1) := by decide +kernel
theorem dX3_drop_6 : decode cX3_drop 6 = .ok (.getfield 43, 3) := by decide +kernel
theorem dX3_drop_9 : decode cX3_drop 9 = .ok (.iconst 1, 1) := by decide +kernel
theorem dX3_drop_10 : decode cX3_drop 10 = .ok (.isub, 1) := by decide +kernel
theorem dX3_drop_11 : decode cX3_drop 11 = .ok (.invokevirtual 109, 3) := by decide +kernel
theorem dX3_drop_14 : decode cX3_drop 14 = .ok (.ifCond .ne 5, 3) := by decide +kernel
theorem dX3_drop_17 : decode cX3_drop 17 = .ok (.iconst 0, 1) := by decide +kernel
theorem dX3_drop_18 : decode cX3_drop 18 = .ok (.ireturn, 1) := by decide +kernel
theorem dX3_drop_19 : decode cX3_drop 19 = .ok (.aload_n 0, 1) := by decide +kernel
theorem dX3_drop_20 : decode cX3_drop 20 = .ok (.aload_n 1, 1) := by decide +kernel
theorem dX3_drop_21 : decode cX3_drop 21 = .ok (.iconst 0, 1) := by decide +kernel
theorem dX3_drop_22 : decode cX3_drop 22 = .ok (.iload_n 2, 1) := by decide +kernel
theorem dX3_drop_23 : decode cX3_drop 23 = .ok (.iconst 0, 1) := by decide +kernel
theorem dX3_drop_24 : decode cX3_drop 24 = .ok (.invokestatic 121, 3) := by decide +kernel
theorem dX3_drop_27 : decode cX3_drop 27 = .ok (.aload_n 0, 1) := by decide +kernel
theorem dX3_drop_28 : decode cX3_drop 28 = .ok (.aload_n 1, 1) := by decide +kernel
theorem dX3_drop_29 : decode cX3_drop 29 = .ok (.iload_n 2, 1) := by decide +kernel
theorem dX3_drop_30 : decode cX3_drop 30 = .ok (.iconst 1, 1) := by decide +kernel
theorem dX3_drop_31 : decode cX3_drop 31 = .ok (.iadd, 1) := by decide +kernel
theorem dX3_drop_32 : decode cX3_drop 32 = .ok (.aload_n 0, 1) := by decide +kernel
theorem dX3_drop_33 : decode cX3_drop 33 = .ok (.getfield 43, 3) := by decide +kernel
theorem dX3_drop_36 : decode cX3_drop 36 = .ok (.iconst (-1), 1) := by decide +kernel
theorem dX3_drop_37 : decode cX3_drop 37 = .ok (.invokestatic 121, 3) := by decide +kernel
theorem dX3_drop_40 : decode cX3_drop 40 = .ok (.iconst 1, 1) := by decide +kernel
theorem dX3_drop_41 : decode cX3_drop 41 = .ok (.ireturn, 1) := by decide +kernel
theorem dX3_moveColumns_0 : decode cX3_moveColumns 0 = .ok (.iconst 0, 1) := by decide +kernel
theorem dX3_moveColumns_1 : decode cX3_moveColumns 1 = .ok (.istore 5, 2) := by decide +kernel
theorem dX3_moveColumns_3 : decode cX3_moveColumns 3 = .ok (.iload 5, 2) := by decide +kernel
theorem dX3_moveColumns_5 : decode cX3_moveColumns 5 = .ok (.aload_n 0, 1) := by decide +kernel
theorem dX3_moveColumns_6 : decode cX3_moveColumns 6 = .ok (.getfield 106, 3) := by decide +kernel
theorem dX3_moveColumns_9 : decode cX3_moveColumns 9 = .ok (.if_icmp .ge 43, 3) := by decide +kernel
theorem dX3_moveColumns_12 : decode cX3_moveColumns 12 = .ok (.iload_n 2, 1) := by decide +kernel
theorem dX3_moveColumns_13 : decode cX3_moveColumns 13 = .ok (.istore 6, 2) := by decide +kernel
theorem dX3_moveColumns_15 : decode cX3_moveColumns 15 = .ok (.iload 6, 2) := by decide +kernel
theorem dX3_moveColumns_17 : decode cX3_moveColumns 17 = .ok (.iload_n 3, 1) := by decide +kernel
theorem dX3_moveColumns_18 : decode cX3_moveColumns 18 = .ok (.if_icmp .ge 28, 3) := by decide +kernel
theorem dX3_moveColumns_21 : decode cX3_moveColumns 21 = .ok (.aload_n 1, 1) := by decide +kernel
theorem dX3_moveColumns_22 : decode cX3_moveColumns 22 = .ok (.iload 5, 2) := by decide +kernel
theorem dX3_moveColumns_24 : decode cX3_moveColumns 24 = .ok (.iload 6, 2) := by decide +kernel
theorem dX3_moveColumns_26 : decode cX3_moveColumns 26 = .ok (.iload 4, 2) := by decide +kernel
theorem dX3_moveColumns_28 : decode cX3_moveColumns 28 = .ok (.iadd, 1) := by decide +kernel
theorem dX3_moveColumns_29 : decode cX3_moveColumns 29 = .ok (.aload_n 0, 1) := by decide +kernel
theorem dX3_moveColumns_30 : decode cX3_moveColumns 30 = .ok (.iload 5, 2) := by decide +kernel
theorem dX3_moveColumns_32 : decode cX3_moveColumns 32 = .ok (.iload 6, 2) := by decide +kernel
theorem dX3_moveColumns_34 : decode cX3_moveColumns 34 = .ok (.invokevirtual 113, 3) := by decide +kernel
theorem dX3_moveColumns_37 : decode cX3_moveColumns 37 = .ok (.invokevirtual 117, 3) := by decide +kernel
theorem dX3_moveColumns_40 : decode cX3_moveColumns 40 = .ok (.iinc 6 1, 3) := by decide +kernel
theorem dX3_moveColumns_43 : decode cX3_moveColumns 43 = .ok (.goto (-28), 3) := by decide +kernel
theorem dX3_moveColumns_46 : decode cX3_moveColumns 46 = .ok (.iinc 5 1, 3) := by decide +kernel
theorem dX3_moveColumns_49 : decode cX3_moveColumns 49 = .ok (.goto (-46), 3) := by decide +kernel
theorem dX3_moveColumns_52 : decode cX3_moveColumns 52 = .ok (.return_, 1) := by decide +kernel
theorem dX3_split_0 : decode cX3_split 0 = .ok (.aload_n 1, 1) := by decide +kernel
theorem dX3_split_1 : decode cX3_split 1 = .ok (.aload_n 0, 1) := by decide +kernel
theorem dX3_split_2 : decode cX3_split 2 = .ok (.getfield 106, 3) := by decide +kernel
theorem dX3_split_5 : decode cX3_split 5 = .ok (.aload_n 0, 1) := by decide +kernel
theorem dX3_split_6 : decode cX3_split 6 = .ok (.getfield 43, 3) := by decide +kernel
theorem dX3_split_9 : decode cX3_split 9 = .ok (.iconst 1, 1) := by decide +kernel
theorem dX3_split_10 : decode cX3_split 10 = .ok (.iadd, 1) := by decide +kernel
theorem dX3_split_11 : decode cX3_split 11 = .ok (.invokevirtual 109, 3) := by decide +kernel
theorem dX3_split_14 : decode cX3_split 14 = .ok (.ifCond .ne 5, 3) := by decide +kernel
theorem dX3_split_17 : decode cX3_split 17 = .ok (.iconst 0, 1) := by decide +kernel
theorem dX3_split_18 : decode cX3_split 18 = .ok (.ireturn, 1) := by decide +kernel
theorem dX3_split_19 : decode cX3_split 19 = .ok (.iconst 0, 1) := by decide +kernel
theorem dX3_split_20 : decode cX3_split 20 = .ok (.istore 4, 2) := by decide +kernel
theorem dX3_split_22 : decode cX3_split 22 = .ok (.iconst 0, 1) := by decide +kernel
theorem dX3_split_23 : decode cX3_split 23 = .ok (.istore 5, 2) := by decide +kernel
theorem dX3_split_25 : decode cX3_split 25 = .ok (.iload 5, 2) := by decide +kernel
theorem dX3_split_27 : decode cX3_split 27 = .ok (.aload_n 0, 1) := by decide +kernel
theorem dX3_split_28 : decode cX3_split 28 = .ok (.getfield 106, 3) := by decide +kernel
theorem dX3_split_31 : decode cX3_split 31 = .ok (.if_icmp .ge 95, 3) := by decide +kernel
theorem dX3_split_34 : decode cX3_split 34 = .ok (.aload_n 0, 1) := by decide +kernel
theorem dX3_split_35 : decode cX3_split 35 = .ok (.iload 5, 2) := by decide +kernel
theorem dX3_split_37 : decode cX3_split 37 = .ok (.iload_n 2, 1) := by decide +kernel
theorem dX3_split_38 : decode cX3_split 38 = .ok (.invokevirtual 113, 3) := by decide +kernel
theorem dX3_split_41 : decode cX3_split 41 = .ok (.lstore 6, 2) := by decide +kernel
theorem dX3_split_43 : decode cX3_split 43 = .ok (.lload 6, 2) := by decide +kernel
theorem dX3_split_45 : decode cX3_split 45 = .ok (.iload_n 3, 1) := by decide +kernel
theorem dX3_split_46 : decode cX3_split 46 = .ok (.invokestatic 125, 3) := by decide +kernel
theorem dX3_split_49 : decode cX3_split 49 = .ok (.istore 8, 2) := by decide +kernel
theorem dX3_split_51 : decode cX3_split 51 = .ok (.iload 8, 2) := by decide +kernel
theorem dX3_split_53 : decode cX3_split 53 = .ok (.iconst (-1), 1) := by decide +kernel
theorem dX3_split_54 : decode cX3_split 54 = .ok (.if_icmp .ne 25, 3) := by decide +kernel
theorem dX3_split_57 : decode cX3_split 57 = .ok (.aload_n 1, 1) := by decide +kernel
theorem dX3_split_58 : decode cX3_split 58 = .ok (.iload 5, 2) := by decide +kernel
theorem dX3_split_60 : decode cX3_split 60 = .ok (.iload_n 2, 1) := by decide +kernel
theorem dX3_split_61 : decode cX3_split 61 = .ok (.lload 6, 2) := by decide +kernel
theorem dX3_split_63 : decode cX3_split 63 = .ok (.invokevirtual 117, 3) := by decide +kernel
theorem dX3_split_66 : decode cX3_split 66 = .ok (.aload_n 1, 1) := by decide +kernel
theorem dX3_split_67 : decode cX3_split 67 = .ok (.iload 5, 2) := by decide +kernel
theorem dX3_split_69 : decode cX3_split 69 = .ok (.iload_n 2, 1) := by decide +kernel
theorem dX3_split_70 : decode cX3_split 70 = .ok (.iconst 1, 1) := by decide +kernel
theorem dX3_split_71 : decode cX3_split 71 = .ok (.iadd, 1) := by decide +kernel
theorem dX3_split_72 : decode cX3_split 72 = .ok (.lconst 0, 1) := by decide +kernel
theorem dX3_split_73 : decode cX3_split 73 = .ok (.invokevirtual 117, 3) := by decide +kernel
theorem dX3_split_76 : decode cX3_split 76 = .ok (.goto 44, 3) := by decide +kernel
theorem dX3_split_79 : decode cX3_split 79 = .ok (.iconst 1, 1) := by decide +kernel
theorem dX3_split_80 : decode cX3_split 80 = .ok (.istore 4, 2) := by decide +kernel
theorem dX3_split_82 : decode cX3_split 82 = .ok (.aload_n 1, 1) := by decide +kernel
theorem dX3_split_83 : decode cX3_split 83 = .ok (.iload 5, 2) := by decide +kernel
theorem dX3_split_85 : decode cX3_split 85 = .ok (.iload_n 2, 1) := by decide +kernel
theorem dX3_split_86 : decode cX3_split 86 = .ok (.lload 6, 2) := by decide +kernel
theorem dX3_split_88 : decode cX3_split 88 = .ok (.bipush 8, 2) := by decide +kernel
theorem dX3_split_90 : decode cX3_split 90 = .ok (.iload 8, 2) := by decide +kernel
theorem dX3_split_92 : decode cX3_split 92 = .ok (.iconst 1, 1) := by decide +kernel
theorem dX3_split_93 : decode cX3_split 93 = .ok (.iadd, 1) := by decide +kernel
theorem dX3_split_94 : decode cX3_split 94 = .ok (.imul, 1) := by decide +kernel
theorem dX3_split_95 : decode cX3_split 95 = .ok (.lushr, 1) := by decide +kernel
theorem dX3_split_96 : decode cX3_split 96 = .ok (.invokevirtual 117, 3) := by decide +kernel
theorem dX3_split_99 : decode cX3_split 99 = .ok (.aload_n 1, 1) := by decide +kernel
theorem dX3_split_100 : decode cX3_split 100 = .ok (.iload 5, 2) := by decide +kernel
theorem dX3_split_102 : decode cX3_split 102 = .ok (.iload_n 2, 1) := by decide +kernel
theorem dX3_split_103 : decode cX3_split 103 = .ok (.iconst 1, 1) := by decide +kernel
theorem dX3_split_104 : decode cX3_split 104 = .ok (.iadd, 1) := by decide +kernel
theorem dX3_split_105 : decode cX3_split 105 = .ok (.lload 6, 2) := by decide +kernel
theorem dX3_split_107 : decode cX3_split 107 = .ok (.lconst 1, 1) := by decide +kernel
theorem dX3_split_108 : decode cX3_split 108 = .ok (.bipush 8, 2) := by decide +kernel
theorem dX3_split_110 : decode cX3_split 110 = .ok (.iload 8, 2) := by decide +kernel
theorem dX3_split_112 : decode cX3_split 112 = .ok (.imul, 1) := by decide +kernel
theorem dX3_split_113 : decode cX3_split 113 = .ok (.lshl, 1) := by decide +kernel
theorem dX3_split_114 : decode cX3_split 114 = .ok (.lconst 1, 1) := by decide +kernel
theorem dX3_split_115 : decode cX3_split 115 = .ok (.lsub, 1) := by decide +kernel
theorem dX3_split_116 : decode cX3_split 116 = .ok (.land, 1) := by decide +kernel
theorem dX3_split_117 : decode cX3_split 117 = .ok (.invokevirtual 117, 3) := by decide +kernel
theorem dX3_split_120 : decode cX3_split 120 = .ok (.iinc 5 1, 3) := by decide +kernel
theorem dX3_split_123 : decode cX3_split 123 = .ok (.goto (-98), 3) := by decide +kernel
theorem dX3_split_126 : decode cX3_split 126 = .ok (.aload_n 0, 1) := by decide +kernel
theorem dX3_split_127 : decode cX3_split 127 = .ok (.aload_n 1, 1) := by decide +kernel
theorem dX3_split_128 : decode cX3_split 128 = .ok (.iconst 0, 1) := by decide +kernel
theorem dX3_split_129 : decode cX3_split 129 = .ok (.iload_n 2, 1) := by decide +kernel
theorem dX3_split_130 : decode cX3_split 130 = .ok (.iconst 0, 1) := by decide +kernel
theorem dX3_split_131 : decode cX3_split 131 = .ok (.invokestatic 121, 3) := by decide +kernel
theorem dX3_split_134 : decode cX3_split 134 = .ok (.aload_n 0, 1) := by decide +kernel
theorem dX3_split_135 : decode cX3_split 135 = .ok (.aload_n 1, 1) := by decide +kernel
theorem dX3_split_136 : decode cX3_split 136 = .ok (.iload_n 2, 1) := by decide +kernel
theorem dX3_split_137 : decode cX3_split 137 = .ok (.iconst 1, 1) := by decide +kernel
theorem dX3_split_138 : decode cX3_split 138 = .ok (.iadd, 1) := by decide +kernel
theorem dX3_split_139 : decode cX3_split 139 = .ok (.aload_n 0, 1) := by decide +kernel
theorem dX3_split_140 : decode cX3_split 140 = .ok (.getfield 43, 3) := by decide +kernel
theorem dX3_split_143 : decode cX3_split 143 = .ok (.iconst 1, 1) := by decide +kernel
theorem dX3_split_144 : decode cX3_split 144 = .ok (.invokestatic 121, 3) := by decide +kernel
theorem dX3_split_147 : decode cX3_split 147 = .ok (.iload 4, 2) := by decide +kernel
theorem dX3_split_149 : decode cX3_split 149 = .ok (.ireturn, 1) := by decide +kernel
theorem dX3_fill_0 : decode cX3_fill 0 = .ok (.aload_n 1, 1) := by decide +kernel
theorem dX3_fill_1 : decode cX3_fill 1 = .ok (.aload_n 0, 1) := by decide +kernel
theorem dX3_fill_2 : decode cX3_fill 2 = .ok (.invokevirtual 129, 3) := by decide +kernel
theorem dX3_fill_5 : decode cX3_fill 5 = .ok (.iconst 0, 1) := by decide +kernel
theorem dX3_fill_6 : decode cX3_fill 6 = .ok (.istore_n 3, 1) := by decide +kernel
theorem dX3_fill_7 : decode cX3_fill 7 = .ok (.iconst 1, 1) := by decide +kernel
theorem dX3_fill_8 : decode cX3_fill 8 = .ok (.istore 4, 2) := by decide +kernel
theorem dX3_fill_10 : decode cX3_fill 10 = .ok (.iload 4, 2) := by decide +kernel
theorem dX3_fill_12 : decode cX3_fill 12 = .ok (.aload_n 0, 1) := by decide +kernel
theorem dX3_fill_13 : decode cX3_fill 13 = .ok (.getfield 106, 3) := by decide +kernel
theorem dX3_fill_16 : decode cX3_fill 16 = .ok (.if_icmp .ge 50, 3) := by decide +kernel
theorem dX3_fill_19 : decode cX3_fill 19 = .ok (.aload_n 1, 1) := by decide +kernel
theorem dX3_fill_20 : decode cX3_fill 20 = .ok (.iload 4, 2) := by decide +kernel
theorem dX3_fill_22 : decode cX3_fill 22 = .ok (.iconst 1, 1) := by decide +kernel
theorem dX3_fill_23 : decode cX3_fill 23 = .ok (.isub, 1) := by decide +kernel
theorem dX3_fill_24 : decode cX3_fill 24 = .ok (.iload_n 2, 1) := by decide +kernel
theorem dX3_fill_25 : decode cX3_fill 25 = .ok (.invokevirtual 113, 3) := by decide +kernel
theorem dX3_fill_28 : decode cX3_fill 28 = .ok (.lstore 5, 2) := by decide +kernel
theorem dX3_fill_30 : decode cX3_fill 30 = .ok (.aload_n 1, 1) := by decide +kernel
theorem dX3_fill_31 : decode cX3_fill 31 = .ok (.iload 4, 2) := by decide +kernel
theorem dX3_fill_33 : decode cX3_fill 33 = .ok (.iload_n 2, 1) := by decide +kernel
theorem dX3_fill_34 : decode cX3_fill 34 = .ok (.invokevirtual 113, 3) := by decide +kernel
theorem dX3_fill_37 : decode cX3_fill 37 = .ok (.lconst 0, 1) := by decide +kernel
theorem dX3_fill_38 : decode cX3_fill 38 = .ok (.lcmp, 1) := by decide +kernel
theorem dX3_fill_39 : decode cX3_fill 39 = .ok (.ifCond .ne 21, 3) := by decide +kernel
theorem dX3_fill_42 : decode cX3_fill 42 = .ok (.lload 5, 2) := by decide +kernel
theorem dX3_fill_44 : decode cX3_fill 44 = .ok (.lconst 0, 1) := by decide +kernel
theorem dX3_fill_45 : decode cX3_fill 45 = .ok (.lcmp, 1) := by decide +kernel
theorem dX3_fill_46 : decode cX3_fill 46 = .ok (.ifCond .eq 14, 3) := by decide +kernel
theorem dX3_fill_49 : decode cX3_fill 49 = .ok (.aload_n 1, 1) := by decide +kernel
theorem dX3_fill_50 : decode cX3_fill 50 = .ok (.iload 4, 2) := by decide +kernel
theorem dX3_fill_52 : decode cX3_fill 52 = .ok (.iload_n 2, 1) := by decide +kernel
theorem dX3_fill_53 : decode cX3_fill 53 = .ok (.lload 5, 2) := by decide +kernel
theorem dX3_fill_55 : decode cX3_fill 55 = .ok (.invokevirtual 117, 3) := by decide +kernel
theorem dX3_fill_58 : decode cX3_fill 58 = .ok (.iconst 1, 1) := by decide +kernel
theorem dX3_fill_59 : decode cX3_fill 59 = .ok (.istore_n 3, 1) := by decide +kernel
theorem dX3_fill_60 : decode cX3_fill 60 = .ok (.iinc 4 1, 3) := by decide +kernel
theorem dX3_fill_63 : decode cX3_fill 63 = .ok (.goto (-53), 3) := by decide +kernel
theorem dX3_fill_66 : decode cX3_fill 66 = .ok (.iload_n 3, 1) := by decide +kernel
theorem dX3_fill_67 : decode cX3_fill 67 = .ok (.ireturn, 1) := by decide +kernel
theorem dX3_join_0 : decode cX3_join 0 = .ok (.aload_n 1, 1) := by decide +kernel
theorem dX3_join_1 : decode cX3_join 1 = .ok (.aload_n 0, 1) := by decide +kernel
theorem dX3_join_2 : decode cX3_join 2 = .ok (.getfield 106, 3) := by decide +kernel
theorem dX3_join_5 : decode cX3_join 5 = .ok (.aload_n 0, 1) := by decide +kernel
theorem dX3_join_6 : decode cX3_join 6 = .ok (.getfield 43, 3) := by decide +kernel
theorem dX3_join_9 : decode cX3_join 9 = .ok (.iconst 1, 1) := by decide +kernel
theorem dX3_join_10 : decode cX3_join 10 = .ok (.isub, 1) := by decide +kernel
theorem dX3_join_11 : decode cX3_join 11 = .ok (.invokevirtual 109, 3) := by decide +kernel
theorem dX3_join_14 : decode cX3_join 14 = .ok (.ifCond .ne 5, 3) := by decide +kernel
theorem dX3_join_17 : decode cX3_join 17 = .ok (.iconst 0, 1) := by decide +kernel
theorem dX3_join_18 : decode cX3_join 18 = .ok (.ireturn, 1) := by decide +kernel
theorem dX3_join_19 : decode cX3_join 19 = .ok (.iconst 0, 1) := by decide +kernel
theorem dX3_join_20 : decode cX3_join 20 = .ok (.istore 4, 2) := by decide +kernel
theorem dX3_join_22 : decode cX3_join 22 = .ok (.iload 4, 2) := by decide +kernel
theorem dX3_join_24 : decode cX3_join 24 = .ok (.aload_n 0, 1) := by decide +kernel
theorem dX3_join_25 : decode cX3_join 25 = .ok (.getfield 106, 3) := by decide +kernel
theorem dX3_join_28 : decode cX3_join 28 = .ok (.if_icmp .ge 80, 3) := by decide +kernel
theorem dX3_join_31 : decode cX3_join 31 = .ok (.aload_n 0, 1) := by decide +kernel
theorem dX3_join_32 : decode cX3_join 32 = .ok (.iload 4, 2) := by decide +kernel
theorem dX3_join_34 : decode cX3_join 34 = .ok (.iload_n 2, 1) := by decide +kernel
theorem dX3_join_35 : decode cX3_join 35 = .ok (.invokevirtual 113, 3) := by decide +kernel
theorem dX3_join_38 : decode cX3_join 38 = .ok (.lstore 5, 2) := by decide +kernel
theorem dX3_join_40 : decode cX3_join 40 = .ok (.aload_n 0, 1) := by decide +kernel
theorem dX3_join_41 : decode cX3_join 41 = .ok (.iload 4, 2) := by decide +kernel
theorem dX3_join_43 : decode cX3_join 43 = .ok (.iload_n 2, 1) := by decide +kernel
theorem dX3_join_44 : decode cX3_join 44 = .ok (.iconst 1, 1) := by decide +kernel
theorem dX3_join_45 : decode cX3_join 45 = .ok (.iadd, 1) := by decide +kernel
theorem dX3_join_46 : decode cX3_join 46 = .ok (.invokevirtual 113, 3) := by decide +kernel
theorem dX3_join_49 : decode cX3_join 49 = .ok (.lstore 7, 2) := by decide +kernel
theorem dX3_join_51 : decode cX3_join 51 = .ok (.lload 7, 2) := by decide +kernel
theorem dX3_join_53 : decode cX3_join 53 = .ok (.invokestatic 133, 3) := by decide +kernel
theorem dX3_join_56 : decode cX3_join 56 = .ok (.istore 9, 2) := by decide +kernel
theorem dX3_join_58 : decode cX3_join 58 = .ok (.lload 5, 2) := by decide +kernel
theorem dX3_join_60 : decode cX3_join 60 = .ok (.invokestatic 133, 3) := by decide +kernel
theorem dX3_join_63 : decode cX3_join 63 = .ok (.iconst 1, 1) := by decide +kernel
theorem dX3_join_64 : decode cX3_join 64 = .ok (.iadd, 1) := by decide +kernel
theorem dX3_join_65 : decode cX3_join 65 = .ok (.iload 9, 2) := by decide +kernel
theorem dX3_join_67 : decode cX3_join 67 = .ok (.iadd, 1) := by decide +kernel
theorem dX3_join_68 : decode cX3_join 68 = .ok (.bipush 7, 2) := by decide +kernel
theorem dX3_join_70 : decode cX3_join 70 = .ok (.if_icmp .le 5, 3) := by decide +kernel
theorem dX3_join_73 : decode cX3_join 73 = .ok (.iconst 0, 1) := by decide +kernel
theorem dX3_join_74 : decode cX3_join 74 = .ok (.ireturn, 1) := by decide +kernel
theorem dX3_join_75 : decode cX3_join 75 = .ok (.aload_n 1, 1) := by decide +kernel
theorem dX3_join_76 : decode cX3_join 76 = .ok (.iload 4, 2) := by decide +kernel
theorem dX3_join_78 : decode cX3_join 78 = .ok (.iload_n 2, 1) := by decide +kernel
theorem dX3_join_79 : decode cX3_join 79 = .ok (.lload 5, 2) := by decide +kernel
theorem dX3_join_81 : decode cX3_join 81 = .ok (.bipush 8, 2) := by decide +kernel
theorem dX3_join_83 : decode cX3_join 83 = .ok (.lshl, 1) := by decide +kernel
theorem dX3_join_84 : decode cX3_join 84 = .ok (.iload_n 3, 1) := by decide +kernel
theorem dX3_join_85 : decode cX3_join 85 = .ok (.invokestatic 137, 3) := by decide +kernel
theorem dX3_join_88 : decode cX3_join 88 = .ok (.i2l, 1) := by decide +kernel
theorem dX3_join_89 : decode cX3_join 89 = .ok (.lor, 1) := by decide +kernel
theorem dX3_join_90 : decode cX3_join 90 = .ok (.bipush 8, 2) := by decide +kernel
theorem dX3_join_92 : decode cX3_join 92 = .ok (.iload 9, 2) := by decide +kernel
theorem dX3_join_94 : decode cX3_join 94 = .ok (.imul, 1) := by decide +kernel
theorem dX3_join_95 : decode cX3_join 95 = .ok (.lshl, 1) := by decide +kernel
theorem dX3_join_96 : decode cX3_join 96 = .ok (.lload 7, 2) := by decide +kernel
theorem dX3_join_98 : decode cX3_join 98 = .ok (.lor, 1) := by decide +kernel
theorem dX3_join_99 : decode cX3_join 99 = .ok (.invokevirtual 117, 3) := by decide +kernel
theorem dX3_join_102 : decode cX3_join 102 = .ok (.iinc 4 1, 3) := by decide +kernel
theorem dX3_join_105 : decode cX3_join 105 = .ok (.goto (-83), 3) := by decide +kernel
theorem dX3_join_108 : decode cX3_join 108 = .ok (.aload_n 0, 1) := by decide +kernel
theorem dX3_join_109 : decode cX3_join 109 = .ok (.aload_n 1, 1) := by decide +kernel
theorem dX3_join_110 : decode cX3_join 110 = .ok (.iconst 0, 1) := by decide +kernel
theorem dX3_join_111 : decode cX3_join 111 = .ok (.iload_n 2, 1) := by decide +kernel
theorem dX3_join_112 : decode cX3_join 112 = .ok (.iconst 0, 1) := by decide +kernel
theorem dX3_join_113 : decode cX3_join 113 = .ok (.invokestatic 121, 3) := by decide +kernel
theorem dX3_join_116 : decode cX3_join 116 = .ok (.aload_n 0, 1) := by decide +kernel
theorem dX3_join_117 : decode cX3_join 117 = .ok (.aload_n 1, 1) := by decide +kernel
theorem dX3_join_118 : decode cX3_join 118 = .ok (.iload_n 2, 1) := by decide +kernel
theorem dX3_join_119 : decode cX3_join 119 = .ok (.iconst 2, 1) := by decide +kernel
theorem dX3_join_120 : decode cX3_join 120 = .ok (.iadd, 1) := by decide +kernel
theorem dX3_join_121 : decode cX3_join 121 = .ok (.aload_n 0, 1) := by decide +kernel
theorem dX3_join_122 : decode cX3_join 122 = .ok (.getfield 43, 3) := by decide +kernel
theorem dX3_join_125 : decode cX3_join 125 = .ok (.iconst (-1), 1) := by decide +kernel
theorem dX3_join_126 : decode cX3_join 126 = .ok (.invokestatic 121, 3) := by decide +kernel
theorem dX3_join_129 : decode cX3_join 129 = .ok (.iconst 1, 1) := by decide +kernel
theorem dX3_join_130 : decode cX3_join 130 = .ok (.ireturn, 1) := by decide +kernel
theorem dX3_fold_0 : decode cX3_fold 0 = .ok (.aload_n 1, 1) := by decide +kernel
theorem dX3_fold_1 : decode cX3_fold 1 = .ok (.aload_n 0, 1) := by decide +kernel
theorem dX3_fold_2 : decode cX3_fold 2 = .ok (.getfield 106, 3) := by decide +kernel
theorem dX3_fold_5 : decode cX3_fold 5 = .ok (.iconst 1, 1) := by decide +kernel
theorem dX3_fold_6 : decode cX3_fold 6 = .ok (.isub, 1) := by decide +kernel
theorem dX3_fold_7 : decode cX3_fold 7 = .ok (.aload_n 0, 1) := by decide +kernel
theorem dX3_fold_8 : decode cX3_fold 8 = .ok (.getfield 43, 3) := by decide +kernel
theorem dX3_fold_11 : decode cX3_fold 11 = .ok (.iload_n 2, 1) := by decide +kernel
theorem dX3_fold_12 : decode cX3_fold 12 = .ok (.isub, 1) := by decide +kernel
theorem dX3_fold_13 : decode cX3_fold 13 = .ok (.imul, 1) := by decide +kernel
theorem dX3_fold_14 : decode cX3_fold 14 = .ok (.iload_n 2, 1) := by decide +kernel
theorem dX3_fold_15 : decode cX3_fold 15 = .ok (.iconst 2, 1) := by decide +kernel
theorem dX3_fold_16 : decode cX3_fold 16 = .ok (.iadd, 1) := by decide +kernel
theorem dX3_fold_17 : decode cX3_fold 17 = .ok (.invokevirtual 109, 3) := by decide +kernel
theorem dX3_fold_20 : decode cX3_fold 20 = .ok (.ifCond .ne 5, 3) := by decide +kernel
theorem dX3_fold_23 : decode cX3_fold 23 = .ok (.iconst 0, 1) := by decide +kernel
theorem dX3_fold_24 : decode cX3_fold 24 = .ok (.ireturn, 1) := by decide +kernel
theorem dX3_fold_25 : decode cX3_fold 25 = .ok (.iconst 0, 1) := by decide +kernel
theorem dX3_fold_26 : decode cX3_fold 26 = .ok (.istore_n 3, 1) := by decide +kernel
theorem dX3_fold_27 : decode cX3_fold 27 = .ok (.iconst 1, 1) := by decide +kernel
theorem dX3_fold_28 : decode cX3_fold 28 = .ok (.istore 4, 2) := by decide +kernel
theorem dX3_fold_30 : decode cX3_fold 30 = .ok (.iload 4, 2) := by decide +kernel
theorem dX3_fold_32 : decode cX3_fold 32 = .ok (.aload_n 0, 1) := by decide +kernel
theorem dX3_fold_33 : decode cX3_fold 33 = .ok (.getfield 106, 3) := by decide +kernel
theorem dX3_fold_36 : decode cX3_fold 36 = .ok (.if_icmp .ge 68, 3) := by decide +kernel
theorem dX3_fold_39 : decode cX3_fold 39 = .ok (.iload_n 2, 1) := by decide +kernel
theorem dX3_fold_40 : decode cX3_fold 40 = .ok (.istore 5, 2) := by decide +kernel
theorem dX3_fold_42 : decode cX3_fold 42 = .ok (.iload 5, 2) := by decide +kernel
theorem dX3_fold_44 : decode cX3_fold 44 = .ok (.aload_n 0, 1) := by decide +kernel
theorem dX3_fold_45 : decode cX3_fold 45 = .ok (.getfield 43, 3) := by decide +kernel
theorem dX3_fold_48 : decode cX3_fold 48 = .ok (.if_icmp .ge 50, 3) := by decide +kernel
theorem dX3_fold_51 : decode cX3_fold 51 = .ok (.aload_n 1, 1) := by decide +kernel
theorem dX3_fold_52 : decode cX3_fold 52 = .ok (.iload_n 3, 1) := by decide +kernel
theorem dX3_fold_53 : decode cX3_fold 53 = .ok (.aload_n 0, 1) := by decide +kernel
theorem dX3_fold_54 : decode cX3_fold 54 = .ok (.iload 4, 2) := by decide +kernel
theorem dX3_fold_56 : decode cX3_fold 56 = .ok (.iload_n 2, 1) := by decide +kernel
theorem dX3_fold_57 : decode cX3_fold 57 = .ok (.invokevirtual 140, 3) := by decide +kernel
theorem dX3_fold_60 : decode cX3_fold 60 = .ok (.aload_n 1, 1) := by decide +kernel
theorem dX3_fold_61 : decode cX3_fold 61 = .ok (.iload_n 3, 1) := by decide +kernel
theorem dX3_fold_62 : decode cX3_fold 62 = .ok (.iload_n 2, 1) := by decide +kernel
theorem dX3_fold_63 : decode cX3_fold 63 = .ok (.aload_n 0, 1) := by decide +kernel
theorem dX3_fold_64 : decode cX3_fold 64 = .ok (.iconst 0, 1) := by decide +kernel
theorem dX3_fold_65 : decode cX3_fold 65 = .ok (.iload 5, 2) := by decide +kernel
theorem dX3_fold_67 : decode cX3_fold 67 = .ok (.invokevirtual 113, 3) := by decide +kernel
theorem dX3_fold_70 : decode cX3_fold 70 = .ok (.invokevirtual 117, 3) := by decide +kernel
theorem dX3_fold_73 : decode cX3_fold 73 = .ok (.aload_n 1, 1) := by decide +kernel
theorem dX3_fold_74 : decode cX3_fold 74 = .ok (.iload_n 3, 1) := by decide +kernel
theorem dX3_fold_75 : decode cX3_fold 75 = .ok (.iload_n 2, 1) := by decide +kernel
theorem dX3_fold_76 : decode cX3_fold 76 = .ok (.iconst 1, 1) := by decide +kernel
theorem dX3_fold_77 : decode cX3_fold 77 = .ok (.iadd, 1) := by decide +kernel
theorem dX3_fold_78 : decode cX3_fold 78 = .ok (.aload_n 0, 1) := by decide +kernel
theorem dX3_fold_79 : decode cX3_fold 79 = .ok (.iload 4, 2) := by decide +kernel
theorem dX3_fold_81 : decode cX3_fold 81 = .ok (.iload 5, 2) := by decide +kernel
theorem dX3_fold_83 : decode cX3_fold 83 = .ok (.invokevirtual 113, 3) := by decide +kernel
theorem dX3_fold_86 : decode cX3_fold 86 = .ok (.invokevirtual 117, 3) := by decide +kernel
theorem dX3_fold_89 : decode cX3_fold 89 = .ok (.iinc 3 1, 3) := by decide +kernel
theorem dX3_fold_92 : decode cX3_fold 92 = .ok (.iinc 5 1, 3) := by decide +kernel
theorem dX3_fold_95 : decode cX3_fold 95 = .ok (.goto (-53), 3) := by decide +kernel
theorem dX3_fold_98 : decode cX3_fold 98 = .ok (.iinc 4 1, 3) := by decide +kernel
theorem dX3_fold_101 : decode cX3_fold 101 = .ok (.goto (-71), 3) := by decide +kernel
theorem dX3_fold_104 : decode cX3_fold 104 = .ok (.iconst 1, 1) := by decide +kernel
theorem dX3_fold_105 : decode cX3_fold 105 = .ok (.ireturn, 1) := by decide +kernel
theorem dX3_unfold_0 : decode cX3_unfold 0 = .ok (.aload_n 1, 1) := by decide +kernel
theorem dX3_unfold_1 : decode cX3_unfold 1 = .ok (.getfield 43, 3) := by decide +kernel
theorem dX3_unfold_4 : decode cX3_unfold 4 = .ok (.iconst 2, 1) := by decide +kernel
theorem dX3_unfold_5 : decode cX3_unfold 5 = .ok (.isub, 1) := by decide +kernel
theorem dX3_unfold_6 : decode cX3_unfold 6 = .ok (.istore_n 3, 1) := by decide +kernel
theorem dX3_unfold_7 : decode cX3_unfold 7 = .ok (.iload_n 3, 1) := by decide +kernel
theorem dX3_unfold_8 : decode cX3_unfold 8 = .ok (.iconst 1, 1) := by decide +kernel
theorem dX3_unfold_9 : decode cX3_unfold 9 = .ok (.if_icmp .ge 5, 3) := by decide +kernel
theorem dX3_unfold_12 : decode cX3_unfold 12 = .ok (.iconst 0, 1) := by decide +kernel
theorem dX3_unfold_13 : decode cX3_unfold 13 = .ok (.ireturn, 1) := by decide +kernel
theorem dX3_unfold_14 : decode cX3_unfold 14 = .ok (.aload_n 1, 1) := by decide +kernel
theorem dX3_unfold_15 : decode cX3_unfold 15 = .ok (.iconst 0, 1) := by decide +kernel
theorem dX3_unfold_16 : decode cX3_unfold 16 = .ok (.iload_n 3, 1) := by decide +kernel
theorem dX3_unfold_17 : decode cX3_unfold 17 = .ok (.aload_n 0, 1) := by decide +kernel
theorem dX3_unfold_18 : decode cX3_unfold 18 = .ok (.getfield 11, 3) := by decide +kernel
theorem dX3_unfold_21 : decode cX3_unfold 21 = .ok (.aload_n 0, 1) := by decide +kernel
theorem dX3_unfold_22 : decode cX3_unfold 22 = .ok (.getfield 17, 3) := by decide +kernel
theorem dX3_unfold_25 : decode cX3_unfold 25 = .ok (.invokestatic 144, 3) := by decide +kernel
theorem dX3_unfold_28 : decode cX3_unfold 28 = .ok (.istore 4, 2) := by decide +kernel
theorem dX3_unfold_30 : decode cX3_unfold 30 = .ok (.aload_n 1, 1) := by decide +kernel
theorem dX3_unfold_31 : decode cX3_unfold 31 = .ok (.iload_n 3, 1) := by decide +kernel
theorem dX3_unfold_32 : decode cX3_unfold 32 = .ok (.iload_n 3, 1) := by decide +kernel
theorem dX3_unfold_33 : decode cX3_unfold 33 = .ok (.iconst 1, 1) := by decide +kernel
theorem dX3_unfold_34 : decode cX3_unfold 34 = .ok (.iadd, 1) := by decide +kernel
theorem dX3_unfold_35 : decode cX3_unfold 35 = .ok (.aload_n 0, 1) := by decide +kernel
theorem dX3_unfold_36 : decode cX3_unfold 36 = .ok (.getfield 20, 3) := by decide +kernel
theorem dX3_unfold_39 : decode cX3_unfold 39 = .ok (.aload_n 0, 1) := by decide +kernel
theorem dX3_unfold_40 : decode cX3_unfold 40 = .ok (.getfield 23, 3) := by decide +kernel
theorem dX3_unfold_43 : decode cX3_unfold 43 = .ok (.invokestatic 144, 3) := by decide +kernel
theorem dX3_unfold_46 : decode cX3_unfold 46 = .ok (.istore 5, 2) := by decide +kernel
theorem dX3_unfold_48 : decode cX3_unfold 48 = .ok (.aload_n 0, 1) := by decide +kernel
theorem dX3_unfold_49 : decode cX3_unfold 49 = .ok (.aload_n 1, 1) := by decide +kernel
theorem dX3_unfold_50 : decode cX3_unfold 50 = .ok (.getfield 106, 3) := by decide +kernel
theorem dX3_unfold_53 : decode cX3_unfold 53 = .ok (.invokevirtual 148, 3) := by decide +kernel
theorem dX3_unfold_56 : decode cX3_unfold 56 = .ok (.ifCond .ne 18, 3) := by decide +kernel
theorem dX3_unfold_59 : decode cX3_unfold 59 = .ok (.aload_n 2, 1) := by decide +kernel
theorem dX3_unfold_60 : decode cX3_unfold 60 = .ok (.iconst 1, 1) := by decide +kernel
theorem dX3_unfold_61 : decode cX3_unfold 61 = .ok (.iload 4, 2) := by decide +kernel
theorem dX3_unfold_63 : decode cX3_unfold 63 = .ok (.iadd, 1) := by decide +kernel
theorem dX3_unfold_64 : decode cX3_unfold 64 = .ok (.iload_n 3, 1) := by decide +kernel
theorem dX3_unfold_65 : decode cX3_unfold 65 = .ok (.iload 5, 2) := by decide +kernel
theorem dX3_unfold_67 : decode cX3_unfold 67 = .ok (.iadd, 1) := by decide +kernel
theorem dX3_unfold_68 : decode cX3_unfold 68 = .ok (.invokevirtual 109, 3) := by decide +kernel
theorem dX3_unfold_71 : decode cX3_unfold 71 = .ok (.ifCond .ne 5, 3) := by decide +kernel
theorem dX3_unfold_74 : decode cX3_unfold 74 = .ok (.iconst 0, 1) := by decide +kernel
theorem dX3_unfold_75 : decode cX3_unfold 75 = .ok (.ireturn, 1) := by decide +kernel
theorem dX3_unfold_76 : decode cX3_unfold 76 = .ok (.aload_n 2, 1) := by decide +kernel
theorem dX3_unfold_77 : decode cX3_unfold 77 = .ok (.getfield 152, 3) := by decide +kernel
theorem dX3_unfold_80 : decode cX3_unfold 80 = .ok (.lconst 0, 1) := by decide +kernel
theorem dX3_unfold_81 : decode cX3_unfold 81 = .ok (.invokestatic 156, 3) := by decide +kernel
theorem dX3_unfold_84 : decode cX3_unfold 84 = .ok (.iconst 0, 1) := by decide +kernel
theorem dX3_unfold_85 : decode cX3_unfold 85 = .ok (.istore 6, 2) := by decide +kernel
theorem dX3_unfold_87 : decode cX3_unfold 87 = .ok (.iload 6, 2) := by decide +kernel
theorem dX3_unfold_89 : decode cX3_unfold 89 = .ok (.iload 5, 2) := by decide +kernel
theorem dX3_unfold_91 : decode cX3_unfold 91 = .ok (.if_icmp .ge 30, 3) := by decide +kernel
theorem dX3_unfold_94 : decode cX3_unfold 94 = .ok (.aload_n 2, 1) := by decide +kernel
theorem dX3_unfold_95 : decode cX3_unfold 95 = .ok (.iconst 0, 1) := by decide +kernel
theorem dX3_unfold_96 : decode cX3_unfold 96 = .ok (.iload_n 3, 1) := by decide +kernel
theorem dX3_unfold_97 : decode cX3_unfold 97 = .ok (.iload 6, 2) := by decide +kernel
theorem dX3_unfold_99 : decode cX3_unfold 99 = .ok (.iadd, 1) := by decide +kernel
theorem dX3_unfold_100 : decode cX3_unfold 100 = .ok (.aload_n 1, 1) := by decide +kernel
theorem dX3_unfold_101 : decode cX3_unfold 101 = .ok (.aload_n 0, 1) := by decide +kernel
theorem dX3_unfold_102 : decode cX3_unfold 102 = .ok (.getfield 23, 3) := by decide +kernel
theorem dX3_unfold_105 : decode cX3_unfold 105 = .ok (.iload 6, 2) := by decide +kernel
theorem dX3_unfold_107 : decode cX3_unfold 107 = .ok (.iaload, 1) := by decide +kernel
theorem dX3_unfold_108 : decode cX3_unfold 108 = .ok (.iload_n 3, 1) := by decide +kernel
theorem dX3_unfold_109 : decode cX3_unfold 109 = .ok (.invokevirtual 113, 3) := by decide +kernel
theorem dX3_unfold_112 : decode cX3_unfold 112 = .ok (.invokevirtual 117, 3) := by decide +kernel
theorem dX3_unfold_115 : decode cX3_unfold 115 = .ok (.iinc 6 1, 3) := by decide +kernel
theorem dX3_unfold_118 : decode cX3_unfold 118 = .ok (.goto (-31), 3) := by decide +kernel
theorem dX3_unfold_121 : decode cX3_unfold 121 = .ok (.iconst 0, 1) := by decide +kernel
theorem dX3_unfold_122 : decode cX3_unfold 122 = .ok (.istore 6, 2) := by decide +kernel
theorem dX3_unfold_124 : decode cX3_unfold 124 = .ok (.iload 6, 2) := by decide +kernel
theorem dX3_unfold_126 : decode cX3_unfold 126 = .ok (.iload 4, 2) := by decide +kernel
theorem dX3_unfold_128 : decode cX3_unfold 128 = .ok (.if_icmp .ge 26, 3) := by decide +kernel
theorem dX3_unfold_131 : decode cX3_unfold 131 = .ok (.aload_n 2, 1) := by decide +kernel
theorem dX3_unfold_132 : decode cX3_unfold 132 = .ok (.iconst 1, 1) := by decide +kernel
theorem dX3_unfold_133 : decode cX3_unfold 133 = .ok (.iload 6, 2) := by decide +kernel
theorem dX3_unfold_135 : decode cX3_unfold 135 = .ok (.iadd, 1) := by decide +kernel
theorem dX3_unfold_136 : decode cX3_unfold 136 = .ok (.aload_n 1, 1) := by decide +kernel
theorem dX3_unfold_137 : decode cX3_unfold 137 = .ok (.aload_n 0, 1) := by decide +kernel
theorem dX3_unfold_138 : decode cX3_unfold 138 = .ok (.getfield 17, 3) := by decide +kernel
theorem dX3_unfold_141 : decode cX3_unfold 141 = .ok (.iload 6, 2) := by decide +kernel
theorem dX3_unfold_143 : decode cX3_unfold 143 = .ok (.iaload, 1) := by decide +kernel
theorem dX3_unfold_144 : decode cX3_unfold 144 = .ok (.iload_n 3, 1) := by decide +kernel
theorem dX3_unfold_145 : decode cX3_unfold 145 = .ok (.invokevirtual 140, 3) := by decide +kernel
theorem dX3_unfold_148 : decode cX3_unfold 148 = .ok (.iinc 6 1, 3) := by decide +kernel
theorem dX3_unfold_151 : decode cX3_unfold 151 = .ok (.goto (-27), 3) := by decide +kernel
theorem dX3_unfold_154 : decode cX3_unfold 154 = .ok (.iconst 0, 1) := by decide +kernel
theorem dX3_unfold_155 : decode cX3_unfold 155 = .ok (.istore 6, 2) := by decide +kernel
theorem dX3_unfold_157 : decode cX3_unfold 157 = .ok (.iload 6, 2) := by decide +kernel
theorem dX3_unfold_159 : decode cX3_unfold 159 = .ok (.aload_n 1, 1) := by decide +kernel
theorem dX3_unfold_160 : decode cX3_unfold 160 = .ok (.getfield 106, 3) := by decide +kernel
theorem dX3_unfold_163 : decode cX3_unfold 163 = .ok (.if_icmp .ge 40, 3) := by decide +kernel
theorem dX3_unfold_166 : decode cX3_unfold 166 = .ok (.aload_n 2, 1) := by decide +kernel
theorem dX3_unfold_167 : decode cX3_unfold 167 = .ok (.iconst 1, 1) := by decide +kernel
theorem dX3_unfold_168 : decode cX3_unfold 168 = .ok (.aload_n 0, 1) := by decide +kernel
theorem dX3_unfold_169 : decode cX3_unfold 169 = .ok (.getfield 11, 3) := by decide +kernel
theorem dX3_unfold_172 : decode cX3_unfold 172 = .ok (.iload 6, 2) := by decide +kernel
theorem dX3_unfold_174 : decode cX3_unfold 174 = .ok (.iaload, 1) := by decide +kernel
theorem dX3_unfold_175 : decode cX3_unfold 175 = .ok (.iadd, 1) := by decide +kernel
theorem dX3_unfold_176 : decode cX3_unfold 176 = .ok (.iload_n 3, 1) := by decide +kernel
theorem dX3_unfold_177 : decode cX3_unfold 177 = .ok (.aload_n 0, 1) := by decide +kernel
theorem dX3_unfold_178 : decode cX3_unfold 178 = .ok (.getfield 20, 3) := by decide +kernel
theorem dX3_unfold_181 : decode cX3_unfold 181 = .ok (.iload 6, 2) := by decide +kernel
theorem dX3_unfold_183 : decode cX3_unfold 183 = .ok (.iaload, 1) := by decide +kernel
theorem dX3_unfold_184 : decode cX3_unfold 184 = .ok (.iadd, 1) := by decide +kernel
theorem dX3_unfold_185 : decode cX3_unfold 185 = .ok (.aload_n 1, 1) := by decide +kernel
theorem dX3_unfold_186 : decode cX3_unfold 186 = .ok (.iload 6, 2) := by decide +kernel
theorem dX3_unfold_188 : decode cX3_unfold 188 = .ok (.iload_n 3, 1) := by decide +kernel
theorem dX3_unfold_189 : decode cX3_unfold 189 = .ok (.iconst 1, 1) := by decide +kernel
theorem dX3_unfold_190 : decode cX3_unfold 190 = .ok (.iadd, 1) := by decide +kernel
theorem dX3_unfold_191 : decode cX3_unfold 191 = .ok (.invokevirtual 113, 3) := by decide +kernel
theorem dX3_unfold_194 : decode cX3_unfold 194 = .ok (.invokevirtual 117, 3) := by decide +kernel
theorem dX3_unfold_197 : decode cX3_unfold 197 = .ok (.iinc 6 1, 3) := by decide +kernel
theorem dX3_unfold_200 : decode cX3_unfold 200 = .ok (.goto (-43), 3) := by decide +kernel
theorem dX3_unfold_203 : decode cX3_unfold 203 = .ok (.iconst 1, 1) := by decide +kernel
theorem dX3_unfold_204 : decode cX3_unfold 204 = .ok (.ireturn, 1) := by decide +kernel
theorem dX3_hasNameTwice_0 : decode cX3_hasNameTwice 0 = .ok (.iconst 1, 1) := by decide +kernel
theorem dX3_hasNameTwice_1 : decode cX3_hasNameTwice 1 = .ok (.istore_n 2, 1) := by decide +kernel
theorem dX3_hasNameTwice_2 : decode cX3_hasNameTwice 2 = .ok (.iload_n 2, 1) := by decide +kernel
theorem dX3_hasNameTwice_3 : decode cX3_hasNameTwice 3 = .ok (.iload_n 1, 1) := by decide +kernel
theorem dX3_hasNameTwice_4 : decode cX3_hasNameTwice 4 = .ok (.if_icmp .ge 54, 3) := by decide +kernel
theorem dX3_hasNameTwice_7 : decode cX3_hasNameTwice 7 = .ok (.iconst 0, 1) := by decide +kernel
theorem dX3_hasNameTwice_8 : decode cX3_hasNameTwice 8 = .ok (.istore_n 3, 1) := by decide +kernel
theorem dX3_hasNameTwice_9 : decode cX3_hasNameTwice 9 = .ok (.iload_n 3, 1) := by decide +kernel
theorem dX3_hasNameTwice_10 : decode cX3_hasNameTwice 10 = .ok (.iload_n 2, 1) := by decide +kernel
theorem dX3_hasNameTwice_11 : decode cX3_hasNameTwice 11 = .ok (.if_icmp .ge 41, 3) := by decide +kernel
theorem dX3_hasNameTwice_14 : decode cX3_hasNameTwice 14 = .ok (.aload_n 0, 1) := by decide +kernel
theorem dX3_hasNameTwice_15 : decode cX3_hasNameTwice 15 = .ok (.getfield 11, 3) := by decide +kernel
theorem dX3_hasNameTwice_18 : decode cX3_hasNameTwice 18 = .ok (.iload_n 2, 1) := by decide +kernel
theorem dX3_hasNameTwice_19 : decode cX3_hasNameTwice 19 = .ok (.iaload, 1) := by decide +kernel
theorem dX3_hasNameTwice_20 : decode cX3_hasNameTwice 20 = .ok (.aload_n 0, 1) := by decide +kernel
theorem dX3_hasNameTwice_21 : decode cX3_hasNameTwice 21 = .ok (.getfield 11, 3) := by decide +kernel
theorem dX3_hasNameTwice_24 : decode cX3_hasNameTwice 24 = .ok (.iload_n 3, 1) := by decide +kernel
theorem dX3_hasNameTwice_25 : decode cX3_hasNameTwice 25 = .ok (.iaload, 1) := by decide +kernel
theorem dX3_hasNameTwice_26 : decode cX3_hasNameTwice 26 = .ok (.if_icmp .ne 20, 3) := by decide +kernel
theorem dX3_hasNameTwice_29 : decode cX3_hasNameTwice 29 = .ok (.aload_n 0, 1) := by decide +kernel
theorem dX3_hasNameTwice_30 : decode cX3_hasNameTwice 30 = .ok (.getfield 20, 3) := by decide +kernel
theorem dX3_hasNameTwice_33 : decode cX3_hasNameTwice 33 = .ok (.iload_n 2, 1) := by decide +kernel
theorem dX3_hasNameTwice_34 : decode cX3_hasNameTwice 34 = .ok (.iaload, 1) := by decide +kernel
theorem dX3_hasNameTwice_35 : decode cX3_hasNameTwice 35 = .ok (.aload_n 0, 1) := by decide +kernel
theorem dX3_hasNameTwice_36 : decode cX3_hasNameTwice 36 = .ok (.getfield 20, 3) := by decide +kernel
theorem dX3_hasNameTwice_39 : decode cX3_hasNameTwice 39 = .ok (.iload_n 3, 1) := by decide +kernel
theorem dX3_hasNameTwice_40 : decode cX3_hasNameTwice 40 = .ok (.iaload, 1) := by decide +kernel
theorem dX3_hasNameTwice_41 : decode cX3_hasNameTwice 41 = .ok (.if_icmp .ne 5, 3) := by decide +kernel
theorem dX3_hasNameTwice_44 : decode cX3_hasNameTwice 44 = .ok (.iconst 1, 1) := by decide +kernel
theorem dX3_hasNameTwice_45 : decode cX3_hasNameTwice 45 = .ok (.ireturn, 1) := by decide +kernel
theorem dX3_hasNameTwice_46 : decode cX3_hasNameTwice 46 = .ok (.iinc 3 1, 3) := by decide +kernel
theorem dX3_hasNameTwice_49 : decode cX3_hasNameTwice 49 = .ok (.goto (-40), 3) := by decide +kernel
theorem dX3_hasNameTwice_52 : decode cX3_hasNameTwice 52 = .ok (.iinc 2 1, 3) := by decide +kernel
theorem dX3_hasNameTwice_55 : decode cX3_hasNameTwice 55 = .ok (.goto (-53), 3) := by decide +kernel
theorem dX3_hasNameTwice_58 : decode cX3_hasNameTwice 58 = .ok (.iconst 0, 1) := by decide +kernel
theorem dX3_hasNameTwice_59 : decode cX3_hasNameTwice 59 = .ok (.ireturn, 1) := by decide +kernel
theorem dX3_group_0 : decode cX3_group 0 = .ok (.iconst 0, 1) := by decide +kernel
theorem dX3_group_1 : decode cX3_group 1 = .ok (.istore 5, 2) := by decide +kernel
theorem dX3_group_3 : decode cX3_group 3 = .ok (.iconst 0, 1) := by decide +kernel
theorem dX3_group_4 : decode cX3_group 4 = .ok (.istore 6, 2) := by decide +kernel
theorem dX3_group_6 : decode cX3_group 6 = .ok (.iload 6, 2) := by decide +kernel
theorem dX3_group_8 : decode cX3_group 8 = .ok (.aload_n 0, 1) := by decide +kernel
theorem dX3_group_9 : decode cX3_group 9 = .ok (.getfield 106, 3) := by decide +kernel
theorem dX3_group_12 : decode cX3_group 12 = .ok (.if_icmp .ge 67, 3) := by decide +kernel
theorem dX3_group_15 : decode cX3_group 15 = .ok (.iconst 0, 1) := by decide +kernel
theorem dX3_group_16 : decode cX3_group 16 = .ok (.istore 7, 2) := by decide +kernel
theorem dX3_group_18 : decode cX3_group 18 = .ok (.iload 7, 2) := by decide +kernel
theorem dX3_group_20 : decode cX3_group 20 = .ok (.iload 5, 2) := by decide +kernel
theorem dX3_group_22 : decode cX3_group 22 = .ok (.if_icmp .ge 28, 3) := by decide +kernel
theorem dX3_group_25 : decode cX3_group 25 = .ok (.aload_n 0, 1) := by decide +kernel
theorem dX3_group_26 : decode cX3_group 26 = .ok (.iload 6, 2) := by decide +kernel
theorem dX3_group_28 : decode cX3_group 28 = .ok (.aload 4, 2) := by decide +kernel
theorem dX3_group_30 : decode cX3_group 30 = .ok (.iload 7, 2) := by decide +kernel
theorem dX3_group_32 : decode cX3_group 32 = .ok (.iaload, 1) := by decide +kernel
theorem dX3_group_33 : decode cX3_group 33 = .ok (.iload_n 1, 1) := by decide +kernel
theorem dX3_group_34 : decode cX3_group 34 = .ok (.iload_n 2, 1) := by decide +kernel
theorem dX3_group_35 : decode cX3_group 35 = .ok (.invokevirtual 161, 3) := by decide +kernel
theorem dX3_group_38 : decode cX3_group 38 = .ok (.ifCond .eq 6, 3) := by decide +kernel
theorem dX3_group_41 : decode cX3_group 41 = .ok (.goto 9, 3) := by decide +kernel
theorem dX3_group_44 : decode cX3_group 44 = .ok (.iinc 7 1, 3) := by decide +kernel
theorem dX3_group_47 : decode cX3_group 47 = .ok (.goto (-29), 3) := by decide +kernel
theorem dX3_group_50 : decode cX3_group 50 = .ok (.iload 7, 2) := by decide +kernel
theorem dX3_group_52 : decode cX3_group 52 = .ok (.iload 5, 2) := by decide +kernel
theorem dX3_group_54 : decode cX3_group 54 = .ok (.if_icmp .ne 13, 3) := by decide +kernel
theorem dX3_group_57 : decode cX3_group 57 = .ok (.aload 4, 2) := by decide +kernel
theorem dX3_group_59 : decode cX3_group 59 = .ok (.iload 5, 2) := by decide +kernel
theorem dX3_group_61 : decode cX3_group 61 = .ok (.iload 6, 2) := by decide +kernel
theorem dX3_group_63 : decode cX3_group 63 = .ok (.iastore, 1) := by decide +kernel
theorem dX3_group_64 : decode cX3_group 64 = .ok (.iinc 5 1, 3) := by decide +kernel
theorem dX3_group_67 : decode cX3_group 67 = .ok (.aload_n 3, 1) := by decide +kernel
theorem dX3_group_68 : decode cX3_group 68 = .ok (.iload 6, 2) := by decide +kernel
theorem dX3_group_70 : decode cX3_group 70 = .ok (.iload 7, 2) := by decide +kernel
theorem dX3_group_72 : decode cX3_group 72 = .ok (.iastore, 1) := by decide +kernel
theorem dX3_group_73 : decode cX3_group 73 = .ok (.iinc 6 1, 3) := by decide +kernel
theorem dX3_group_76 : decode cX3_group 76 = .ok (.goto (-70), 3) := by decide +kernel
theorem dX3_group_79 : decode cX3_group 79 = .ok (.iload 5, 2) := by decide +kernel
theorem dX3_group_81 : decode cX3_group 81 = .ok (.ireturn, 1) := by decide +kernel
theorem dX3_sort_0 : decode cX3_sort 0 = .ok (.iconst 0, 1) := by decide +kernel
theorem dX3_sort_1 : decode cX3_sort 1 = .ok (.istore 4, 2) := by decide +kernel
theorem dX3_sort_3 : decode cX3_sort 3 = .ok (.iconst 0, 1) := by decide +kernel
theorem dX3_sort_4 : decode cX3_sort 4 = .ok (.istore 5, 2) := by decide +kernel
theorem dX3_sort_6 : decode cX3_sort 6 = .ok (.iload 5, 2) := by decide +kernel
theorem dX3_sort_8 : decode cX3_sort 8 = .ok (.aload_n 1, 1) := by decide +kernel
theorem dX3_sort_9 : decode cX3_sort 9 = .ok (.getfield 106, 3) := by decide +kernel
theorem dX3_sort_12 : decode cX3_sort 12 = .ok (.if_icmp .ge 103, 3) := by decide +kernel
theorem dX3_sort_15 : decode cX3_sort 15 = .ok (.aload_n 1, 1) := by decide +kernel
theorem dX3_sort_16 : decode cX3_sort 16 = .ok (.iload 5, 2) := by decide +kernel
theorem dX3_sort_18 : decode cX3_sort 18 = .ok (.iload_n 3, 1) := by decide +kernel
theorem dX3_sort_19 : decode cX3_sort 19 = .ok (.invokevirtual 113, 3) := by decide +kernel
theorem dX3_sort_22 : decode cX3_sort 22 = .ok (.invokestatic 164, 3) := by decide +kernel
theorem dX3_sort_25 : decode cX3_sort 25 = .ok (.lstore 6, 2) := by decide +kernel
theorem dX3_sort_27 : decode cX3_sort 27 = .ok (.iload 5, 2) := by decide +kernel
theorem dX3_sort_29 : decode cX3_sort 29 = .ok (.istore 8, 2) := by decide +kernel
theorem dX3_sort_31 : decode cX3_sort 31 = .ok (.iload 8, 2) := by decide +kernel
theorem dX3_sort_33 : decode cX3_sort 33 = .ok (.ifCond .le 48, 3) := by decide +kernel
theorem dX3_sort_36 : decode cX3_sort 36 = .ok (.aload_n 1, 1) := by decide +kernel
theorem dX3_sort_37 : decode cX3_sort 37 = .ok (.aload_n 0, 1) := by decide +kernel
theorem dX3_sort_38 : decode cX3_sort 38 = .ok (.getfield 29, 3) := by decide +kernel
theorem dX3_sort_41 : decode cX3_sort 41 = .ok (.iload 8, 2) := by decide +kernel
theorem dX3_sort_43 : decode cX3_sort 43 = .ok (.iconst 1, 1) := by decide +kernel
theorem dX3_sort_44 : decode cX3_sort 44 = .ok (.isub, 1) := by decide +kernel
theorem dX3_sort_45 : decode cX3_sort 45 = .ok (.iaload, 1) := by decide +kernel
theorem dX3_sort_46 : decode cX3_sort 46 = .ok (.iload_n 3, 1) := by decide +kernel
theorem dX3_sort_47 : decode cX3_sort 47 = .ok (.invokevirtual 113, 3) := by decide +kernel
theorem dX3_sort_50 : decode cX3_sort 50 = .ok (.invokestatic 164, 3) := by decide +kernel
theorem dX3_sort_53 : decode cX3_sort 53 = .ok (.lload 6, 2) := by decide +kernel
theorem dX3_sort_55 : decode cX3_sort 55 = .ok (.lcmp, 1) := by decide +kernel
theorem dX3_sort_56 : decode cX3_sort 56 = .ok (.ifCond .le 25, 3) := by decide +kernel
theorem dX3_sort_59 : decode cX3_sort 59 = .ok (.aload_n 0, 1) := by decide +kernel
theorem dX3_sort_60 : decode cX3_sort 60 = .ok (.getfield 29, 3) := by decide +kernel
theorem dX3_sort_63 : decode cX3_sort 63 = .ok (.iload 8, 2) := by decide +kernel
theorem dX3_sort_65 : decode cX3_sort 65 = .ok (.aload_n 0, 1) := by decide +kernel
theorem dX3_sort_66 : decode cX3_sort 66 = .ok (.getfield 29, 3) := by decide +kernel
theorem dX3_sort_69 : decode cX3_sort 69 = .ok (.iload 8, 2) := by decide +kernel
theorem dX3_sort_71 : decode cX3_sort 71 = .ok (.iconst 1, 1) := by decide +kernel
theorem dX3_sort_72 : decode cX3_sort 72 = .ok (.isub, 1) := by decide +kernel
theorem dX3_sort_73 : decode cX3_sort 73 = .ok (.iaload, 1) := by decide +kernel
theorem dX3_sort_74 : decode cX3_sort 74 = .ok (.iastore, 1) := by decide +kernel
theorem dX3_sort_75 : decode cX3_sort 75 = .ok (.iinc 8 (-1), 3) := by decide +kernel
theorem dX3_sort_78 : decode cX3_sort 78 = .ok (.goto (-47), 3) := by decide +kernel
theorem dX3_sort_81 : decode cX3_sort 81 = .ok (.aload_n 0, 1) := by decide +kernel
theorem dX3_sort_82 : decode cX3_sort 82 = .ok (.getfield 29, 3) := by decide +kernel
theorem dX3_sort_85 : decode cX3_sort 85 = .ok (.iload 8, 2) := by decide +kernel
theorem dX3_sort_87 : decode cX3_sort 87 = .ok (.iload 5, 2) := by decide +kernel
theorem dX3_sort_89 : decode cX3_sort 89 = .ok (.iastore, 1) := by decide +kernel
theorem dX3_sort_90 : decode cX3_sort 90 = .ok (.iload 4, 2) := by decide +kernel
theorem dX3_sort_92 : decode cX3_sort 92 = .ok (.ifCond .ne 10, 3) := by decide +kernel
theorem dX3_sort_95 : decode cX3_sort 95 = .ok (.iload 8, 2) := by decide +kernel
theorem dX3_sort_97 : decode cX3_sort 97 = .ok (.iload 5, 2) := by decide +kernel
theorem dX3_sort_99 : decode cX3_sort 99 = .ok (.if_icmp .ge 7, 3) := by decide +kernel
theorem dX3_sort_102 : decode cX3_sort 102 = .ok (.iconst 1, 1) := by decide +kernel
theorem dX3_sort_103 : decode cX3_sort 103 = .ok (.goto 4, 3) := by decide +kernel
theorem dX3_sort_106 : decode cX3_sort 106 = .ok (.iconst 0, 1) := by decide +kernel
theorem dX3_sort_107 : decode cX3_sort 107 = .ok (.istore 4, 2) := by decide +kernel
theorem dX3_sort_109 : decode cX3_sort 109 = .ok (.iinc 5 1, 3) := by decide +kernel
theorem dX3_sort_112 : decode cX3_sort 112 = .ok (.goto (-106), 3) := by decide +kernel
theorem dX3_sort_115 : decode cX3_sort 115 = .ok (.iload 4, 2) := by decide +kernel
theorem dX3_sort_117 : decode cX3_sort 117 = .ok (.ifCond .eq 18, 3) := by decide +kernel
theorem dX3_sort_120 : decode cX3_sort 120 = .ok (.aload_n 2, 1) := by decide +kernel
theorem dX3_sort_121 : decode cX3_sort 121 = .ok (.aload_n 1, 1) := by decide +kernel
theorem dX3_sort_122 : decode cX3_sort 122 = .ok (.getfield 106, 3) := by decide +kernel
theorem dX3_sort_125 : decode cX3_sort 125 = .ok (.aload_n 1, 1) := by decide +kernel
theorem dX3_sort_126 : decode cX3_sort 126 = .ok (.getfield 43, 3) := by decide +kernel
theorem dX3_sort_129 : decode cX3_sort 129 = .ok (.invokevirtual 109, 3) := by decide +kernel
theorem dX3_sort_132 : decode cX3_sort 132 = .ok (.ifCond .ne 5, 3) := by decide +kernel
theorem dX3_sort_135 : decode cX3_sort 135 = .ok (.iconst 0, 1) := by decide +kernel
theorem dX3_sort_136 : decode cX3_sort 136 = .ok (.ireturn, 1) := by decide +kernel
theorem dX3_sort_137 : decode cX3_sort 137 = .ok (.iconst 0, 1) := by decide +kernel
theorem dX3_sort_138 : decode cX3_sort 138 = .ok (.istore 5, 2) := by decide +kernel
theorem dX3_sort_140 : decode cX3_sort 140 = .ok (.iload 5, 2) := by decide +kernel
theorem dX3_sort_142 : decode cX3_sort 142 = .ok (.aload_n 1, 1) := by decide +kernel
theorem dX3_sort_143 : decode cX3_sort 143 = .ok (.getfield 106, 3) := by decide +kernel
theorem dX3_sort_146 : decode cX3_sort 146 = .ok (.if_icmp .ge 27, 3) := by decide +kernel
theorem dX3_sort_149 : decode cX3_sort 149 = .ok (.aload_n 2, 1) := by decide +kernel
theorem dX3_sort_150 : decode cX3_sort 150 = .ok (.iload 5, 2) := by decide +kernel
theorem dX3_sort_152 : decode cX3_sort 152 = .ok (.aload_n 1, 1) := by decide +kernel
theorem dX3_sort_153 : decode cX3_sort 153 = .ok (.aload_n 0, 1) := by decide +kernel
theorem dX3_sort_154 : decode cX3_sort 154 = .ok (.getfield 29, 3) := by decide +kernel
theorem dX3_sort_157 : decode cX3_sort 157 = .ok (.iload 5, 2) := by decide +kernel
theorem dX3_sort_159 : decode cX3_sort 159 = .ok (.iaload, 1) := by decide +kernel
theorem dX3_sort_160 : decode cX3_sort 160 = .ok (.aload_n 1, 1) := by decide +kernel
theorem dX3_sort_161 : decode cX3_sort 161 = .ok (.getfield 43, 3) := by decide +kernel
theorem dX3_sort_164 : decode cX3_sort 164 = .ok (.invokevirtual 140, 3) := by decide +kernel
theorem dX3_sort_167 : decode cX3_sort 167 = .ok (.iinc 5 1, 3) := by decide +kernel
theorem dX3_sort_170 : decode cX3_sort 170 = .ok (.goto (-30), 3) := by decide +kernel
theorem dX3_sort_173 : decode cX3_sort 173 = .ok (.iconst 1, 1) := by decide +kernel
theorem dX3_sort_174 : decode cX3_sort 174 = .ok (.ireturn, 1) := by decide +kernel
theorem dX3_single_0 : decode cX3_single 0 = .ok (.aload_n 1, 1) := by decide +kernel
theorem dX3_single_1 : decode cX3_single 1 = .ok (.iconst 0, 1) := by decide +kernel
theorem dX3_single_2 : decode cX3_single 2 = .ok (.aload_n 1, 1) := by decide +kernel
theorem dX3_single_3 : decode cX3_single 3 = .ok (.getfield 43, 3) := by decide +kernel
theorem dX3_single_6 : decode cX3_single 6 = .ok (.aload_n 0, 1) := by decide +kernel
theorem dX3_single_7 : decode cX3_single 7 = .ok (.getfield 11, 3) := by decide +kernel
theorem dX3_single_10 : decode cX3_single 10 = .ok (.aload_n 0, 1) := by decide +kernel
theorem dX3_single_11 : decode cX3_single 11 = .ok (.getfield 17, 3) := by decide +kernel
theorem dX3_single_14 : decode cX3_single 14 = .ok (.invokestatic 144, 3) := by decide +kernel
theorem dX3_single_17 : decode cX3_single 17 = .ok (.istore_n 3, 1) := by decide +kernel
theorem dX3_single_18 : decode cX3_single 18 = .ok (.iload_n 3, 1) := by decide +kernel
theorem dX3_single_19 : decode cX3_single 19 = .ok (.aload_n 1, 1) := by decide +kernel
theorem dX3_single_20 : decode cX3_single 20 = .ok (.getfield 106, 3) := by decide +kernel
theorem dX3_single_23 : decode cX3_single 23 = .ok (.if_icmp .eq 15, 3) := by decide +kernel
theorem dX3_single_26 : decode cX3_single 26 = .ok (.aload_n 2, 1) := by decide +kernel
theorem dX3_single_27 : decode cX3_single 27 = .ok (.iload_n 3, 1) := by decide +kernel
theorem dX3_single_28 : decode cX3_single 28 = .ok (.aload_n 1, 1) := by decide +kernel
theorem dX3_single_29 : decode cX3_single 29 = .ok (.getfield 43, 3) := by decide +kernel
theorem dX3_single_32 : decode cX3_single 32 = .ok (.invokevirtual 109, 3) := by decide +kernel
theorem dX3_single_35 : decode cX3_single 35 = .ok (.ifCond .ne 5, 3) := by decide +kernel
theorem dX3_single_38 : decode cX3_single 38 = .ok (.iconst 0, 1) := by decide +kernel
theorem dX3_single_39 : decode cX3_single 39 = .ok (.ireturn, 1) := by decide +kernel
theorem dX3_single_40 : decode cX3_single 40 = .ok (.iconst 0, 1) := by decide +kernel
theorem dX3_single_41 : decode cX3_single 41 = .ok (.istore 4, 2) := by decide +kernel
theorem dX3_single_43 : decode cX3_single 43 = .ok (.iload 4, 2) := by decide +kernel
theorem dX3_single_45 : decode cX3_single 45 = .ok (.iload_n 3, 1) := by decide +kernel
theorem dX3_single_46 : decode cX3_single 46 = .ok (.if_icmp .ge 27, 3) := by decide +kernel
theorem dX3_single_49 : decode cX3_single 49 = .ok (.aload_n 2, 1) := by decide +kernel
theorem dX3_single_50 : decode cX3_single 50 = .ok (.iload 4, 2) := by decide +kernel
theorem dX3_single_52 : decode cX3_single 52 = .ok (.aload_n 1, 1) := by decide +kernel
theorem dX3_single_53 : decode cX3_single 53 = .ok (.aload_n 0, 1) := by decide +kernel
theorem dX3_single_54 : decode cX3_single 54 = .ok (.getfield 17, 3) := by decide +kernel
theorem dX3_single_57 : decode cX3_single 57 = .ok (.iload 4, 2) := by decide +kernel
theorem dX3_single_59 : decode cX3_single 59 = .ok (.iaload, 1) := by decide +kernel
theorem dX3_single_60 : decode cX3_single 60 = .ok (.aload_n 1, 1) := by decide +kernel
theorem dX3_single_61 : decode cX3_single 61 = .ok (.getfield 43, 3) := by decide +kernel
theorem dX3_single_64 : decode cX3_single 64 = .ok (.invokevirtual 140, 3) := by decide +kernel
theorem dX3_single_67 : decode cX3_single 67 = .ok (.iinc 4 1, 3) := by decide +kernel
theorem dX3_single_70 : decode cX3_single 70 = .ok (.goto (-27), 3) := by decide +kernel
theorem dX3_single_73 : decode cX3_single 73 = .ok (.iconst 1, 1) := by decide +kernel
theorem dX3_single_74 : decode cX3_single 74 = .ok (.ireturn, 1) := by decide +kernel
theorem dX3_tally_0 : decode cX3_tally 0 = .ok (.aload_n 1, 1) := by decide +kernel
theorem dX3_tally_1 : decode cX3_tally 1 = .ok (.iload_n 3, 1) := by decide +kernel
theorem dX3_tally_2 : decode cX3_tally 2 = .ok (.iload_n 3, 1) := by decide +kernel
theorem dX3_tally_3 : decode cX3_tally 3 = .ok (.iconst 1, 1) := by decide +kernel
theorem dX3_tally_4 : decode cX3_tally 4 = .ok (.iadd, 1) := by decide +kernel
theorem dX3_tally_5 : decode cX3_tally 5 = .ok (.aload_n 0, 1) := by decide +kernel
theorem dX3_tally_6 : decode cX3_tally 6 = .ok (.getfield 11, 3) := by decide +kernel
theorem dX3_tally_9 : decode cX3_tally 9 = .ok (.aload_n 0, 1) := by decide +kernel
theorem dX3_tally_10 : decode cX3_tally 10 = .ok (.getfield 17, 3) := by decide +kernel
theorem dX3_tally_13 : decode cX3_tally 13 = .ok (.invokestatic 144, 3) := by decide +kernel
theorem dX3_tally_16 : decode cX3_tally 16 = .ok (.istore 4, 2) := by decide +kernel
theorem dX3_tally_18 : decode cX3_tally 18 = .ok (.aload_n 0, 1) := by decide +kernel
theorem dX3_tally_19 : decode cX3_tally 19 = .ok (.getfield 26, 3) := by decide +kernel
theorem dX3_tally_22 : decode cX3_tally 22 = .ok (.iconst 0, 1) := by decide +kernel
theorem dX3_tally_23 : decode cX3_tally 23 = .ok (.invokestatic 168, 3) := by decide +kernel
theorem dX3_tally_26 : decode cX3_tally 26 = .ok (.iconst 0, 1) := by decide +kernel
theorem dX3_tally_27 : decode cX3_tally 27 = .ok (.istore 5, 2) := by decide +kernel
theorem dX3_tally_29 : decode cX3_tally 29 = .ok (.iload 5, 2) := by decide +kernel
theorem dX3_tally_31 : decode cX3_tally 31 = .ok (.aload_n 1, 1) := by decide +kernel
theorem dX3_tally_32 : decode cX3_tally 32 = .ok (.getfield 106, 3) := by decide +kernel
theorem dX3_tally_35 : decode cX3_tally 35 = .ok (.if_icmp .ge 25, 3) := by decide +kernel
theorem dX3_tally_38 : decode cX3_tally 38 = .ok (.aload_n 0, 1) := by decide +kernel
theorem dX3_tally_39 : decode cX3_tally 39 = .ok (.getfield 26, 3) := by decide +kernel
theorem dX3_tally_42 : decode cX3_tally 42 = .ok (.aload_n 0, 1) := by decide +kernel
theorem dX3_tally_43 : decode cX3_tally 43 = .ok (.getfield 11, 3) := by decide +kernel
theorem dX3_tally_46 : decode cX3_tally 46 = .ok (.iload 5, 2) := by decide +kernel
theorem dX3_tally_48 : decode cX3_tally 48 = .ok (.iaload, 1) := by decide +kernel
theorem dX3_tally_49 : decode cX3_tally 49 = .ok (.dup2, 1) := by decide +kernel
theorem dX3_tally_50 : decode cX3_tally 50 = .ok (.iaload, 1) := by decide +kernel
theorem dX3_tally_51 : decode cX3_tally 51 = .ok (.iconst 1, 1) := by decide +kernel
theorem dX3_tally_52 : decode cX3_tally 52 = .ok (.iadd, 1) := by decide +kernel
theorem dX3_tally_53 : decode cX3_tally 53 = .ok (.iastore, 1) := by decide +kernel
theorem dX3_tally_54 : decode cX3_tally 54 = .ok (.iinc 5 1, 3) := by decide +kernel
theorem dX3_tally_57 : decode cX3_tally 57 = .ok (.goto (-28), 3) := by decide +kernel
theorem dX3_tally_60 : decode cX3_tally 60 = .ok (.aload_n 0, 1) := by decide +kernel
theorem dX3_tally_61 : decode cX3_tally 61 = .ok (.aload_n 1, 1) := by decide +kernel
theorem dX3_tally_62 : decode cX3_tally 62 = .ok (.aload_n 2, 1) := by decide +kernel
theorem dX3_tally_63 : decode cX3_tally 63 = .ok (.iload_n 3, 1) := by decide +kernel
theorem dX3_tally_64 : decode cX3_tally 64 = .ok (.iload 4, 2) := by decide +kernel
theorem dX3_tally_66 : decode cX3_tally 66 = .ok (.invokevirtual 171, 3) := by decide +kernel
theorem dX3_tally_69 : decode cX3_tally 69 = .ok (.ireturn, 1) := by decide +kernel
theorem dX3_sum_0 : decode cX3_sum 0 = .ok (.aload_n 1, 1) := by decide +kernel
theorem dX3_sum_1 : decode cX3_sum 1 = .ok (.iload_n 3, 1) := by decide +kernel
theorem dX3_sum_2 : decode cX3_sum 2 = .ok (.iload_n 3, 1) := by decide +kernel
theorem dX3_sum_3 : decode cX3_sum 3 = .ok (.iconst 1, 1) := by decide +kernel
theorem dX3_sum_4 : decode cX3_sum 4 = .ok (.iadd, 1) := by decide +kernel
theorem dX3_sum_5 : decode cX3_sum 5 = .ok (.aload_n 0, 1) := by decide +kernel
theorem dX3_sum_6 : decode cX3_sum 6 = .ok (.getfield 11, 3) := by decide +kernel
theorem dX3_sum_9 : decode cX3_sum 9 = .ok (.aload_n 0, 1) := by decide +kernel
theorem dX3_sum_10 : decode cX3_sum 10 = .ok (.getfield 17, 3) := by decide +kernel
theorem dX3_sum_13 : decode cX3_sum 13 = .ok (.invokestatic 144, 3) := by decide +kernel
theorem dX3_sum_16 : decode cX3_sum 16 = .ok (.istore 5, 2) := by decide +kernel
theorem dX3_sum_18 : decode cX3_sum 18 = .ok (.aload_n 0, 1) := by decide +kernel
theorem dX3_sum_19 : decode cX3_sum 19 = .ok (.getfield 26, 3) := by decide +kernel
theorem dX3_sum_22 : decode cX3_sum 22 = .ok (.iconst 0, 1) := by decide +kernel
theorem dX3_sum_23 : decode cX3_sum 23 = .ok (.invokestatic 168, 3) := by decide +kernel
theorem dX3_sum_26 : decode cX3_sum 26 = .ok (.iconst 0, 1) := by decide +kernel
theorem dX3_sum_27 : decode cX3_sum 27 = .ok (.istore 6, 2) := by decide +kernel
theorem dX3_sum_29 : decode cX3_sum 29 = .ok (.iload 6, 2) := by decide +kernel
theorem dX3_sum_31 : decode cX3_sum 31 = .ok (.aload_n 1, 1) := by decide +kernel
theorem dX3_sum_32 : decode cX3_sum 32 = .ok (.getfield 106, 3) := by decide +kernel
theorem dX3_sum_35 : decode cX3_sum 35 = .ok (.if_icmp .ge 49, 3) := by decide +kernel
theorem dX3_sum_38 : decode cX3_sum 38 = .ok (.aload_n 1, 1) := by decide +kernel
theorem dX3_sum_39 : decode cX3_sum 39 = .ok (.iload 6, 2) := by decide +kernel
theorem dX3_sum_41 : decode cX3_sum 41 = .ok (.iload 4, 2) := by decide +kernel
theorem dX3_sum_43 : decode cX3_sum 43 = .ok (.invokevirtual 113, 3) := by decide +kernel
theorem dX3_sum_46 : decode cX3_sum 46 = .ok (.lstore 7, 2) := by decide +kernel
theorem dX3_sum_48 : decode cX3_sum 48 = .ok (.lload 7, 2) := by decide +kernel
theorem dX3_sum_50 : decode cX3_sum 50 = .ok (.invokestatic 174, 3) := by decide +kernel
theorem dX3_sum_53 : decode cX3_sum 53 = .ok (.ifCond .ne 5, 3) := by decide +kernel
theorem dX3_sum_56 : decode cX3_sum 56 = .ok (.iconst 0, 1) := by decide +kernel
theorem dX3_sum_57 : decode cX3_sum 57 = .ok (.ireturn, 1) := by decide +kernel
theorem dX3_sum_58 : decode cX3_sum 58 = .ok (.aload_n 0, 1) := by decide +kernel
theorem dX3_sum_59 : decode cX3_sum 59 = .ok (.getfield 26, 3) := by decide +kernel
theorem dX3_sum_62 : decode cX3_sum 62 = .ok (.aload_n 0, 1) := by decide +kernel
theorem dX3_sum_63 : decode cX3_sum 63 = .ok (.getfield 11, 3) := by decide +kernel
theorem dX3_sum_66 : decode cX3_sum 66 = .ok (.iload 6, 2) := by decide +kernel
theorem dX3_sum_68 : decode cX3_sum 68 = .ok (.iaload, 1) := by decide +kernel
theorem dX3_sum_69 : decode cX3_sum 69 = .ok (.dup2, 1) := by decide +kernel
theorem dX3_sum_70 : decode cX3_sum 70 = .ok (.iaload, 1) := by decide +kernel
theorem dX3_sum_71 : decode cX3_sum 71 = .ok (.lload 7, 2) := by decide +kernel
theorem dX3_sum_73 : decode cX3_sum 73 = .ok (.invokestatic 178, 3) := by decide +kernel
theorem dX3_sum_76 : decode cX3_sum 76 = .ok (.iadd, 1) := by decide +kernel
theorem dX3_sum_77 : decode cX3_sum 77 = .ok (.iastore, 1) := by decide +kernel
theorem dX3_sum_78 : decode cX3_sum 78 = .ok (.iinc 6 1, 3) := by decide +kernel
theorem dX3_sum_81 : decode cX3_sum 81 = .ok (.goto (-52), 3) := by decide +kernel
theorem dX3_sum_84 : decode cX3_sum 84 = .ok (.aload_n 0, 1) := by decide +kernel
theorem dX3_sum_85 : decode cX3_sum 85 = .ok (.aload_n 1, 1) := by decide +kernel
theorem dX3_sum_86 : decode cX3_sum 86 = .ok (.aload_n 2, 1) := by decide +kernel
theorem dX3_sum_87 : decode cX3_sum 87 = .ok (.iload_n 3, 1) := by decide +kernel
theorem dX3_sum_88 : decode cX3_sum 88 = .ok (.iload 5, 2) := by decide +kernel
theorem dX3_sum_90 : decode cX3_sum 90 = .ok (.invokevirtual 171, 3) := by decide +kernel
theorem dX3_sum_93 : decode cX3_sum 93 = .ok (.ireturn, 1) := by decide +kernel
theorem dX3_writeAmounts_0 : decode cX3_writeAmounts 0 = .ok (.aload_n 2, 1) := by decide +kernel
theorem dX3_writeAmounts_1 : decode cX3_writeAmounts 1 = .ok (.iload 4, 2) := by decide +kernel
theorem dX3_writeAmounts_3 : decode cX3_writeAmounts 3 = .ok (.iconst 2, 1) := by decide +kernel
theorem dX3_writeAmounts_4 : decode cX3_writeAmounts 4 = .ok (.invokevirtual 109, 3) := by decide +kernel
theorem dX3_writeAmounts_7 : decode cX3_writeAmounts 7 = .ok (.ifCond .ne 5, 3) := by decide +kernel
theorem dX3_writeAmounts_10 : decode cX3_writeAmounts 10 = .ok (.iconst 0, 1) := by decide +kernel
theorem dX3_writeAmounts_11 : decode cX3_writeAmounts 11 = .ok (.ireturn, 1) := by decide +kernel
theorem dX3_writeAmounts_12 : decode cX3_writeAmounts 12 = .ok (.iconst 0, 1) := by decide +kernel
theorem dX3_writeAmounts_13 : decode cX3_writeAmounts 13 = .ok (.istore 5, 2) := by decide +kernel
theorem dX3_writeAmounts_15 : decode cX3_writeAmounts 15 = .ok (.iload 5, 2) := by decide +kernel
theorem dX3_writeAmounts_17 : decode cX3_writeAmounts 17 = .ok (.iload 4, 2) := by decide +kernel
theorem dX3_writeAmounts_19 : decode cX3_writeAmounts 19 = .ok (.if_icmp .ge 59, 3) := by decide +kernel
theorem dX3_writeAmounts_22 : decode cX3_writeAmounts 22 = .ok (.aload_n 0, 1) := by decide +kernel
theorem dX3_writeAmounts_23 : decode cX3_writeAmounts 23 = .ok (.getfield 26, 3) := by decide +kernel
theorem dX3_writeAmounts_26 : decode cX3_writeAmounts 26 = .ok (.iload 5, 2) := by decide +kernel
theorem dX3_writeAmounts_28 : decode cX3_writeAmounts 28 = .ok (.iaload, 1) := by decide +kernel
theorem dX3_writeAmounts_29 : decode cX3_writeAmounts 29 = .ok (.ldc 181, 2) := by decide +kernel
theorem dX3_writeAmounts_31 : decode cX3_writeAmounts 31 = .ok (.if_icmp .lt 5, 3) := by decide +kernel
theorem dX3_writeAmounts_34 : decode cX3_writeAmounts 34 = .ok (.iconst 0, 1) := by decide +kernel
theorem dX3_writeAmounts_35 : decode cX3_writeAmounts 35 = .ok (.ireturn, 1) := by decide +kernel
theorem dX3_writeAmounts_36 : decode cX3_writeAmounts 36 = .ok (.aload_n 2, 1) := by decide +kernel
theorem dX3_writeAmounts_37 : decode cX3_writeAmounts 37 = .ok (.iload 5, 2) := by decide +kernel
theorem dX3_writeAmounts_39 : decode cX3_writeAmounts 39 = .ok (.iconst 0, 1) := by decide +kernel
theorem dX3_writeAmounts_40 : decode cX3_writeAmounts 40 = .ok (.aload_n 1, 1) := by decide +kernel
theorem dX3_writeAmounts_41 : decode cX3_writeAmounts 41 = .ok (.aload_n 0, 1) := by decide +kernel
theorem dX3_writeAmounts_42 : decode cX3_writeAmounts 42 = .ok (.getfield 17, 3) := by decide +kernel
theorem dX3_writeAmounts_45 : decode cX3_writeAmounts 45 = .ok (.iload 5, 2) := by decide +kernel
theorem dX3_writeAmounts_47 : decode cX3_writeAmounts 47 = .ok (.iaload, 1) := by decide +kernel
theorem dX3_writeAmounts_48 : decode cX3_writeAmounts 48 = .ok (.iload_n 3, 1) := by decide +kernel
theorem dX3_writeAmounts_49 : decode cX3_writeAmounts 49 = .ok (.invokevirtual 113, 3) := by decide +kernel
theorem dX3_writeAmounts_52 : decode cX3_writeAmounts 52 = .ok (.invokevirtual 117, 3) := by decide +kernel
theorem dX3_writeAmounts_55 : decode cX3_writeAmounts 55 = .ok (.aload_n 2, 1) := by decide +kernel
theorem dX3_writeAmounts_56 : decode cX3_writeAmounts 56 = .ok (.iload 5, 2) := by decide +kernel
theorem dX3_writeAmounts_58 : decode cX3_writeAmounts 58 = .ok (.iconst 1, 1) := by decide +kernel
theorem dX3_writeAmounts_59 : decode cX3_writeAmounts 59 = .ok (.aload_n 0, 1) := by decide +kernel
theorem dX3_writeAmounts_60 : decode cX3_writeAmounts 60 = .ok (.getfield 26, 3) := by decide +kernel
theorem dX3_writeAmounts_63 : decode cX3_writeAmounts 63 = .ok (.iload 5, 2) := by decide +kernel
theorem dX3_writeAmounts_65 : decode cX3_writeAmounts 65 = .ok (.iaload, 1) := by decide +kernel
theorem dX3_writeAmounts_66 : decode cX3_writeAmounts 66 = .ok (.invokestatic 182, 3) := by decide +kernel
theorem dX3_writeAmounts_69 : decode cX3_writeAmounts 69 = .ok (.invokevirtual 117, 3) := by decide +kernel
theorem dX3_writeAmounts_72 : decode cX3_writeAmounts 72 = .ok (.iinc 5 1, 3) := by decide +kernel
theorem dX3_writeAmounts_75 : decode cX3_writeAmounts 75 = .ok (.goto (-60), 3) := by decide +kernel
theorem dX3_writeAmounts_78 : decode cX3_writeAmounts 78 = .ok (.iconst 1, 1) := by decide +kernel
theorem dX3_writeAmounts_79 : decode cX3_writeAmounts 79 = .ok (.ireturn, 1) := by decide +kernel
theorem dX3_keep_0 : decode cX3_keep 0 = .ok (.iconst 0, 1) := by decide +kernel
theorem dX3_keep_1 : decode cX3_keep 1 = .ok (.istore 4, 2) := by decide +kernel
theorem dX3_keep_3 : decode cX3_keep 3 = .ok (.iconst 0, 1) := by decide +kernel
theorem dX3_keep_4 : decode cX3_keep 4 = .ok (.istore 5, 2) := by decide +kernel
theorem dX3_keep_6 : decode cX3_keep 6 = .ok (.iload 5, 2) := by decide +kernel
theorem dX3_keep_8 : decode cX3_keep 8 = .ok (.aload_n 1, 1) := by decide +kernel
theorem dX3_keep_9 : decode cX3_keep 9 = .ok (.getfield 106, 3) := by decide +kernel
theorem dX3_keep_12 : decode cX3_keep 12 = .ok (.if_icmp .ge 33, 3) := by decide +kernel
theorem dX3_keep_15 : decode cX3_keep 15 = .ok (.aload_n 1, 1) := by decide +kernel
theorem dX3_keep_16 : decode cX3_keep 16 = .ok (.iload 5, 2) := by decide +kernel
theorem dX3_keep_18 : decode cX3_keep 18 = .ok (.iload_n 3, 1) := by decide +kernel
theorem dX3_keep_19 : decode cX3_keep 19 = .ok (.invokevirtual 113, 3) := by decide +kernel
theorem dX3_keep_22 : decode cX3_keep 22 = .ok (.lconst 0, 1) := by decide +kernel
theorem dX3_keep_23 : decode cX3_keep 23 = .ok (.lcmp, 1) := by decide +kernel
theorem dX3_keep_24 : decode cX3_keep 24 = .ok (.ifCond .eq 15, 3) := by decide +kernel
theorem dX3_keep_27 : decode cX3_keep 27 = .ok (.aload_n 0, 1) := by decide +kernel
theorem dX3_keep_28 : decode cX3_keep 28 = .ok (.getfield 29, 3) := by decide +kernel
theorem dX3_keep_31 : decode cX3_keep 31 = .ok (.iload 4, 2) := by decide +kernel
theorem dX3_keep_33 : decode cX3_keep 33 = .ok (.iload 5, 2) := by decide +kernel
theorem dX3_keep_35 : decode cX3_keep 35 = .ok (.iastore, 1) := by decide +kernel
theorem dX3_keep_36 : decode cX3_keep 36 = .ok (.iinc 4 1, 3) := by decide +kernel
theorem dX3_keep_39 : decode cX3_keep 39 = .ok (.iinc 5 1, 3) := by decide +kernel
theorem dX3_keep_42 : decode cX3_keep 42 = .ok (.goto (-36), 3) := by decide +kernel
theorem dX3_keep_45 : decode cX3_keep 45 = .ok (.iload 4, 2) := by decide +kernel
theorem dX3_keep_47 : decode cX3_keep 47 = .ok (.aload_n 1, 1) := by decide +kernel
theorem dX3_keep_48 : decode cX3_keep 48 = .ok (.getfield 106, 3) := by decide +kernel
theorem dX3_keep_51 : decode cX3_keep 51 = .ok (.if_icmp .eq 16, 3) := by decide +kernel
theorem dX3_keep_54 : decode cX3_keep 54 = .ok (.aload_n 2, 1) := by decide +kernel
theorem dX3_keep_55 : decode cX3_keep 55 = .ok (.iload 4, 2) := by decide +kernel
theorem dX3_keep_57 : decode cX3_keep 57 = .ok (.aload_n 1, 1) := by decide +kernel
theorem dX3_keep_58 : decode cX3_keep 58 = .ok (.getfield 43, 3) := by decide +kernel
theorem dX3_keep_61 : decode cX3_keep 61 = .ok (.invokevirtual 109, 3) := by decide +kernel
theorem dX3_keep_64 : decode cX3_keep 64 = .ok (.ifCond .ne 5, 3) := by decide +kernel
theorem dX3_keep_67 : decode cX3_keep 67 = .ok (.iconst 0, 1) := by decide +kernel
theorem dX3_keep_68 : decode cX3_keep 68 = .ok (.ireturn, 1) := by decide +kernel
theorem dX3_keep_69 : decode cX3_keep 69 = .ok (.iconst 0, 1) := by decide +kernel
theorem dX3_keep_70 : decode cX3_keep 70 = .ok (.istore 5, 2) := by decide +kernel
theorem dX3_keep_72 : decode cX3_keep 72 = .ok (.iload 5, 2) := by decide +kernel
theorem dX3_keep_74 : decode cX3_keep 74 = .ok (.iload 4, 2) := by decide +kernel
theorem dX3_keep_76 : decode cX3_keep 76 = .ok (.if_icmp .ge 27, 3) := by decide +kernel
theorem dX3_keep_79 : decode cX3_keep 79 = .ok (.aload_n 2, 1) := by decide +kernel
theorem dX3_keep_80 : decode cX3_keep 80 = .ok (.iload 5, 2) := by decide +kernel
theorem dX3_keep_82 : decode cX3_keep 82 = .ok (.aload_n 1, 1) := by decide +kernel
theorem dX3_keep_83 : decode cX3_keep 83 = .ok (.aload_n 0, 1) := by decide +kernel
theorem dX3_keep_84 : decode cX3_keep 84 = .ok (.getfield 29, 3) := by decide +kernel
theorem dX3_keep_87 : decode cX3_keep 87 = .ok (.iload 5, 2) := by decide +kernel
theorem dX3_keep_89 : decode cX3_keep 89 = .ok (.iaload, 1) := by decide +kernel
theorem dX3_keep_90 : decode cX3_keep 90 = .ok (.aload_n 1, 1) := by decide +kernel
theorem dX3_keep_91 : decode cX3_keep 91 = .ok (.getfield 43, 3) := by decide +kernel
theorem dX3_keep_94 : decode cX3_keep 94 = .ok (.invokevirtual 140, 3) := by decide +kernel
theorem dX3_keep_97 : decode cX3_keep 97 = .ok (.iinc 5 1, 3) := by decide +kernel
theorem dX3_keep_100 : decode cX3_keep 100 = .ok (.goto (-28), 3) := by decide +kernel
theorem dX3_keep_103 : decode cX3_keep 103 = .ok (.iconst 1, 1) := by decide +kernel
theorem dX3_keep_104 : decode cX3_keep 104 = .ok (.ireturn, 1) := by decide +kernel
theorem dX3_head_0 : decode cX3_head 0 = .ok (.aload_n 1, 1) := by decide +kernel
theorem dX3_head_1 : decode cX3_head 1 = .ok (.aload_n 0, 1) := by decide +kernel
theorem dX3_head_2 : decode cX3_head 2 = .ok (.getfield 106, 3) := by decide +kernel
theorem dX3_head_5 : decode cX3_head 5 = .ok (.iconst 1, 1) := by decide +kernel
theorem dX3_head_6 : decode cX3_head 6 = .ok (.isub, 1) := by decide +kernel
theorem dX3_head_7 : decode cX3_head 7 = .ok (.aload_n 0, 1) := by decide +kernel
theorem dX3_head_8 : decode cX3_head 8 = .ok (.getfield 43, 3) := by decide +kernel
theorem dX3_head_11 : decode cX3_head 11 = .ok (.invokevirtual 109, 3) := by decide +kernel
theorem dX3_head_14 : decode cX3_head 14 = .ok (.ifCond .ne 5, 3) := by decide +kernel
theorem dX3_head_17 : decode cX3_head 17 = .ok (.iconst 0, 1) := by decide +kernel
theorem dX3_head_18 : decode cX3_head 18 = .ok (.ireturn, 1) := by decide +kernel
theorem dX3_head_19 : decode cX3_head 19 = .ok (.iconst 1, 1) := by decide +kernel
theorem dX3_head_20 : decode cX3_head 20 = .ok (.istore_n 2, 1) := by decide +kernel
theorem dX3_head_21 : decode cX3_head 21 = .ok (.iload_n 2, 1) := by decide +kernel
theorem dX3_head_22 : decode cX3_head 22 = .ok (.aload_n 0, 1) := by decide +kernel
theorem dX3_head_23 : decode cX3_head 23 = .ok (.getfield 106, 3) := by decide +kernel
theorem dX3_head_26 : decode cX3_head 26 = .ok (.if_icmp .ge 22, 3) := by decide +kernel
theorem dX3_head_29 : decode cX3_head 29 = .ok (.aload_n 1, 1) := by decide +kernel
theorem dX3_head_30 : decode cX3_head 30 = .ok (.iload_n 2, 1) := by decide +kernel
theorem dX3_head_31 : decode cX3_head 31 = .ok (.iconst 1, 1) := by decide +kernel
theorem dX3_head_32 : decode cX3_head 32 = .ok (.isub, 1) := by decide +kernel
theorem dX3_head_33 : decode cX3_head 33 = .ok (.aload_n 0, 1) := by decide +kernel
theorem dX3_head_34 : decode cX3_head 34 = .ok (.iload_n 2, 1) := by decide +kernel
theorem dX3_head_35 : decode cX3_head 35 = .ok (.aload_n 0, 1) := by decide +kernel
theorem dX3_head_36 : decode cX3_head 36 = .ok (.getfield 43, 3) := by decide +kernel
theorem dX3_head_39 : decode cX3_head 39 = .ok (.invokevirtual 140, 3) := by decide +kernel
theorem dX3_head_42 : decode cX3_head 42 = .ok (.iinc 2 1, 3) := by decide +kernel
theorem dX3_head_45 : decode cX3_head 45 = .ok (.goto (-24), 3) := by decide +kernel
theorem dX3_head_48 : decode cX3_head 48 = .ok (.iconst 1, 1) := by decide +kernel
theorem dX3_head_49 : decode cX3_head 49 = .ok (.ireturn, 1) := by decide +kernel
theorem dX3_swap_0 : decode cX3_swap 0 = .ok (.aload_n 1, 1) := by decide +kernel
theorem dX3_swap_1 : decode cX3_swap 1 = .ok (.aload_n 0, 1) := by decide +kernel
theorem dX3_swap_2 : decode cX3_swap 2 = .ok (.invokevirtual 129, 3) := by decide +kernel
theorem dX3_swap_5 : decode cX3_swap 5 = .ok (.iconst 0, 1) := by decide +kernel
theorem dX3_swap_6 : decode cX3_swap 6 = .ok (.istore_n 3, 1) := by decide +kernel
theorem dX3_swap_7 : decode cX3_swap 7 = .ok (.iload_n 3, 1) := by decide +kernel
theorem dX3_swap_8 : decode cX3_swap 8 = .ok (.aload_n 0, 1) := by decide +kernel
theorem dX3_swap_9 : decode cX3_swap 9 = .ok (.getfield 106, 3) := by decide +kernel
theorem dX3_swap_12 : decode cX3_swap 12 = .ok (.if_icmp .ge 37, 3) := by decide +kernel
theorem dX3_swap_15 : decode cX3_swap 15 = .ok (.aload_n 1, 1) := by decide +kernel
theorem dX3_swap_16 : decode cX3_swap 16 = .ok (.iload_n 3, 1) := by decide +kernel
theorem dX3_swap_17 : decode cX3_swap 17 = .ok (.iload_n 2, 1) := by decide +kernel
theorem dX3_swap_18 : decode cX3_swap 18 = .ok (.aload_n 0, 1) := by decide +kernel
theorem dX3_swap_19 : decode cX3_swap 19 = .ok (.iload_n 3, 1) := by decide +kernel
theorem dX3_swap_20 : decode cX3_swap 20 = .ok (.iload_n 2, 1) := by decide +kernel
theorem dX3_swap_21 : decode cX3_swap 21 = .ok (.iconst 1, 1) := by decide +kernel
theorem dX3_swap_22 : decode cX3_swap 22 = .ok (.iadd, 1) := by decide +kernel
theorem dX3_swap_23 : decode cX3_swap 23 = .ok (.invokevirtual 113, 3) := by decide +kernel
theorem dX3_swap_26 : decode cX3_swap 26 = .ok (.invokevirtual 117, 3) := by decide +kernel
theorem dX3_swap_29 : decode cX3_swap 29 = .ok (.aload_n 1, 1) := by decide +kernel
theorem dX3_swap_30 : decode cX3_swap 30 = .ok (.iload_n 3, 1) := by decide +kernel
theorem dX3_swap_31 : decode cX3_swap 31 = .ok (.iload_n 2, 1) := by decide +kernel
theorem dX3_swap_32 : decode cX3_swap 32 = .ok (.iconst 1, 1) := by decide +kernel
theorem dX3_swap_33 : decode cX3_swap 33 = .ok (.iadd, 1) := by decide +kernel
theorem dX3_swap_34 : decode cX3_swap 34 = .ok (.aload_n 0, 1) := by decide +kernel
theorem dX3_swap_35 : decode cX3_swap 35 = .ok (.iload_n 3, 1) := by decide +kernel
theorem dX3_swap_36 : decode cX3_swap 36 = .ok (.iload_n 2, 1) := by decide +kernel
theorem dX3_swap_37 : decode cX3_swap 37 = .ok (.invokevirtual 113, 3) := by decide +kernel
theorem dX3_swap_40 : decode cX3_swap 40 = .ok (.invokevirtual 117, 3) := by decide +kernel
theorem dX3_swap_43 : decode cX3_swap 43 = .ok (.iinc 3 1, 3) := by decide +kernel
theorem dX3_swap_46 : decode cX3_swap 46 = .ok (.goto (-39), 3) := by decide +kernel
theorem dX3_swap_49 : decode cX3_swap 49 = .ok (.iconst 1, 1) := by decide +kernel
theorem dX3_swap_50 : decode cX3_swap 50 = .ok (.ireturn, 1) := by decide +kernel
theorem dX4_init_0 : decode cX4_init 0 = .ok (.aload_n 0, 1) := by decide +kernel
theorem dX4_init_1 : decode cX4_init 1 = .ok (.invokespecial 3, 3) := by decide +kernel
theorem dX4_init_4 : decode cX4_init 4 = .ok (.aload_n 0, 1) := by decide +kernel
theorem dX4_init_5 : decode cX4_init 5 = .ok (.bipush 72, 2) := by decide +kernel
theorem dX4_init_7 : decode cX4_init 7 = .ok (.newarray .long, 2) := by decide +kernel
theorem dX4_init_9 : decode cX4_init 9 = .ok (.putfield 9, 3) := by decide +kernel
theorem dX4_init_12 : decode cX4_init 12 = .ok (.aload_n 0, 1) := by decide +kernel
theorem dX4_init_13 : decode cX4_init 13 = .ok (.iconst 1, 1) := by decide +kernel
theorem dX4_init_14 : decode cX4_init 14 = .ok (.putfield 13, 3) := by decide +kernel
theorem dX4_init_17 : decode cX4_init 17 = .ok (.aload_n 0, 1) := by decide +kernel
theorem dX4_init_18 : decode cX4_init 18 = .ok (.iconst 1, 1) := by decide +kernel
theorem dX4_init_19 : decode cX4_init 19 = .ok (.putfield 17, 3) := by decide +kernel
theorem dX4_init_22 : decode cX4_init 22 = .ok (.return_, 1) := by decide +kernel
theorem dX4_shape_0 : decode cX4_shape 0 = .ok (.iload_n 1, 1) := by decide +kernel
theorem dX4_shape_1 : decode cX4_shape 1 = .ok (.iconst 1, 1) := by decide +kernel
theorem dX4_shape_2 : decode cX4_shape 2 = .ok (.if_icmp .lt 20, 3) := by decide +kernel
theorem dX4_shape_5 : decode cX4_shape 5 = .ok (.iload_n 1, 1) := by decide +kernel
theorem dX4_shape_6 : decode cX4_shape 6 = .ok (.bipush 12, 2) := by decide +kernel
theorem dX4_shape_8 : decode cX4_shape 8 = .ok (.if_icmp .gt 14, 3) := by decide +kernel
theorem dX4_shape_11 : decode cX4_shape 11 = .ok (.iload_n 2, 1) := by decide +kernel
theorem dX4_shape_12 : decode cX4_shape 12 = .ok (.iconst 1, 1) := by decide +kernel
theorem dX4_shape_13 : decode cX4_shape 13 = .ok (.if_icmp .lt 9, 3) := by decide +kernel
theorem dX4_shape_16 : decode cX4_shape 16 = .ok (.iload_n 2, 1) := by decide +kernel
theorem dX4_shape_17 : decode cX4_shape 17 = .ok (.bipush 6, 2) := by decide +kernel
theorem dX4_shape_19 : decode cX4_shape 19 = .ok (.if_icmp .le 5, 3) := by decide +kernel
theorem dX4_shape_22 : decode cX4_shape 22 = .ok (.iconst 0, 1) := by decide +kernel
theorem dX4_shape_23 : decode cX4_shape 23 = .ok (.ireturn, 1) := by decide +kernel
theorem dX4_shape_24 : decode cX4_shape 24 = .ok (.aload_n 0, 1) := by decide +kernel
theorem dX4_shape_25 : decode cX4_shape 25 = .ok (.iload_n 1, 1) := by decide +kernel
theorem dX4_shape_26 : decode cX4_shape 26 = .ok (.putfield 13, 3) := by decide +kernel
theorem dX4_shape_29 : decode cX4_shape 29 = .ok (.aload_n 0, 1) := by decide +kernel
theorem dX4_shape_30 : decode cX4_shape 30 = .ok (.iload_n 2, 1) := by decide +kernel
theorem dX4_shape_31 : decode cX4_shape 31 = .ok (.putfield 17, 3) := by decide +kernel
theorem dX4_shape_34 : decode cX4_shape 34 = .ok (.iconst 1, 1) := by decide +kernel
theorem dX4_shape_35 : decode cX4_shape 35 = .ok (.ireturn, 1) := by decide +kernel
theorem dX4_has_0 : decode cX4_has 0 = .ok (.iload_n 1, 1) := by decide +kernel
theorem dX4_has_1 : decode cX4_has 1 = .ok (.ifCond .lt 27, 3) := by decide +kernel
theorem dX4_has_4 : decode cX4_has 4 = .ok (.iload_n 1, 1) := by decide +kernel
theorem dX4_has_5 : decode cX4_has 5 = .ok (.aload_n 0, 1) := by decide +kernel
theorem dX4_has_6 : decode cX4_has 6 = .ok (.getfield 13, 3) := by decide +kernel
theorem dX4_has_9 : decode cX4_has 9 = .ok (.if_icmp .ge 19, 3) := by decide +kernel
theorem dX4_has_12 : decode cX4_has 12 = .ok (.iload_n 2, 1) := by decide +kernel
theorem dX4_has_13 : decode cX4_has 13 = .ok (.ifCond .lt 15, 3) := by decide +kernel
theorem dX4_has_16 : decode cX4_has 16 = .ok (.iload_n 2, 1) := by decide +kernel
theorem dX4_has_17 : decode cX4_has 17 = .ok (.aload_n 0, 1) := by decide +kernel
theorem dX4_has_18 : decode cX4_has 18 = .ok (.getfield 17, 3) := by decide +kernel
theorem dX4_has_21 : decode cX4_has 21 = .ok (.if_icmp .ge 7, 3) := by decide +kernel
theorem dX4_has_24 : decode cX4_has 24 = .ok (.iconst 1, 1) := by decide +kernel
theorem dX4_has_25 : decode cX4_has 25 = .ok (.goto 4, 3) := by decide +kernel
theorem dX4_has_28 : decode cX4_has 28 = .ok (.iconst 0, 1) := by decide +kernel
theorem dX4_has_29 : decode cX4_has 29 = .ok (.ireturn, 1) := by decide +kernel
theorem dX4_at_0 : decode cX4_at 0 = .ok (.iload_n 1, 1) := by decide +kernel
theorem dX4_at_1 : decode cX4_at 1 = .ok (.aload_n 0, 1) := by decide +kernel
theorem dX4_at_2 : decode cX4_at 2 = .ok (.getfield 17, 3) := by decide +kernel
theorem dX4_at_5 : decode cX4_at 5 = .ok (.imul, 1) := by decide +kernel
theorem dX4_at_6 : decode cX4_at 6 = .ok (.iload_n 2, 1) := by decide +kernel
theorem dX4_at_7 : decode cX4_at 7 = .ok (.iadd, 1) := by decide +kernel
theorem dX4_at_8 : decode cX4_at 8 = .ok (.istore_n 3, 1) := by decide +kernel
theorem dX4_at_9 : decode cX4_at 9 = .ok (.iload_n 3, 1) := by decide +kernel
theorem dX4_at_10 : decode cX4_at 10 = .ok (.ifCond .lt 18, 3) := by decide +kernel
theorem dX4_at_13 : decode cX4_at 13 = .ok (.iload_n 3, 1) := by decide +kernel
theorem dX4_at_14 : decode cX4_at 14 = .ok (.bipush 72, 2) := by decide +kernel
theorem dX4_at_16 : decode cX4_at 16 = .ok (.if_icmp .ge 12, 3) := by decide +kernel
theorem dX4_at_19 : decode cX4_at 19 = .ok (.aload_n 0, 1) := by decide +kernel
theorem dX4_at_20 : decode cX4_at 20 = .ok (.getfield 9, 3) := by decide +kernel
theorem dX4_at_23 : decode cX4_at 23 = .ok (.iload_n 3, 1) := by decide +kernel
theorem dX4_at_24 : decode cX4_at 24 = .ok (.laload, 1) := by decide +kernel
theorem dX4_at_25 : decode cX4_at 25 = .ok (.goto 4, 3) := by decide +kernel
theorem dX4_at_28 : decode cX4_at 28 = .ok (.lconst 0, 1) := by decide +kernel
theorem dX4_at_29 : decode cX4_at 29 = .ok (.lreturn, 1) := by decide +kernel
theorem dX4_put_0 : decode cX4_put 0 = .ok (.iload_n 1, 1) := by decide +kernel
theorem dX4_put_1 : decode cX4_put 1 = .ok (.aload_n 0, 1) := by decide +kernel
theorem dX4_put_2 : decode cX4_put 2 = .ok (.getfield 17, 3) := by decide +kernel
theorem dX4_put_5 : decode cX4_put 5 = .ok (.imul, 1) := by decide +kernel
theorem dX4_put_6 : decode cX4_put 6 = .ok (.iload_n 2, 1) := by decide +kernel
theorem dX4_put_7 : decode cX4_put 7 = .ok (.iadd, 1) := by decide +kernel
theorem dX4_put_8 : decode cX4_put 8 = .ok (.istore 5, 2) := by decide +kernel
theorem dX4_put_10 : decode cX4_put 10 = .ok (.iload 5, 2) := by decide +kernel
theorem dX4_put_12 : decode cX4_put 12 = .ok (.ifCond .lt 18, 3) := by decide +kernel
theorem dX4_put_15 : decode cX4_put 15 = .ok (.iload 5, 2) := by decide +kernel
theorem dX4_put_17 : decode cX4_put 17 = .ok (.bipush 72, 2) := by decide +kernel
theorem dX4_put_19 : decode cX4_put 19 = .ok (.if_icmp .ge 11, 3) := by decide +kernel
theorem dX4_put_22 : decode cX4_put 22 = .ok (.aload_n 0, 1) := by decide +kernel
theorem dX4_put_23 : decode cX4_put 23 = .ok (.getfield 9, 3) := by decide +kernel
theorem dX4_put_26 : decode cX4_put 26 = .ok (.iload 5, 2) := by decide +kernel
theorem dX4_put_28 : decode cX4_put 28 = .ok (.lload_n 3, 1) := by decide +kernel
theorem dX4_put_29 : decode cX4_put 29 = .ok (.lastore, 1) := by decide +kernel
theorem dX4_put_30 : decode cX4_put 30 = .ok (.return_, 1) := by decide +kernel
theorem dX4_become_0 : decode cX4_become 0 = .ok (.aload_n 0, 1) := by decide +kernel
theorem dX4_become_1 : decode cX4_become 1 = .ok (.aload_n 1, 1) := by decide +kernel
theorem dX4_become_2 : decode cX4_become 2 = .ok (.getfield 13, 3) := by decide +kernel
theorem dX4_become_5 : decode cX4_become 5 = .ok (.putfield 13, 3) := by decide +kernel
theorem dX4_become_8 : decode cX4_become 8 = .ok (.aload_n 0, 1) := by decide +kernel
theorem dX4_become_9 : decode cX4_become 9 = .ok (.aload_n 1, 1) := by decide +kernel
theorem dX4_become_10 : decode cX4_become 10 = .ok (.getfield 17, 3) := by decide +kernel
theorem dX4_become_13 : decode cX4_become 13 = .ok (.putfield 17, 3) := by decide +kernel
theorem dX4_become_16 : decode cX4_become 16 = .ok (.aload_n 1, 1) := by decide +kernel
theorem dX4_become_17 : decode cX4_become 17 = .ok (.getfield 9, 3) := by decide +kernel
theorem dX4_become_20 : decode cX4_become 20 = .ok (.iconst 0, 1) := by decide +kernel
theorem dX4_become_21 : decode cX4_become 21 = .ok (.aload_n 0, 1) := by decide +kernel
theorem dX4_become_22 : decode cX4_become 22 = .ok (.getfield 9, 3) := by decide +kernel
theorem dX4_become_25 : decode cX4_become 25 = .ok (.iconst 0, 1) := by decide +kernel
theorem dX4_become_26 : decode cX4_become 26 = .ok (.aload_n 0, 1) := by decide +kernel
theorem dX4_become_27 : decode cX4_become 27 = .ok (.getfield 13, 3) := by decide +kernel
theorem dX4_become_30 : decode cX4_become 30 = .ok (.aload_n 0, 1) := by decide +kernel
theorem dX4_become_31 : decode cX4_become 31 = .ok (.getfield 17, 3) := by decide +kernel
theorem dX4_become_34 : decode cX4_become 34 = .ok (.imul, 1) := by decide +kernel
theorem dX4_become_35 : decode cX4_become 35 = .ok (.invokestatic 22, 3) := by decide +kernel
theorem dX4_become_38 : decode cX4_become 38 = .ok (.return_, 1) := by decide +kernel
theorem dX4_putRow_0 : decode cX4_putRow 0 = .ok (.iconst 0, 1) := by decide +kernel
theorem dX4_putRow_1 : decode cX4_putRow 1 = .ok (.istore 5, 2) := by decide +kernel
theorem dX4_putRow_3 : decode cX4_putRow 3 = .ok (.iload 5, 2) := by decide +kernel
theorem dX4_putRow_5 : decode cX4_putRow 5 = .ok (.iload 4, 2) := by decide +kernel
theorem dX4_putRow_7 : decode cX4_putRow 7 = .ok (.if_icmp .ge 23, 3) := by decide +kernel
theorem dX4_putRow_10 : decode cX4_putRow 10 = .ok (.aload_n 0, 1) := by decide +kernel
theorem dX4_putRow_11 : decode cX4_putRow 11 = .ok (.iload_n 1, 1) := by decide +kernel
theorem dX4_putRow_12 : decode cX4_putRow 12 = .ok (.iload 5, 2) := by decide +kernel
theorem dX4_putRow_14 : decode cX4_putRow 14 = .ok (.aload_n 2, 1) := by decide +kernel
theorem dX4_putRow_15 : decode cX4_putRow 15 = .ok (.iload_n 3, 1) := by decide +kernel
theorem dX4_putRow_16 : decode cX4_putRow 16 = .ok (.iload 5, 2) := by decide +kernel
theorem dX4_putRow_18 : decode cX4_putRow 18 = .ok (.invokevirtual 28, 3) := by decide +kernel
theorem dX4_putRow_21 : decode cX4_putRow 21 = .ok (.invokevirtual 32, 3) := by decide +kernel
theorem dX4_putRow_24 : decode cX4_putRow 24 = .ok (.iinc 5 1, 3) := by decide +kernel
theorem dX4_putRow_27 : decode cX4_putRow 27 = .ok (.goto (-24), 3) := by decide +kernel
theorem dX4_putRow_30 : decode cX4_putRow 30 = .ok (.return_, 1) := by decide +kernel
theorem dX4_isSame_0 : decode cX4_isSame 0 = .ok (.aload_n 0, 1) := by decide +kernel
theorem dX4_isSame_1 : decode cX4_isSame 1 = .ok (.getfield 13, 3) := by decide +kernel
theorem dX4_isSame_4 : decode cX4_isSame 4 = .ok (.aload_n 1, 1) := by decide +kernel
theorem dX4_isSame_5 : decode cX4_isSame 5 = .ok (.getfield 13, 3) := by decide +kernel
theorem dX4_isSame_8 : decode cX4_isSame 8 = .ok (.if_icmp .ne 14, 3) := by decide +kernel
theorem dX4_isSame_11 : decode cX4_isSame 11 = .ok (.aload_n 0, 1) := by decide +kernel
theorem dX4_isSame_12 : decode cX4_isSame 12 = .ok (.getfield 17, 3) := by decide +kernel
theorem dX4_isSame_15 : decode cX4_isSame 15 = .ok (.aload_n 1, 1) := by decide +kernel
theorem dX4_isSame_16 : decode cX4_isSame 16 = .ok (.getfield 17, 3) := by decide +kernel
theorem dX4_isSame_19 : decode cX4_isSame 19 = .ok (.if_icmp .eq 5, 3) := by decide +kernel
theorem dX4_isSame_22 : decode cX4_isSame 22 = .ok (.iconst 0, 1) := by decide +kernel
theorem dX4_isSame_23 : decode cX4_isSame 23 = .ok (.ireturn, 1) := by decide +kernel
theorem dX4_isSame_24 : decode cX4_isSame 24 = .ok (.iconst 0, 1) := by decide +kernel
theorem dX4_isSame_25 : decode cX4_isSame 25 = .ok (.istore_n 2, 1) := by decide +kernel
theorem dX4_isSame_26 : decode cX4_isSame 26 = .ok (.iload_n 2, 1) := by decide +kernel
theorem dX4_isSame_27 : decode cX4_isSame 27 = .ok (.aload_n 0, 1) := by decide +kernel
theorem dX4_isSame_28 : decode cX4_isSame 28 = .ok (.getfield 13, 3) := by decide +kernel
theorem dX4_isSame_31 : decode cX4_isSame 31 = .ok (.aload_n 0, 1) := by decide +kernel
theorem dX4_isSame_32 : decode cX4_isSame 32 = .ok (.getfield 17, 3) := by decide +kernel
theorem dX4_isSame_35 : decode cX4_isSame 35 = .ok (.imul, 1) := by decide +kernel
theorem dX4_isSame_36 : decode cX4_isSame 36 = .ok (.if_icmp .ge 27, 3) := by decide +kernel
theorem dX4_isSame_39 : decode cX4_isSame 39 = .ok (.aload_n 0, 1) := by decide +kernel
theorem dX4_isSame_40 : decode cX4_isSame 40 = .ok (.getfield 9, 3) := by decide +kernel
theorem dX4_isSame_43 : decode cX4_isSame 43 = .ok (.iload_n 2, 1) := by decide +kernel
theorem dX4_isSame_44 : decode cX4_isSame 44 = .ok (.laload, 1) := by decide +kernel
theorem dX4_isSame_45 : decode cX4_isSame 45 = .ok (.aload_n 1, 1) := by decide +kernel
theorem dX4_isSame_46 : decode cX4_isSame 46 = .ok (.getfield 9, 3) := by decide +kernel
theorem dX4_isSame_49 : decode cX4_isSame 49 = .ok (.iload_n 2, 1) := by decide +kernel
theorem dX4_isSame_50 : decode cX4_isSame 50 = .ok (.laload, 1) := by decide +kernel
theorem dX4_isSame_51 : decode cX4_isSame 51 = .ok (.lcmp, 1) := by decide +kernel
theorem dX4_isSame_52 : decode cX4_isSame 52 = .ok (.ifCond .eq 5, 3) := by decide +kernel
theorem dX4_isSame_55 : decode cX4_isSame 55 = .ok (.iconst 0, 1) := by decide +kernel
theorem dX4_isSame_56 : decode cX4_isSame 56 = .ok (.ireturn, 1) := by decide +kernel
theorem dX4_isSame_57 : decode cX4_isSame 57 = .ok (.iinc 2 1, 3) := by decide +kernel
theorem dX4_isSame_60 : decode cX4_isSame 60 = .ok (.goto (-34), 3) := by decide +kernel
theorem dX4_isSame_63 : decode cX4_isSame 63 = .ok (.iconst 1, 1) := by decide +kernel
theorem dX4_isSame_64 : decode cX4_isSame 64 = .ok (.ireturn, 1) := by decide +kernel
theorem dX4_isLike_0 : decode cX4_isLike 0 = .ok (.aload_n 0, 1) := by decide +kernel
theorem dX4_isLike_1 : decode cX4_isLike 1 = .ok (.getfield 13, 3) := by decide +kernel
theorem dX4_isLike_4 : decode cX4_isLike 4 = .ok (.aload_n 1, 1) := by decide +kernel
theorem dX4_isLike_5 : decode cX4_isLike 5 = .ok (.getfield 13, 3) := by decide +kernel
theorem dX4_isLike_8 : decode cX4_isLike 8 = .ok (.if_icmp .ne 14, 3) := by decide +kernel
theorem dX4_isLike_11 : decode cX4_isLike 11 = .ok (.aload_n 0, 1) := by decide +kernel
theorem dX4_isLike_12 : decode cX4_isLike 12 = .ok (.getfield 17, 3) := by decide +kernel
theorem dX4_isLike_15 : decode cX4_isLike 15 = .ok (.aload_n 1, 1) := by decide +kernel
theorem dX4_isLike_16 : decode cX4_isLike 16 = .ok (.getfield 17, 3) := by decide +kernel
theorem dX4_isLike_19 : decode cX4_isLike 19 = .ok (.if_icmp .eq 5, 3) := by decide +kernel
theorem dX4_isLike_22 : decode cX4_isLike 22 = .ok (.iconst 0, 1) := by decide +kernel
theorem dX4_isLike_23 : decode cX4_isLike 23 = .ok (.ireturn, 1) := by decide +kernel
theorem dX4_isLike_24 : decode cX4_isLike 24 = .ok (.iconst 0, 1) := by decide +kernel
theorem dX4_isLike_25 : decode cX4_isLike 25 = .ok (.istore_n 2, 1) := by decide +kernel
theorem dX4_isLike_26 : decode cX4_isLike 26 = .ok (.iload_n 2, 1) := by decide +kernel
theorem dX4_isLike_27 : decode cX4_isLike 27 = .ok (.aload_n 0, 1) := by decide +kernel
theorem dX4_isLike_28 : decode cX4_isLike 28 = .ok (.getfield 13, 3) := by decide +kernel
theorem dX4_isLike_31 : decode cX4_isLike 31 = .ok (.aload_n 0, 1) := by decide +kernel
theorem dX4_isLike_32 : decode cX4_isLike 32 = .ok (.getfield 17, 3) := by decide +kernel
theorem dX4_isLike_35 : decode cX4_isLike 35 = .ok (.imul, 1) := by decide +kernel
theorem dX4_isLike_36 : decode cX4_isLike 36 = .ok (.if_icmp .ge 50, 3) := by decide +kernel
theorem dX4_isLike_39 : decode cX4_isLike 39 = .ok (.aload_n 0, 1) := by decide +kernel
theorem dX4_isLike_40 : decode cX4_isLike 40 = .ok (.getfield 9, 3) := by decide +kernel
theorem dX4_isLike_43 : decode cX4_isLike 43 = .ok (.iload_n 2, 1) := by decide +kernel
theorem dX4_isLike_44 : decode cX4_isLike 44 = .ok (.laload, 1) := by decide +kernel
theorem dX4_isLike_45 : decode cX4_isLike 45 = .ok (.lstore_n 3, 1) := by decide +kernel
theorem dX4_isLike_46 : decode cX4_isLike 46 = .ok (.aload_n 1, 1) := by decide +kernel
theorem dX4_isLike_47 : decode cX4_isLike 47 = .ok (.getfield 9, 3) := by decide +kernel
theorem dX4_isLike_50 : decode cX4_isLike 50 = .ok (.iload_n 2, 1) := by decide +kernel
theorem dX4_isLike_51 : decode cX4_isLike 51 = .ok (.laload, 1) := by decide +kernel
theorem dX4_isLike_52 : decode cX4_isLike 52 = .ok (.lstore 5, 2) := by decide +kernel
theorem dX4_isLike_54 : decode cX4_isLike 54 = .ok (.lload_n 3, 1) := by decide +kernel
theorem dX4_isLike_55 : decode cX4_isLike 55 = .ok (.lload 5, 2) := by decide +kernel
theorem dX4_isLike_57 : decode cX4_isLike 57 = .ok (.lcmp, 1) := by decide +kernel
theorem dX4_isLike_58 : decode cX4_isLike 58 = .ok (.ifCond .eq 22, 3) := by decide +kernel
theorem dX4_isLike_61 : decode cX4_isLike 61 = .ok (.lload_n 3, 1) := by decide +kernel
theorem dX4_isLike_62 : decode cX4_isLike 62 = .ok (.ldc2_w 36, 3) := by decide +kernel
theorem dX4_isLike_65 : decode cX4_isLike 65 = .ok (.lcmp, 1) := by decide +kernel
theorem dX4_isLike_66 : decode cX4_isLike 66 = .ok (.ifCond .eq 14, 3) := by decide +kernel
theorem dX4_isLike_69 : decode cX4_isLike 69 = .ok (.lload 5, 2) := by decide +kernel
theorem dX4_isLike_71 : decode cX4_isLike 71 = .ok (.ldc2_w 36, 3) := by decide +kernel
theorem dX4_isLike_74 : decode cX4_isLike 74 = .ok (.lcmp, 1) := by decide +kernel
theorem dX4_isLike_75 : decode cX4_isLike 75 = .ok (.ifCond .eq 5, 3) := by decide +kernel
theorem dX4_isLike_78 : decode cX4_isLike 78 = .ok (.iconst 0, 1) := by decide +kernel
theorem dX4_isLike_79 : decode cX4_isLike 79 = .ok (.ireturn, 1) := by decide +kernel
theorem dX4_isLike_80 : decode cX4_isLike 80 = .ok (.iinc 2 1, 3) := by decide +kernel
theorem dX4_isLike_83 : decode cX4_isLike 83 = .ok (.goto (-57), 3) := by decide +kernel
theorem dX4_isLike_86 : decode cX4_isLike 86 = .ok (.iconst 1, 1) := by decide +kernel
theorem dX4_isLike_87 : decode cX4_isLike 87 = .ok (.ireturn, 1) := by decide +kernel
theorem dX4_rowsAgree_0 : decode cX4_rowsAgree 0 = .ok (.iload_n 1, 1) := by decide +kernel
theorem dX4_rowsAgree_1 : decode cX4_rowsAgree 1 = .ok (.ifCond .lt 36, 3) := by decide +kernel
theorem dX4_rowsAgree_4 : decode cX4_rowsAgree 4 = .ok (.iload_n 1, 1) := by decide +kernel
theorem dX4_rowsAgree_5 : decode cX4_rowsAgree 5 = .ok (.aload_n 0, 1) := by decide +kernel
theorem dX4_rowsAgree_6 : decode cX4_rowsAgree 6 = .ok (.getfield 13, 3) := by decide +kernel
theorem dX4_rowsAgree_9 : decode cX4_rowsAgree 9 = .ok (.if_icmp .ge 28, 3) := by decide +kernel
theorem dX4_rowsAgree_12 : decode cX4_rowsAgree 12 = .ok (.iload_n 2, 1) := by decide +kernel
theorem dX4_rowsAgree_13 : decode cX4_rowsAgree 13 = .ok (.ifCond .lt 24, 3) := by decide +kernel
theorem dX4_rowsAgree_16 : decode cX4_rowsAgree 16 = .ok (.iload_n 2, 1) := by decide +kernel
theorem dX4_rowsAgree_17 : decode cX4_rowsAgree 17 = .ok (.aload_n 0, 1) := by decide +kernel
theorem dX4_rowsAgree_18 : decode cX4_rowsAgree 18 = .ok (.getfield 13, 3) := by decide +kernel
theorem dX4_rowsAgree_21 : decode cX4_rowsAgree 21 = .ok (.if_icmp .ge 16, 3) := by decide +kernel
theorem dX4_rowsAgree_24 : decode cX4_rowsAgree 24 = .ok (.iload_n 3, 1) := by decide +kernel
theorem dX4_rowsAgree_25 : decode cX4_rowsAgree 25 = .ok (.ifCond .lt 12, 3) := by decide +kernel
theorem dX4_rowsAgree_28 : decode cX4_rowsAgree 28 = .ok (.iload 4, 2) := by decide +kernel
theorem dX4_rowsAgree_30 : decode cX4_rowsAgree 30 = .ok (.aload_n 0, 1) := by decide +kernel
theorem dX4_rowsAgree_31 : decode cX4_rowsAgree 31 = .ok (.getfield 17, 3) := by decide +kernel
theorem dX4_rowsAgree_34 : decode cX4_rowsAgree 34 = .ok (.if_icmp .le 5, 3) := by decide +kernel
theorem dX4_rowsAgree_37 : decode cX4_rowsAgree 37 = .ok (.iconst 0, 1) := by decide +kernel
theorem dX4_rowsAgree_38 : decode cX4_rowsAgree 38 = .ok (.ireturn, 1) := by decide +kernel
theorem dX4_rowsAgree_39 : decode cX4_rowsAgree 39 = .ok (.iload_n 3, 1) := by decide +kernel
theorem dX4_rowsAgree_40 : decode cX4_rowsAgree 40 = .ok (.istore 5, 2) := by decide +kernel
theorem dX4_rowsAgree_42 : decode cX4_rowsAgree 42 = .ok (.iload 5, 2) := by decide +kernel
theorem dX4_rowsAgree_44 : decode cX4_rowsAgree 44 = .ok (.iload 4, 2) := by decide +kernel
theorem dX4_rowsAgree_46 : decode cX4_rowsAgree 46 = .ok (.if_icmp .ge 43, 3) := by decide +kernel
theorem dX4_rowsAgree_49 : decode cX4_rowsAgree 49 = .ok (.aload_n 0, 1) := by decide +kernel
theorem dX4_rowsAgree_50 : decode cX4_rowsAgree 50 = .ok (.getfield 9, 3) := by decide +kernel
theorem dX4_rowsAgree_53 : decode cX4_rowsAgree 53 = .ok (.iload_n 1, 1) := by decide +kernel
theorem dX4_rowsAgree_54 : decode cX4_rowsAgree 54 = .ok (.aload_n 0, 1) := by decide +kernel
theorem dX4_rowsAgree_55 : decode cX4_rowsAgree 55 = .ok (.getfield 17, 3) := by decide +kernel
theorem dX4_rowsAgree_58 : decode cX4_rowsAgree 58 = .ok (.imul, 1) := by decide +kernel
theorem dX4_rowsAgree_59 : decode cX4_rowsAgree 59 = .ok (.iload 5, 2) := by decide +kernel
theorem dX4_rowsAgree_61 : decode cX4_rowsAgree 61 = .ok (.iadd, 1) := by decide +kernel
theorem dX4_rowsAgree_62 : decode cX4_rowsAgree 62 = .ok (.laload, 1) := by decide +kernel
theorem dX4_rowsAgree_63 : decode cX4_rowsAgree 63 = .ok (.aload_n 0, 1) := by decide +kernel
theorem dX4_rowsAgree_64 : decode cX4_rowsAgree 64 = .ok (.getfield 9, 3) := by decide +kernel
theorem dX4_rowsAgree_67 : decode cX4_rowsAgree 67 = .ok (.iload_n 2, 1) := by decide +kernel
theorem dX4_rowsAgree_68 : decode cX4_rowsAgree 68 = .ok (.aload_n 0, 1) := by decide +kernel
theorem dX4_rowsAgree_69 : decode cX4_rowsAgree 69 = .ok (.getfield 17, 3) := by decide +kernel
theorem dX4_rowsAgree_72 : decode cX4_rowsAgree 72 = .ok (.imul, 1) := by decide +kernel
theorem dX4_rowsAgree_73 : decode cX4_rowsAgree 73 = .ok (.iload 5, 2) := by decide +kernel
theorem dX4_rowsAgree_75 : decode cX4_rowsAgree 75 = .ok (.iadd, 1) := by decide +kernel
theorem dX4_rowsAgree_76 : decode cX4_rowsAgree 76 = .ok (.laload, 1) := by decide +kernel
theorem dX4_rowsAgree_77 : decode cX4_rowsAgree 77 = .ok (.lcmp, 1) := by decide +kernel
theorem dX4_rowsAgree_78 : decode cX4_rowsAgree 78 = .ok (.ifCond .eq 5, 3) := by decide +kernel
theorem dX4_rowsAgree_81 : decode cX4_rowsAgree 81 = .ok (.iconst 0, 1) := by decide +kernel
theorem dX4_rowsAgree_82 : decode cX4_rowsAgree 82 = .ok (.ireturn, 1) := by decide +kernel
theorem dX4_rowsAgree_83 : decode cX4_rowsAgree 83 = .ok (.iinc 5 1, 3) := by decide +kernel
theorem dX4_rowsAgree_86 : decode cX4_rowsAgree 86 = .ok (.goto (-44), 3) := by decide +kernel
theorem dX4_rowsAgree_89 : decode cX4_rowsAgree 89 = .ok (.iconst 1, 1) := by decide +kernel
theorem dX4_rowsAgree_90 : decode cX4_rowsAgree 90 = .ok (.ireturn, 1) := by decide +kernel
theorem dX4_empties_0 : decode cX4_empties 0 = .ok (.aload_n 0, 1) := by decide +kernel
theorem dX4_empties_1 : decode cX4_empties 1 = .ok (.lconst 0, 1) := by decide +kernel
theorem dX4_empties_2 : decode cX4_empties 2 = .ok (.invokevirtual 38, 3) := by decide +kernel
theorem dX4_empties_5 : decode cX4_empties 5 = .ok (.ireturn, 1) := by decide +kernel
theorem dX4_anys_0 : decode cX4_anys 0 = .ok (.aload_n 0, 1) := by decide +kernel
theorem dX4_anys_1 : decode cX4_anys 1 = .ok (.ldc2_w 36, 3) := by decide +kernel
theorem dX4_anys_4 : decode cX4_anys 4 = .ok (.invokevirtual 38, 3) := by decide +kernel
theorem dX4_anys_7 : decode cX4_anys 7 = .ok (.ireturn, 1) := by decide +kernel
theorem dX4_numbers_0 : decode cX4_numbers 0 = .ok (.iconst 0, 1) := by decide +kernel
theorem dX4_numbers_1 : decode cX4_numbers 1 = .ok (.istore_n 1, 1) := by decide +kernel
theorem dX4_numbers_2 : decode cX4_numbers 2 = .ok (.iconst 0, 1) := by decide +kernel
theorem dX4_numbers_3 : decode cX4_numbers 3 = .ok (.istore_n 2, 1) := by decide +kernel
theorem dX4_numbers_4 : decode cX4_numbers 4 = .ok (.iload_n 2, 1) := by decide +kernel
theorem dX4_numbers_5 : decode cX4_numbers 5 = .ok (.aload_n 0, 1) := by decide +kernel
theorem dX4_numbers_6 : decode cX4_numbers 6 = .ok (.getfield 13, 3) := by decide +kernel
theorem dX4_numbers_9 : decode cX4_numbers 9 = .ok (.aload_n 0, 1) := by decide +kernel
theorem dX4_numbers_10 : decode cX4_numbers 10 = .ok (.getfield 17, 3) := by decide +kernel
theorem dX4_numbers_13 : decode cX4_numbers 13 = .ok (.imul, 1) := by decide +kernel
theorem dX4_numbers_14 : decode cX4_numbers 14 = .ok (.if_icmp .ge 24, 3) := by decide +kernel
theorem dX4_numbers_17 : decode cX4_numbers 17 = .ok (.aload_n 0, 1) := by decide +kernel
theorem dX4_numbers_18 : decode cX4_numbers 18 = .ok (.getfield 9, 3) := by decide +kernel
theorem dX4_numbers_21 : decode cX4_numbers 21 = .ok (.iload_n 2, 1) := by decide +kernel
theorem dX4_numbers_22 : decode cX4_numbers 22 = .ok (.laload, 1) := by decide +kernel
theorem dX4_numbers_23 : decode cX4_numbers 23 = .ok (.invokestatic 42, 3) := by decide +kernel
theorem dX4_numbers_26 : decode cX4_numbers 26 = .ok (.ifCond .eq 6, 3) := by decide +kernel
theorem dX4_numbers_29 : decode cX4_numbers 29 = .ok (.iinc 1 1, 3) := by decide +kernel
theorem dX4_numbers_32 : decode cX4_numbers 32 = .ok (.iinc 2 1, 3) := by decide +kernel
theorem dX4_numbers_35 : decode cX4_numbers 35 = .ok (.goto (-31), 3) := by decide +kernel
theorem dX4_numbers_38 : decode cX4_numbers 38 = .ok (.iload_n 1, 1) := by decide +kernel
theorem dX4_numbers_39 : decode cX4_numbers 39 = .ok (.ireturn, 1) := by decide +kernel
theorem dX4_cellsThatAre_0 : decode cX4_cellsThatAre 0 = .ok (.iconst 0, 1) := by decide +kernel
theorem dX4_cellsThatAre_1 : decode cX4_cellsThatAre 1 = .ok (.istore_n 3, 1) := by decide +kernel
theorem dX4_cellsThatAre_2 : decode cX4_cellsThatAre 2 = .ok (.iconst 0, 1) := by decide +kernel
theorem dX4_cellsThatAre_3 : decode cX4_cellsThatAre 3 = .ok (.istore 4, 2) := by decide +kernel
theorem dX4_cellsThatAre_5 : decode cX4_cellsThatAre 5 = .ok (.iload 4, 2) := by decide +kernel
theorem dX4_cellsThatAre_7 : decode cX4_cellsThatAre 7 = .ok (.aload_n 0, 1) := by decide +kernel
theorem dX4_cellsThatAre_8 : decode cX4_cellsThatAre 8 = .ok (.getfield 13, 3) := by decide +kernel
theorem dX4_cellsThatAre_11 : decode cX4_cellsThatAre 11 = .ok (.aload_n 0, 1) := by decide +kernel
theorem dX4_cellsThatAre_12 : decode cX4_cellsThatAre 12 = .ok (.getfield 17, 3) := by decide +kernel
theorem dX4_cellsThatAre_15 : decode cX4_cellsThatAre 15 = .ok (.imul, 1) := by decide +kernel
theorem dX4_cellsThatAre_16 : decode cX4_cellsThatAre 16 = .ok (.if_icmp .ge 24, 3) := by decide +kernel
theorem dX4_cellsThatAre_19 : decode cX4_cellsThatAre 19 = .ok (.aload_n 0, 1) := by decide +kernel
theorem dX4_cellsThatAre_20 : decode cX4_cellsThatAre 20 = .ok (.getfield 9, 3) := by decide +kernel
theorem dX4_cellsThatAre_23 : decode cX4_cellsThatAre 23 = .ok (.iload 4, 2) := by decide +kernel
theorem dX4_cellsThatAre_25 : decode cX4_cellsThatAre 25 = .ok (.laload, 1) := by decide +kernel
theorem dX4_cellsThatAre_26 : decode cX4_cellsThatAre 26 = .ok (.lload_n 1, 1) := by decide +kernel
theorem dX4_cellsThatAre_27 : decode cX4_cellsThatAre 27 = .ok (.lcmp, 1) := by decide +kernel
theorem dX4_cellsThatAre_28 : decode cX4_cellsThatAre 28 = .ok (.ifCond .ne 6, 3) := by decide +kernel
theorem dX4_cellsThatAre_31 : decode cX4_cellsThatAre 31 = .ok (.iinc 3 1, 3) := by decide +kernel
theorem dX4_cellsThatAre_34 : decode cX4_cellsThatAre 34 = .ok (.iinc 4 1, 3) := by decide +kernel
theorem dX4_cellsThatAre_37 : decode cX4_cellsThatAre 37 = .ok (.goto (-32), 3) := by decide +kernel
theorem dX4_cellsThatAre_40 : decode cX4_cellsThatAre 40 = .ok (.iload_n 3, 1) := by decide +kernel
theorem dX4_cellsThatAre_41 : decode cX4_cellsThatAre 41 = .ok (.ireturn, 1) := by decide +kernel
theorem dX5_init_0 : decode cX5_init 0 = .ok (.aload_n 0, 1) := by decide +kernel
theorem dX5_init_1 : decode cX5_init 1 = .ok (.invokespecial 3, 3) := by decide +kernel
theorem dX5_init_4 : decode cX5_init 4 = .ok (.aload_n 0, 1) := by decide +kernel
theorem dX5_init_5 : decode cX5_init 5 = .ok (.new 9, 3) := by decide +kernel
theorem dX5_init_8 : decode cX5_init 8 = .ok (.dup, 1) := by decide +kernel
theorem dX5_init_9 : decode cX5_init 9 = .ok (.invokespecial 11, 3) := by decide +kernel
theorem dX5_init_12 : decode cX5_init 12 = .ok (.putfield 12, 3) := by decide +kernel
theorem dX5_init_15 : decode cX5_init 15 = .ok (.aload_n 0, 1) := by decide +kernel
theorem dX5_init_16 : decode cX5_init 16 = .ok (.iconst 0, 1) := by decide +kernel
theorem dX5_init_17 : decode cX5_init 17 = .ok (.putfield 18, 3) := by decide +kernel
theorem dX5_init_20 : decode cX5_init 20 = .ok (.aload_n 0, 1) := by decide +kernel
theorem dX5_init_21 : decode cX5_init 21 = .ok (.iconst (-1), 1) := by decide +kernel
theorem dX5_init_22 : decode cX5_init 22 = .ok (.putfield 22, 3) := by decide +kernel
theorem dX5_init_25 : decode cX5_init 25 = .ok (.return_, 1) := by decide +kernel
theorem dX5_read_0 : decode cX5_read 0 = .ok (.aload_n 0, 1) := by decide +kernel
theorem dX5_read_1 : decode cX5_read 1 = .ok (.iconst 1, 1) := by decide +kernel
theorem dX5_read_2 : decode cX5_read 2 = .ok (.putfield 25, 3) := by decide +kernel
theorem dX5_read_5 : decode cX5_read 5 = .ok (.aload_n 0, 1) := by decide +kernel
theorem dX5_read_6 : decode cX5_read 6 = .ok (.iconst 1, 1) := by decide +kernel
theorem dX5_read_7 : decode cX5_read 7 = .ok (.putfield 28, 3) := by decide +kernel
theorem dX5_read_10 : decode cX5_read 10 = .ok (.aload_n 0, 1) := by decide +kernel
theorem dX5_read_11 : decode cX5_read 11 = .ok (.iconst 0, 1) := by decide +kernel
theorem dX5_read_12 : decode cX5_read 12 = .ok (.putfield 31, 3) := by decide +kernel
theorem dX5_read_15 : decode cX5_read 15 = .ok (.aload_n 0, 1) := by decide +kernel
theorem dX5_read_16 : decode cX5_read 16 = .ok (.iconst 0, 1) := by decide +kernel
theorem dX5_read_17 : decode cX5_read 17 = .ok (.putfield 34, 3) := by decide +kernel
theorem dX5_read_20 : decode cX5_read 20 = .ok (.aload_n 0, 1) := by decide +kernel
theorem dX5_read_21 : decode cX5_read 21 = .ok (.iconst 0, 1) := by decide +kernel
theorem dX5_read_22 : decode cX5_read 22 = .ok (.putfield 37, 3) := by decide +kernel
theorem dX5_read_25 : decode cX5_read 25 = .ok (.aload_n 0, 1) := by decide +kernel
theorem dX5_read_26 : decode cX5_read 26 = .ok (.lconst 0, 1) := by decide +kernel
theorem dX5_read_27 : decode cX5_read 27 = .ok (.putfield 42, 3) := by decide +kernel
theorem dX5_read_30 : decode cX5_read 30 = .ok (.iconst 0, 1) := by decide +kernel
theorem dX5_read_31 : decode cX5_read 31 = .ok (.istore_n 3, 1) := by decide +kernel
theorem dX5_read_32 : decode cX5_read 32 = .ok (.iload_n 3, 1) := by decide +kernel
theorem dX5_read_33 : decode cX5_read 33 = .ok (.iload_n 2, 1) := by decide +kernel
theorem dX5_read_34 : decode cX5_read 34 = .ok (.if_icmp .ge 43, 3) := by decide +kernel
theorem dX5_read_37 : decode cX5_read 37 = .ok (.iload_n 3, 1) := by decide +kernel
theorem dX5_read_38 : decode cX5_read 38 = .ok (.aload_n 1, 1) := by decide +kernel
theorem dX5_read_39 : decode cX5_read 39 = .ok (.arraylength, 1) := by decide +kernel
theorem dX5_read_40 : decode cX5_read 40 = .ok (.if_icmp .ge 37, 3) := by decide +kernel
theorem dX5_read_43 : decode cX5_read 43 = .ok (.aload_n 0, 1) := by decide +kernel
theorem dX5_read_44 : decode cX5_read 44 = .ok (.aload_n 0, 1) := by decide +kernel
theorem dX5_read_45 : decode cX5_read 45 = .ok (.aload_n 1, 1) := by decide +kernel
theorem dX5_read_46 : decode cX5_read 46 = .ok (.iload_n 3, 1) := by decide +kernel
theorem dX5_read_47 : decode cX5_read 47 = .ok (.baload, 1) := by decide +kernel
theorem dX5_read_48 : decode cX5_read 48 = .ok (.sipush 255, 3) := by decide +kernel
theorem dX5_read_51 : decode cX5_read 51 = .ok (.iand, 1) := by decide +kernel
theorem dX5_read_52 : decode cX5_read 52 = .ok (.invokevirtual 46, 3) := by decide +kernel
theorem dX5_read_55 : decode cX5_read 55 = .ok (.putfield 18, 3) := by decide +kernel
theorem dX5_read_58 : decode cX5_read 58 = .ok (.aload_n 0, 1) := by decide +kernel
theorem dX5_read_59 : decode cX5_read 59 = .ok (.getfield 18, 3) := by decide +kernel
theorem dX5_read_62 : decode cX5_read 62 = .ok (.ifCond .eq 9, 3) := by decide +kernel
theorem dX5_read_65 : decode cX5_read 65 = .ok (.aload_n 0, 1) := by decide +kernel
theorem dX5_read_66 : decode cX5_read 66 = .ok (.iload_n 3, 1) := by decide +kernel
theorem dX5_read_67 : decode cX5_read 67 = .ok (.putfield 22, 3) := by decide +kernel
theorem dX5_read_70 : decode cX5_read 70 = .ok (.return_, 1) := by decide +kernel
theorem dX5_read_71 : decode cX5_read 71 = .ok (.iinc 3 1, 3) := by decide +kernel
theorem dX5_read_74 : decode cX5_read 74 = .ok (.goto (-42), 3) := by decide +kernel
theorem dX5_read_77 : decode cX5_read 77 = .ok (.aload_n 0, 1) := by decide +kernel
theorem dX5_read_78 : decode cX5_read 78 = .ok (.aload_n 0, 1) := by decide +kernel
theorem dX5_read_79 : decode cX5_read 79 = .ok (.invokevirtual 50, 3) := by decide +kernel
theorem dX5_read_82 : decode cX5_read 82 = .ok (.ifCond .eq 7, 3) := by decide +kernel
theorem dX5_read_85 : decode cX5_read 85 = .ok (.iconst 3, 1) := by decide +kernel
theorem dX5_read_86 : decode cX5_read 86 = .ok (.goto 4, 3) := by decide +kernel
theorem dX5_read_89 : decode cX5_read 89 = .ok (.iconst 0, 1) := by decide +kernel
theorem dX5_read_90 : decode cX5_read 90 = .ok (.putfield 18, 3) := by decide +kernel
theorem dX5_read_93 : decode cX5_read 93 = .ok (.aload_n 0, 1) := by decide +kernel
theorem dX5_read_94 : decode cX5_read 94 = .ok (.aload_n 0, 1) := by decide +kernel
theorem dX5_read_95 : decode cX5_read 95 = .ok (.getfield 18, 3) := by decide +kernel
theorem dX5_read_98 : decode cX5_read 98 = .ok (.ifCond .ne 7, 3) := by decide +kernel
theorem dX5_read_101 : decode cX5_read 101 = .ok (.iconst (-1), 1) := by decide +kernel
theorem dX5_read_102 : decode cX5_read 102 = .ok (.goto 4, 3) := by decide +kernel
theorem dX5_read_105 : decode cX5_read 105 = .ok (.iload_n 2, 1) := by decide +kernel
theorem dX5_read_106 : decode cX5_read 106 = .ok (.putfield 22, 3) := by decide +kernel
theorem dX5_read_109 : decode cX5_read 109 = .ok (.aload_n 0, 1) := by decide +kernel
theorem dX5_read_110 : decode cX5_read 110 = .ok (.getfield 18, 3) := by decide +kernel
theorem dX5_read_113 : decode cX5_read 113 = .ok (.ifCond .ne 23, 3) := by decide +kernel
theorem dX5_read_116 : decode cX5_read 116 = .ok (.aload_n 0, 1) := by decide +kernel
theorem dX5_read_117 : decode cX5_read 117 = .ok (.invokevirtual 54, 3) := by decide +kernel
theorem dX5_read_120 : decode cX5_read 120 = .ok (.aload_n 0, 1) := by decide +kernel
theorem dX5_read_121 : decode cX5_read 121 = .ok (.getfield 12, 3) := by decide +kernel
theorem dX5_read_124 : decode cX5_read 124 = .ok (.aload_n 0, 1) := by decide +kernel
theorem dX5_read_125 : decode cX5_read 125 = .ok (.getfield 25, 3) := by decide +kernel
theorem dX5_read_128 : decode cX5_read 128 = .ok (.aload_n 0, 1) := by decide +kernel
theorem dX5_read_129 : decode cX5_read 129 = .ok (.getfield 28, 3) := by decide +kernel
theorem dX5_read_132 : decode cX5_read 132 = .ok (.invokevirtual 57, 3) := by decide +kernel
theorem dX5_read_135 : decode cX5_read 135 = .ok (.pop, 1) := by decide +kernel
theorem dX5_read_136 : decode cX5_read 136 = .ok (.return_, 1) := by decide +kernel
theorem dX5_takeByte_0 : decode cX5_takeByte 0 = .ok (.iload_n 1, 1) := by decide +kernel
theorem dX5_takeByte_1 : decode cX5_takeByte 1 = .ok (.bipush 44, 2) := by decide +kernel
theorem dX5_takeByte_3 : decode cX5_takeByte 3 = .ok (.if_icmp .ne 8, 3) := by decide +kernel
theorem dX5_takeByte_6 : decode cX5_takeByte 6 = .ok (.aload_n 0, 1) := by decide +kernel
theorem dX5_takeByte_7 : decode cX5_takeByte 7 = .ok (.invokevirtual 61, 3) := by decide +kernel
theorem dX5_takeByte_10 : decode cX5_takeByte 10 = .ok (.ireturn, 1) := by decide +kernel
theorem dX5_takeByte_11 : decode cX5_takeByte 11 = .ok (.iload_n 1, 1) := by decide +kernel
theorem dX5_takeByte_12 : decode cX5_takeByte 12 = .ok (.bipush 59, 2) := by decide +kernel
theorem dX5_takeByte_14 : decode cX5_takeByte 14 = .ok (.if_icmp .ne 8, 3) := by decide +kernel
theorem dX5_takeByte_17 : decode cX5_takeByte 17 = .ok (.aload_n 0, 1) := by decide +kernel
theorem dX5_takeByte_18 : decode cX5_takeByte 18 = .ok (.invokevirtual 65, 3) := by decide +kernel
theorem dX5_takeByte_21 : decode cX5_takeByte 21 = .ok (.ireturn, 1) := by decide +kernel
theorem dX5_takeByte_22 : decode cX5_takeByte 22 = .ok (.aload_n 0, 1) := by decide +kernel
theorem dX5_takeByte_23 : decode cX5_takeByte 23 = .ok (.iload_n 1, 1) := by decide +kernel
theorem dX5_takeByte_24 : decode cX5_takeByte 24 = .ok (.invokevirtual 68, 3) := by decide +kernel
theorem dX5_takeByte_27 : decode cX5_takeByte 27 = .ok (.ireturn, 1) := by decide +kernel
theorem dX5_rowIsShort_0 : decode cX5_rowIsShort 0 = .ok (.aload_n 0, 1) := by decide +kernel
theorem dX5_rowIsShort_1 : decode cX5_rowIsShort 1 = .ok (.getfield 25, 3) := by decide +kernel
theorem dX5_rowIsShort_4 : decode cX5_rowIsShort 4 = .ok (.iconst 1, 1) := by decide +kernel
theorem dX5_rowIsShort_5 : decode cX5_rowIsShort 5 = .ok (.if_icmp .le 18, 3) := by decide +kernel
theorem dX5_rowIsShort_8 : decode cX5_rowIsShort 8 = .ok (.aload_n 0, 1) := by decide +kernel
theorem dX5_rowIsShort_9 : decode cX5_rowIsShort 9 = .ok (.getfield 28, 3) := by decide +kernel
theorem dX5_rowIsShort_12 : decode cX5_rowIsShort 12 = .ok (.aload_n 0, 1) := by decide +kernel
