theorem dX5_rowIsShort_13 : decode cX5_rowIsShort 13 = .ok (.getfield 31, 3) := by decide +kernel
theorem dX5_rowIsShort_16 : decode cX5_rowIsShort 16 = .ok (.if_icmp .ge 7, 3) := by decide +kernel
theorem dX5_rowIsShort_19 : decode cX5_rowIsShort 19 = .ok (.iconst 1, 1) := by decide +kernel
theorem dX5_rowIsShort_20 : decode cX5_rowIsShort 20 = .ok (.goto 4, 3) := by decide +kernel
theorem dX5_rowIsShort_23 : decode cX5_rowIsShort 23 = .ok (.iconst 0, 1) := by decide +kernel
theorem dX5_rowIsShort_24 : decode cX5_rowIsShort 24 = .ok (.ireturn, 1) := by decide +kernel
theorem dX5_takeComma_0 : decode cX5_takeComma 0 = .ok (.aload_n 0, 1) := by decide +kernel
theorem dX5_takeComma_1 : decode cX5_takeComma 1 = .ok (.getfield 25, 3) := by decide +kernel
theorem dX5_takeComma_4 : decode cX5_takeComma 4 = .ok (.iconst 1, 1) := by decide +kernel
theorem dX5_takeComma_5 : decode cX5_takeComma 5 = .ok (.if_icmp .le 16, 3) := by decide +kernel
theorem dX5_takeComma_8 : decode cX5_takeComma 8 = .ok (.aload_n 0, 1) := by decide +kernel
theorem dX5_takeComma_9 : decode cX5_takeComma 9 = .ok (.getfield 28, 3) := by decide +kernel
theorem dX5_takeComma_12 : decode cX5_takeComma 12 = .ok (.aload_n 0, 1) := by decide +kernel
theorem dX5_takeComma_13 : decode cX5_takeComma 13 = .ok (.getfield 31, 3) := by decide +kernel
theorem dX5_takeComma_16 : decode cX5_takeComma 16 = .ok (.if_icmp .ne 5, 3) := by decide +kernel
theorem dX5_takeComma_19 : decode cX5_takeComma 19 = .ok (.iconst 3, 1) := by decide +kernel
theorem dX5_takeComma_20 : decode cX5_takeComma 20 = .ok (.ireturn, 1) := by decide +kernel
theorem dX5_takeComma_21 : decode cX5_takeComma 21 = .ok (.aload_n 0, 1) := by decide +kernel
theorem dX5_takeComma_22 : decode cX5_takeComma 22 = .ok (.getfield 28, 3) := by decide +kernel
theorem dX5_takeComma_25 : decode cX5_takeComma 25 = .ok (.bipush 6, 2) := by decide +kernel
theorem dX5_takeComma_27 : decode cX5_takeComma 27 = .ok (.if_icmp .ne 5, 3) := by decide +kernel
theorem dX5_takeComma_30 : decode cX5_takeComma 30 = .ok (.iconst 4, 1) := by decide +kernel
theorem dX5_takeComma_31 : decode cX5_takeComma 31 = .ok (.ireturn, 1) := by decide +kernel
theorem dX5_takeComma_32 : decode cX5_takeComma 32 = .ok (.aload_n 0, 1) := by decide +kernel
theorem dX5_takeComma_33 : decode cX5_takeComma 33 = .ok (.invokevirtual 54, 3) := by decide +kernel
theorem dX5_takeComma_36 : decode cX5_takeComma 36 = .ok (.aload_n 0, 1) := by decide +kernel
theorem dX5_takeComma_37 : decode cX5_takeComma 37 = .ok (.dup, 1) := by decide +kernel
theorem dX5_takeComma_38 : decode cX5_takeComma 38 = .ok (.getfield 28, 3) := by decide +kernel
theorem dX5_takeComma_41 : decode cX5_takeComma 41 = .ok (.iconst 1, 1) := by decide +kernel
theorem dX5_takeComma_42 : decode cX5_takeComma 42 = .ok (.iadd, 1) := by decide +kernel
theorem dX5_takeComma_43 : decode cX5_takeComma 43 = .ok (.putfield 28, 3) := by decide +kernel
theorem dX5_takeComma_46 : decode cX5_takeComma 46 = .ok (.iconst 0, 1) := by decide +kernel
theorem dX5_takeComma_47 : decode cX5_takeComma 47 = .ok (.ireturn, 1) := by decide +kernel
theorem dX5_takeSemicolon_0 : decode cX5_takeSemicolon 0 = .ok (.aload_n 0, 1) := by decide +kernel
theorem dX5_takeSemicolon_1 : decode cX5_takeSemicolon 1 = .ok (.invokevirtual 50, 3) := by decide +kernel
theorem dX5_takeSemicolon_4 : decode cX5_takeSemicolon 4 = .ok (.ifCond .eq 5, 3) := by decide +kernel
theorem dX5_takeSemicolon_7 : decode cX5_takeSemicolon 7 = .ok (.iconst 3, 1) := by decide +kernel
theorem dX5_takeSemicolon_8 : decode cX5_takeSemicolon 8 = .ok (.ireturn, 1) := by decide +kernel
theorem dX5_takeSemicolon_9 : decode cX5_takeSemicolon 9 = .ok (.aload_n 0, 1) := by decide +kernel
theorem dX5_takeSemicolon_10 : decode cX5_takeSemicolon 10 = .ok (.getfield 25, 3) := by decide +kernel
theorem dX5_takeSemicolon_13 : decode cX5_takeSemicolon 13 = .ok (.bipush 12, 2) := by decide +kernel
theorem dX5_takeSemicolon_15 : decode cX5_takeSemicolon 15 = .ok (.if_icmp .ne 5, 3) := by decide +kernel
theorem dX5_takeSemicolon_18 : decode cX5_takeSemicolon 18 = .ok (.iconst 4, 1) := by decide +kernel
theorem dX5_takeSemicolon_19 : decode cX5_takeSemicolon 19 = .ok (.ireturn, 1) := by decide +kernel
theorem dX5_takeSemicolon_20 : decode cX5_takeSemicolon 20 = .ok (.aload_n 0, 1) := by decide +kernel
theorem dX5_takeSemicolon_21 : decode cX5_takeSemicolon 21 = .ok (.invokevirtual 54, 3) := by decide +kernel
theorem dX5_takeSemicolon_24 : decode cX5_takeSemicolon 24 = .ok (.aload_n 0, 1) := by decide +kernel
theorem dX5_takeSemicolon_25 : decode cX5_takeSemicolon 25 = .ok (.aload_n 0, 1) := by decide +kernel
theorem dX5_takeSemicolon_26 : decode cX5_takeSemicolon 26 = .ok (.getfield 28, 3) := by decide +kernel
theorem dX5_takeSemicolon_29 : decode cX5_takeSemicolon 29 = .ok (.putfield 31, 3) := by decide +kernel
theorem dX5_takeSemicolon_32 : decode cX5_takeSemicolon 32 = .ok (.aload_n 0, 1) := by decide +kernel
theorem dX5_takeSemicolon_33 : decode cX5_takeSemicolon 33 = .ok (.iconst 1, 1) := by decide +kernel
theorem dX5_takeSemicolon_34 : decode cX5_takeSemicolon 34 = .ok (.putfield 28, 3) := by decide +kernel
theorem dX5_takeSemicolon_37 : decode cX5_takeSemicolon 37 = .ok (.aload_n 0, 1) := by decide +kernel
theorem dX5_takeSemicolon_38 : decode cX5_takeSemicolon 38 = .ok (.dup, 1) := by decide +kernel
theorem dX5_takeSemicolon_39 : decode cX5_takeSemicolon 39 = .ok (.getfield 25, 3) := by decide +kernel
theorem dX5_takeSemicolon_42 : decode cX5_takeSemicolon 42 = .ok (.iconst 1, 1) := by decide +kernel
theorem dX5_takeSemicolon_43 : decode cX5_takeSemicolon 43 = .ok (.iadd, 1) := by decide +kernel
theorem dX5_takeSemicolon_44 : decode cX5_takeSemicolon 44 = .ok (.putfield 25, 3) := by decide +kernel
theorem dX5_takeSemicolon_47 : decode cX5_takeSemicolon 47 = .ok (.iconst 0, 1) := by decide +kernel
theorem dX5_takeSemicolon_48 : decode cX5_takeSemicolon 48 = .ok (.ireturn, 1) := by decide +kernel
theorem dX5_takeCellByte_0 : decode cX5_takeCellByte 0 = .ok (.aload_n 0, 1) := by decide +kernel
theorem dX5_takeCellByte_1 : decode cX5_takeCellByte 1 = .ok (.getfield 42, 3) := by decide +kernel
theorem dX5_takeCellByte_4 : decode cX5_takeCellByte 4 = .ok (.ldc2_w 71, 3) := by decide +kernel
theorem dX5_takeCellByte_7 : decode cX5_takeCellByte 7 = .ok (.lcmp, 1) := by decide +kernel
theorem dX5_takeCellByte_8 : decode cX5_takeCellByte 8 = .ok (.ifCond .eq 16, 3) := by decide +kernel
theorem dX5_takeCellByte_11 : decode cX5_takeCellByte 11 = .ok (.iload_n 1, 1) := by decide +kernel
theorem dX5_takeCellByte_12 : decode cX5_takeCellByte 12 = .ok (.bipush 63, 2) := by decide +kernel
theorem dX5_takeCellByte_14 : decode cX5_takeCellByte 14 = .ok (.if_icmp .ne 12, 3) := by decide +kernel
theorem dX5_takeCellByte_17 : decode cX5_takeCellByte 17 = .ok (.aload_n 0, 1) := by decide +kernel
theorem dX5_takeCellByte_18 : decode cX5_takeCellByte 18 = .ok (.getfield 37, 3) := by decide +kernel
theorem dX5_takeCellByte_21 : decode cX5_takeCellByte 21 = .ok (.ifCond .le 5, 3) := by decide +kernel
theorem dX5_takeCellByte_24 : decode cX5_takeCellByte 24 = .ok (.iconst 1, 1) := by decide +kernel
theorem dX5_takeCellByte_25 : decode cX5_takeCellByte 25 = .ok (.ireturn, 1) := by decide +kernel
theorem dX5_takeCellByte_26 : decode cX5_takeCellByte 26 = .ok (.iload_n 1, 1) := by decide +kernel
theorem dX5_takeCellByte_27 : decode cX5_takeCellByte 27 = .ok (.bipush 63, 2) := by decide +kernel
theorem dX5_takeCellByte_29 : decode cX5_takeCellByte 29 = .ok (.if_icmp .ne 12, 3) := by decide +kernel
theorem dX5_takeCellByte_32 : decode cX5_takeCellByte 32 = .ok (.aload_n 0, 1) := by decide +kernel
theorem dX5_takeCellByte_33 : decode cX5_takeCellByte 33 = .ok (.ldc2_w 71, 3) := by decide +kernel
theorem dX5_takeCellByte_36 : decode cX5_takeCellByte 36 = .ok (.putfield 42, 3) := by decide +kernel
theorem dX5_takeCellByte_39 : decode cX5_takeCellByte 39 = .ok (.iconst 0, 1) := by decide +kernel
theorem dX5_takeCellByte_40 : decode cX5_takeCellByte 40 = .ok (.ireturn, 1) := by decide +kernel
theorem dX5_takeCellByte_41 : decode cX5_takeCellByte 41 = .ok (.iload_n 1, 1) := by decide +kernel
theorem dX5_takeCellByte_42 : decode cX5_takeCellByte 42 = .ok (.invokestatic 73, 3) := by decide +kernel
theorem dX5_takeCellByte_45 : decode cX5_takeCellByte 45 = .ok (.ifCond .ne 20, 3) := by decide +kernel
theorem dX5_takeCellByte_48 : decode cX5_takeCellByte 48 = .ok (.iload_n 1, 1) := by decide +kernel
theorem dX5_takeCellByte_49 : decode cX5_takeCellByte 49 = .ok (.invokestatic 77, 3) := by decide +kernel
theorem dX5_takeCellByte_52 : decode cX5_takeCellByte 52 = .ok (.ifCond .ne 13, 3) := by decide +kernel
theorem dX5_takeCellByte_55 : decode cX5_takeCellByte 55 = .ok (.iload_n 1, 1) := by decide +kernel
theorem dX5_takeCellByte_56 : decode cX5_takeCellByte 56 = .ok (.invokestatic 80, 3) := by decide +kernel
theorem dX5_takeCellByte_59 : decode cX5_takeCellByte 59 = .ok (.iconst (-1), 1) := by decide +kernel
theorem dX5_takeCellByte_60 : decode cX5_takeCellByte 60 = .ok (.if_icmp .ne 5, 3) := by decide +kernel
theorem dX5_takeCellByte_63 : decode cX5_takeCellByte 63 = .ok (.iconst 1, 1) := by decide +kernel
theorem dX5_takeCellByte_64 : decode cX5_takeCellByte 64 = .ok (.ireturn, 1) := by decide +kernel
theorem dX5_takeCellByte_65 : decode cX5_takeCellByte 65 = .ok (.aload_n 0, 1) := by decide +kernel
theorem dX5_takeCellByte_66 : decode cX5_takeCellByte 66 = .ok (.getfield 37, 3) := by decide +kernel
theorem dX5_takeCellByte_69 : decode cX5_takeCellByte 69 = .ok (.bipush 7, 2) := by decide +kernel
theorem dX5_takeCellByte_71 : decode cX5_takeCellByte 71 = .ok (.if_icmp .ne 5, 3) := by decide +kernel
theorem dX5_takeCellByte_74 : decode cX5_takeCellByte 74 = .ok (.iconst 2, 1) := by decide +kernel
theorem dX5_takeCellByte_75 : decode cX5_takeCellByte 75 = .ok (.ireturn, 1) := by decide +kernel
theorem dX5_takeCellByte_76 : decode cX5_takeCellByte 76 = .ok (.aload_n 0, 1) := by decide +kernel
theorem dX5_takeCellByte_77 : decode cX5_takeCellByte 77 = .ok (.aload_n 0, 1) := by decide +kernel
theorem dX5_takeCellByte_78 : decode cX5_takeCellByte 78 = .ok (.getfield 42, 3) := by decide +kernel
theorem dX5_takeCellByte_81 : decode cX5_takeCellByte 81 = .ok (.bipush 8, 2) := by decide +kernel
theorem dX5_takeCellByte_83 : decode cX5_takeCellByte 83 = .ok (.lshl, 1) := by decide +kernel
theorem dX5_takeCellByte_84 : decode cX5_takeCellByte 84 = .ok (.iload_n 1, 1) := by decide +kernel
theorem dX5_takeCellByte_85 : decode cX5_takeCellByte 85 = .ok (.i2l, 1) := by decide +kernel
theorem dX5_takeCellByte_86 : decode cX5_takeCellByte 86 = .ok (.lor, 1) := by decide +kernel
theorem dX5_takeCellByte_87 : decode cX5_takeCellByte 87 = .ok (.putfield 42, 3) := by decide +kernel
theorem dX5_takeCellByte_90 : decode cX5_takeCellByte 90 = .ok (.aload_n 0, 1) := by decide +kernel
theorem dX5_takeCellByte_91 : decode cX5_takeCellByte 91 = .ok (.dup, 1) := by decide +kernel
theorem dX5_takeCellByte_92 : decode cX5_takeCellByte 92 = .ok (.getfield 37, 3) := by decide +kernel
theorem dX5_takeCellByte_95 : decode cX5_takeCellByte 95 = .ok (.iconst 1, 1) := by decide +kernel
theorem dX5_takeCellByte_96 : decode cX5_takeCellByte 96 = .ok (.iadd, 1) := by decide +kernel
theorem dX5_takeCellByte_97 : decode cX5_takeCellByte 97 = .ok (.putfield 37, 3) := by decide +kernel
theorem dX5_takeCellByte_100 : decode cX5_takeCellByte 100 = .ok (.iconst 0, 1) := by decide +kernel
theorem dX5_takeCellByte_101 : decode cX5_takeCellByte 101 = .ok (.ireturn, 1) := by decide +kernel
theorem dX5_endCell_0 : decode cX5_endCell 0 = .ok (.aload_n 0, 1) := by decide +kernel
theorem dX5_endCell_1 : decode cX5_endCell 1 = .ok (.getfield 34, 3) := by decide +kernel
theorem dX5_endCell_4 : decode cX5_endCell 4 = .ok (.bipush 72, 2) := by decide +kernel
theorem dX5_endCell_6 : decode cX5_endCell 6 = .ok (.if_icmp .ge 29, 3) := by decide +kernel
theorem dX5_endCell_9 : decode cX5_endCell 9 = .ok (.aload_n 0, 1) := by decide +kernel
theorem dX5_endCell_10 : decode cX5_endCell 10 = .ok (.getfield 12, 3) := by decide +kernel
theorem dX5_endCell_13 : decode cX5_endCell 13 = .ok (.getfield 83, 3) := by decide +kernel
theorem dX5_endCell_16 : decode cX5_endCell 16 = .ok (.aload_n 0, 1) := by decide +kernel
theorem dX5_endCell_17 : decode cX5_endCell 17 = .ok (.getfield 34, 3) := by decide +kernel
theorem dX5_endCell_20 : decode cX5_endCell 20 = .ok (.aload_n 0, 1) := by decide +kernel
theorem dX5_endCell_21 : decode cX5_endCell 21 = .ok (.getfield 42, 3) := by decide +kernel
theorem dX5_endCell_24 : decode cX5_endCell 24 = .ok (.lastore, 1) := by decide +kernel
theorem dX5_endCell_25 : decode cX5_endCell 25 = .ok (.aload_n 0, 1) := by decide +kernel
theorem dX5_endCell_26 : decode cX5_endCell 26 = .ok (.dup, 1) := by decide +kernel
theorem dX5_endCell_27 : decode cX5_endCell 27 = .ok (.getfield 34, 3) := by decide +kernel
theorem dX5_endCell_30 : decode cX5_endCell 30 = .ok (.iconst 1, 1) := by decide +kernel
theorem dX5_endCell_31 : decode cX5_endCell 31 = .ok (.iadd, 1) := by decide +kernel
theorem dX5_endCell_32 : decode cX5_endCell 32 = .ok (.putfield 34, 3) := by decide +kernel
theorem dX5_endCell_35 : decode cX5_endCell 35 = .ok (.aload_n 0, 1) := by decide +kernel
theorem dX5_endCell_36 : decode cX5_endCell 36 = .ok (.lconst 0, 1) := by decide +kernel
theorem dX5_endCell_37 : decode cX5_endCell 37 = .ok (.putfield 42, 3) := by decide +kernel
theorem dX5_endCell_40 : decode cX5_endCell 40 = .ok (.aload_n 0, 1) := by decide +kernel
theorem dX5_endCell_41 : decode cX5_endCell 41 = .ok (.iconst 0, 1) := by decide +kernel
theorem dX5_endCell_42 : decode cX5_endCell 42 = .ok (.putfield 37, 3) := by decide +kernel
theorem dX5_endCell_45 : decode cX5_endCell 45 = .ok (.return_, 1) := by decide +kernel
theorem dX6_lengthOf_0 : decode cX6_lengthOf 0 = .ok (.iconst 0, 1) := by decide +kernel
theorem dX6_lengthOf_1 : decode cX6_lengthOf 1 = .ok (.istore_n 2, 1) := by decide +kernel
theorem dX6_lengthOf_2 : decode cX6_lengthOf 2 = .ok (.lload_n 0, 1) := by decide +kernel
theorem dX6_lengthOf_3 : decode cX6_lengthOf 3 = .ok (.lstore_n 3, 1) := by decide +kernel
theorem dX6_lengthOf_4 : decode cX6_lengthOf 4 = .ok (.lload_n 3, 1) := by decide +kernel
theorem dX6_lengthOf_5 : decode cX6_lengthOf 5 = .ok (.lconst 0, 1) := by decide +kernel
theorem dX6_lengthOf_6 : decode cX6_lengthOf 6 = .ok (.lcmp, 1) := by decide +kernel
theorem dX6_lengthOf_7 : decode cX6_lengthOf 7 = .ok (.ifCond .eq 20, 3) := by decide +kernel
theorem dX6_lengthOf_10 : decode cX6_lengthOf 10 = .ok (.iload_n 2, 1) := by decide +kernel
theorem dX6_lengthOf_11 : decode cX6_lengthOf 11 = .ok (.bipush 7, 2) := by decide +kernel
theorem dX6_lengthOf_13 : decode cX6_lengthOf 13 = .ok (.if_icmp .ge 14, 3) := by decide +kernel
theorem dX6_lengthOf_16 : decode cX6_lengthOf 16 = .ok (.iinc 2 1, 3) := by decide +kernel
theorem dX6_lengthOf_19 : decode cX6_lengthOf 19 = .ok (.lload_n 3, 1) := by decide +kernel
theorem dX6_lengthOf_20 : decode cX6_lengthOf 20 = .ok (.bipush 8, 2) := by decide +kernel
theorem dX6_lengthOf_22 : decode cX6_lengthOf 22 = .ok (.lushr, 1) := by decide +kernel
theorem dX6_lengthOf_23 : decode cX6_lengthOf 23 = .ok (.lstore_n 3, 1) := by decide +kernel
theorem dX6_lengthOf_24 : decode cX6_lengthOf 24 = .ok (.goto (-20), 3) := by decide +kernel
theorem dX6_lengthOf_27 : decode cX6_lengthOf 27 = .ok (.iload_n 2, 1) := by decide +kernel
theorem dX6_lengthOf_28 : decode cX6_lengthOf 28 = .ok (.ireturn, 1) := by decide +kernel
theorem dX6_isDigit_0 : decode cX6_isDigit 0 = .ok (.iload_n 0, 1) := by decide +kernel
theorem dX6_isDigit_1 : decode cX6_isDigit 1 = .ok (.bipush 48, 2) := by decide +kernel
theorem dX6_isDigit_3 : decode cX6_isDigit 3 = .ok (.if_icmp .lt 13, 3) := by decide +kernel
theorem dX6_isDigit_6 : decode cX6_isDigit 6 = .ok (.iload_n 0, 1) := by decide +kernel
theorem dX6_isDigit_7 : decode cX6_isDigit 7 = .ok (.bipush 57, 2) := by decide +kernel
theorem dX6_isDigit_9 : decode cX6_isDigit 9 = .ok (.if_icmp .gt 7, 3) := by decide +kernel
theorem dX6_isDigit_12 : decode cX6_isDigit 12 = .ok (.iconst 1, 1) := by decide +kernel
theorem dX6_isDigit_13 : decode cX6_isDigit 13 = .ok (.goto 4, 3) := by decide +kernel
theorem dX6_isDigit_16 : decode cX6_isDigit 16 = .ok (.iconst 0, 1) := by decide +kernel
theorem dX6_isDigit_17 : decode cX6_isDigit 17 = .ok (.ireturn, 1) := by decide +kernel
theorem dX6_isLetter_0 : decode cX6_isLetter 0 = .ok (.iload_n 0, 1) := by decide +kernel
theorem dX6_isLetter_1 : decode cX6_isLetter 1 = .ok (.bipush 97, 2) := by decide +kernel
theorem dX6_isLetter_3 : decode cX6_isLetter 3 = .ok (.if_icmp .lt 13, 3) := by decide +kernel
theorem dX6_isLetter_6 : decode cX6_isLetter 6 = .ok (.iload_n 0, 1) := by decide +kernel
theorem dX6_isLetter_7 : decode cX6_isLetter 7 = .ok (.bipush 122, 2) := by decide +kernel
theorem dX6_isLetter_9 : decode cX6_isLetter 9 = .ok (.if_icmp .gt 7, 3) := by decide +kernel
theorem dX6_isLetter_12 : decode cX6_isLetter 12 = .ok (.iconst 1, 1) := by decide +kernel
theorem dX6_isLetter_13 : decode cX6_isLetter 13 = .ok (.goto 4, 3) := by decide +kernel
theorem dX6_isLetter_16 : decode cX6_isLetter 16 = .ok (.iconst 0, 1) := by decide +kernel
theorem dX6_isLetter_17 : decode cX6_isLetter 17 = .ok (.ireturn, 1) := by decide +kernel
theorem dX6_markOf_0 : decode cX6_markOf 0 = .ok (.iconst 0, 1) := by decide +kernel
theorem dX6_markOf_1 : decode cX6_markOf 1 = .ok (.istore_n 1, 1) := by decide +kernel
theorem dX6_markOf_2 : decode cX6_markOf 2 = .ok (.iload_n 1, 1) := by decide +kernel
theorem dX6_markOf_3 : decode cX6_markOf 3 = .ok (.iconst 4, 1) := by decide +kernel
theorem dX6_markOf_4 : decode cX6_markOf 4 = .ok (.if_icmp .ge 20, 3) := by decide +kernel
theorem dX6_markOf_7 : decode cX6_markOf 7 = .ok (.getstatic 11, 3) := by decide +kernel
theorem dX6_markOf_10 : decode cX6_markOf 10 = .ok (.iload_n 1, 1) := by decide +kernel
theorem dX6_markOf_11 : decode cX6_markOf 11 = .ok (.iaload, 1) := by decide +kernel
theorem dX6_markOf_12 : decode cX6_markOf 12 = .ok (.iload_n 0, 1) := by decide +kernel
theorem dX6_markOf_13 : decode cX6_markOf 13 = .ok (.if_icmp .ne 5, 3) := by decide +kernel
theorem dX6_markOf_16 : decode cX6_markOf 16 = .ok (.iload_n 1, 1) := by decide +kernel
theorem dX6_markOf_17 : decode cX6_markOf 17 = .ok (.ireturn, 1) := by decide +kernel
theorem dX6_markOf_18 : decode cX6_markOf 18 = .ok (.iinc 1 1, 3) := by decide +kernel
theorem dX6_markOf_21 : decode cX6_markOf 21 = .ok (.goto (-19), 3) := by decide +kernel
theorem dX6_markOf_24 : decode cX6_markOf 24 = .ok (.iconst (-1), 1) := by decide +kernel
theorem dX6_markOf_25 : decode cX6_markOf 25 = .ok (.ireturn, 1) := by decide +kernel
theorem dX6_byteOfMark_0 : decode cX6_byteOfMark 0 = .ok (.iload_n 0, 1) := by decide +kernel
theorem dX6_byteOfMark_1 : decode cX6_byteOfMark 1 = .ok (.ifCond .lt 16, 3) := by decide +kernel
theorem dX6_byteOfMark_4 : decode cX6_byteOfMark 4 = .ok (.iload_n 0, 1) := by decide +kernel
theorem dX6_byteOfMark_5 : decode cX6_byteOfMark 5 = .ok (.iconst 4, 1) := by decide +kernel
theorem dX6_byteOfMark_6 : decode cX6_byteOfMark 6 = .ok (.if_icmp .ge 11, 3) := by decide +kernel
theorem dX6_byteOfMark_9 : decode cX6_byteOfMark 9 = .ok (.getstatic 11, 3) := by decide +kernel
theorem dX6_byteOfMark_12 : decode cX6_byteOfMark 12 = .ok (.iload_n 0, 1) := by decide +kernel
theorem dX6_byteOfMark_13 : decode cX6_byteOfMark 13 = .ok (.iaload, 1) := by decide +kernel
theorem dX6_byteOfMark_14 : decode cX6_byteOfMark 14 = .ok (.goto 4, 3) := by decide +kernel
theorem dX6_byteOfMark_17 : decode cX6_byteOfMark 17 = .ok (.iconst 0, 1) := by decide +kernel
theorem dX6_byteOfMark_18 : decode cX6_byteOfMark 18 = .ok (.ireturn, 1) := by decide +kernel
theorem dX6_behindMark_0 : decode cX6_behindMark 0 = .ok (.iload_n 2, 1) := by decide +kernel
theorem dX6_behindMark_1 : decode cX6_behindMark 1 = .ok (.invokestatic 15, 3) := by decide +kernel
theorem dX6_behindMark_4 : decode cX6_behindMark 4 = .ok (.istore_n 3, 1) := by decide +kernel
theorem dX6_behindMark_5 : decode cX6_behindMark 5 = .ok (.lload_n 0, 1) := by decide +kernel
theorem dX6_behindMark_6 : decode cX6_behindMark 6 = .ok (.invokestatic 19, 3) := by decide +kernel
theorem dX6_behindMark_9 : decode cX6_behindMark 9 = .ok (.iconst 1, 1) := by decide +kernel
theorem dX6_behindMark_10 : decode cX6_behindMark 10 = .ok (.isub, 1) := by decide +kernel
theorem dX6_behindMark_11 : decode cX6_behindMark 11 = .ok (.istore 4, 2) := by decide +kernel
theorem dX6_behindMark_13 : decode cX6_behindMark 13 = .ok (.iload 4, 2) := by decide +kernel
theorem dX6_behindMark_15 : decode cX6_behindMark 15 = .ok (.ifCond .lt 29, 3) := by decide +kernel
theorem dX6_behindMark_18 : decode cX6_behindMark 18 = .ok (.lload_n 0, 1) := by decide +kernel
theorem dX6_behindMark_19 : decode cX6_behindMark 19 = .ok (.bipush 8, 2) := by decide +kernel
theorem dX6_behindMark_21 : decode cX6_behindMark 21 = .ok (.iload 4, 2) := by decide +kernel
theorem dX6_behindMark_23 : decode cX6_behindMark 23 = .ok (.imul, 1) := by decide +kernel
theorem dX6_behindMark_24 : decode cX6_behindMark 24 = .ok (.lushr, 1) := by decide +kernel
theorem dX6_behindMark_25 : decode cX6_behindMark 25 = .ok (.ldc2_w 23, 3) := by decide +kernel
theorem dX6_behindMark_28 : decode cX6_behindMark 28 = .ok (.land, 1) := by decide +kernel
theorem dX6_behindMark_29 : decode cX6_behindMark 29 = .ok (.iload_n 3, 1) := by decide +kernel
theorem dX6_behindMark_30 : decode cX6_behindMark 30 = .ok (.i2l, 1) := by decide +kernel
theorem dX6_behindMark_31 : decode cX6_behindMark 31 = .ok (.lcmp, 1) := by decide +kernel
theorem dX6_behindMark_32 : decode cX6_behindMark 32 = .ok (.ifCond .ne 6, 3) := by decide +kernel
theorem dX6_behindMark_35 : decode cX6_behindMark 35 = .ok (.iload 4, 2) := by decide +kernel
theorem dX6_behindMark_37 : decode cX6_behindMark 37 = .ok (.ireturn, 1) := by decide +kernel
theorem dX6_behindMark_38 : decode cX6_behindMark 38 = .ok (.iinc 4 (-1), 3) := by decide +kernel
theorem dX6_behindMark_41 : decode cX6_behindMark 41 = .ok (.goto (-28), 3) := by decide +kernel
theorem dX6_behindMark_44 : decode cX6_behindMark 44 = .ok (.iconst (-1), 1) := by decide +kernel
theorem dX6_behindMark_45 : decode cX6_behindMark 45 = .ok (.ireturn, 1) := by decide +kernel
theorem dX6_isNumber_0 : decode cX6_isNumber 0 = .ok (.lload_n 0, 1) := by decide +kernel
theorem dX6_isNumber_1 : decode cX6_isNumber 1 = .ok (.invokestatic 19, 3) := by decide +kernel
theorem dX6_isNumber_4 : decode cX6_isNumber 4 = .ok (.istore_n 2, 1) := by decide +kernel
theorem dX6_isNumber_5 : decode cX6_isNumber 5 = .ok (.iload_n 2, 1) := by decide +kernel
theorem dX6_isNumber_6 : decode cX6_isNumber 6 = .ok (.iconst 1, 1) := by decide +kernel
theorem dX6_isNumber_7 : decode cX6_isNumber 7 = .ok (.if_icmp .lt 9, 3) := by decide +kernel
theorem dX6_isNumber_10 : decode cX6_isNumber 10 = .ok (.iload_n 2, 1) := by decide +kernel
theorem dX6_isNumber_11 : decode cX6_isNumber 11 = .ok (.bipush 6, 2) := by decide +kernel
theorem dX6_isNumber_13 : decode cX6_isNumber 13 = .ok (.if_icmp .le 5, 3) := by decide +kernel
theorem dX6_isNumber_16 : decode cX6_isNumber 16 = .ok (.iconst 0, 1) := by decide +kernel
theorem dX6_isNumber_17 : decode cX6_isNumber 17 = .ok (.ireturn, 1) := by decide +kernel
theorem dX6_isNumber_18 : decode cX6_isNumber 18 = .ok (.iconst 0, 1) := by decide +kernel
theorem dX6_isNumber_19 : decode cX6_isNumber 19 = .ok (.istore_n 3, 1) := by decide +kernel
theorem dX6_isNumber_20 : decode cX6_isNumber 20 = .ok (.iload_n 3, 1) := by decide +kernel
theorem dX6_isNumber_21 : decode cX6_isNumber 21 = .ok (.iload_n 2, 1) := by decide +kernel
theorem dX6_isNumber_22 : decode cX6_isNumber 22 = .ok (.if_icmp .ge 28, 3) := by decide +kernel
theorem dX6_isNumber_25 : decode cX6_isNumber 25 = .ok (.lload_n 0, 1) := by decide +kernel
theorem dX6_isNumber_26 : decode cX6_isNumber 26 = .ok (.bipush 8, 2) := by decide +kernel
theorem dX6_isNumber_28 : decode cX6_isNumber 28 = .ok (.iload_n 3, 1) := by decide +kernel
theorem dX6_isNumber_29 : decode cX6_isNumber 29 = .ok (.imul, 1) := by decide +kernel
theorem dX6_isNumber_30 : decode cX6_isNumber 30 = .ok (.lushr, 1) := by decide +kernel
theorem dX6_isNumber_31 : decode cX6_isNumber 31 = .ok (.l2i, 1) := by decide +kernel
theorem dX6_isNumber_32 : decode cX6_isNumber 32 = .ok (.sipush 255, 3) := by decide +kernel
theorem dX6_isNumber_35 : decode cX6_isNumber 35 = .ok (.iand, 1) := by decide +kernel
theorem dX6_isNumber_36 : decode cX6_isNumber 36 = .ok (.invokestatic 25, 3) := by decide +kernel
theorem dX6_isNumber_39 : decode cX6_isNumber 39 = .ok (.ifCond .ne 5, 3) := by decide +kernel
theorem dX6_isNumber_42 : decode cX6_isNumber 42 = .ok (.iconst 0, 1) := by decide +kernel
theorem dX6_isNumber_43 : decode cX6_isNumber 43 = .ok (.ireturn, 1) := by decide +kernel
theorem dX6_isNumber_44 : decode cX6_isNumber 44 = .ok (.iinc 3 1, 3) := by decide +kernel
theorem dX6_isNumber_47 : decode cX6_isNumber 47 = .ok (.goto (-27), 3) := by decide +kernel
theorem dX6_isNumber_50 : decode cX6_isNumber 50 = .ok (.iconst 1, 1) := by decide +kernel
theorem dX6_isNumber_51 : decode cX6_isNumber 51 = .ok (.ireturn, 1) := by decide +kernel
theorem dX6_valueOf_0 : decode cX6_valueOf 0 = .ok (.iconst 0, 1) := by decide +kernel
theorem dX6_valueOf_1 : decode cX6_valueOf 1 = .ok (.istore_n 2, 1) := by decide +kernel
theorem dX6_valueOf_2 : decode cX6_valueOf 2 = .ok (.lload_n 0, 1) := by decide +kernel
theorem dX6_valueOf_3 : decode cX6_valueOf 3 = .ok (.invokestatic 19, 3) := by decide +kernel
theorem dX6_valueOf_6 : decode cX6_valueOf 6 = .ok (.iconst 1, 1) := by decide +kernel
theorem dX6_valueOf_7 : decode cX6_valueOf 7 = .ok (.isub, 1) := by decide +kernel
theorem dX6_valueOf_8 : decode cX6_valueOf 8 = .ok (.istore_n 3, 1) := by decide +kernel
theorem dX6_valueOf_9 : decode cX6_valueOf 9 = .ok (.iload_n 3, 1) := by decide +kernel
theorem dX6_valueOf_10 : decode cX6_valueOf 10 = .ok (.ifCond .lt 29, 3) := by decide +kernel
theorem dX6_valueOf_13 : decode cX6_valueOf 13 = .ok (.bipush 10, 2) := by decide +kernel
theorem dX6_valueOf_15 : decode cX6_valueOf 15 = .ok (.iload_n 2, 1) := by decide +kernel
theorem dX6_valueOf_16 : decode cX6_valueOf 16 = .ok (.imul, 1) := by decide +kernel
theorem dX6_valueOf_17 : decode cX6_valueOf 17 = .ok (.lload_n 0, 1) := by decide +kernel
theorem dX6_valueOf_18 : decode cX6_valueOf 18 = .ok (.bipush 8, 2) := by decide +kernel
theorem dX6_valueOf_20 : decode cX6_valueOf 20 = .ok (.iload_n 3, 1) := by decide +kernel
theorem dX6_valueOf_21 : decode cX6_valueOf 21 = .ok (.imul, 1) := by decide +kernel
theorem dX6_valueOf_22 : decode cX6_valueOf 22 = .ok (.lushr, 1) := by decide +kernel
theorem dX6_valueOf_23 : decode cX6_valueOf 23 = .ok (.l2i, 1) := by decide +kernel
theorem dX6_valueOf_24 : decode cX6_valueOf 24 = .ok (.sipush 255, 3) := by decide +kernel
theorem dX6_valueOf_27 : decode cX6_valueOf 27 = .ok (.iand, 1) := by decide +kernel
theorem dX6_valueOf_28 : decode cX6_valueOf 28 = .ok (.iadd, 1) := by decide +kernel
theorem dX6_valueOf_29 : decode cX6_valueOf 29 = .ok (.bipush 48, 2) := by decide +kernel
theorem dX6_valueOf_31 : decode cX6_valueOf 31 = .ok (.isub, 1) := by decide +kernel
theorem dX6_valueOf_32 : decode cX6_valueOf 32 = .ok (.istore_n 2, 1) := by decide +kernel
theorem dX6_valueOf_33 : decode cX6_valueOf 33 = .ok (.iinc 3 (-1), 3) := by decide +kernel
theorem dX6_valueOf_36 : decode cX6_valueOf 36 = .ok (.goto (-27), 3) := by decide +kernel
theorem dX6_valueOf_39 : decode cX6_valueOf 39 = .ok (.iload_n 2, 1) := by decide +kernel
theorem dX6_valueOf_40 : decode cX6_valueOf 40 = .ok (.ireturn, 1) := by decide +kernel
theorem dX6_ofValue_0 : decode cX6_ofValue 0 = .ok (.bipush 48, 2) := by decide +kernel
theorem dX6_ofValue_2 : decode cX6_ofValue 2 = .ok (.iload_n 0, 1) := by decide +kernel
theorem dX6_ofValue_3 : decode cX6_ofValue 3 = .ok (.bipush 10, 2) := by decide +kernel
theorem dX6_ofValue_5 : decode cX6_ofValue 5 = .ok (.irem, 1) := by decide +kernel
theorem dX6_ofValue_6 : decode cX6_ofValue 6 = .ok (.iadd, 1) := by decide +kernel
theorem dX6_ofValue_7 : decode cX6_ofValue 7 = .ok (.i2l, 1) := by decide +kernel
theorem dX6_ofValue_8 : decode cX6_ofValue 8 = .ok (.lstore_n 1, 1) := by decide +kernel
theorem dX6_ofValue_9 : decode cX6_ofValue 9 = .ok (.iload_n 0, 1) := by decide +kernel
theorem dX6_ofValue_10 : decode cX6_ofValue 10 = .ok (.bipush 10, 2) := by decide +kernel
theorem dX6_ofValue_12 : decode cX6_ofValue 12 = .ok (.idiv, 1) := by decide +kernel
theorem dX6_ofValue_13 : decode cX6_ofValue 13 = .ok (.istore_n 3, 1) := by decide +kernel
theorem dX6_ofValue_14 : decode cX6_ofValue 14 = .ok (.iconst 1, 1) := by decide +kernel
theorem dX6_ofValue_15 : decode cX6_ofValue 15 = .ok (.istore 4, 2) := by decide +kernel
theorem dX6_ofValue_17 : decode cX6_ofValue 17 = .ok (.iload 4, 2) := by decide +kernel
theorem dX6_ofValue_19 : decode cX6_ofValue 19 = .ok (.bipush 6, 2) := by decide +kernel
theorem dX6_ofValue_21 : decode cX6_ofValue 21 = .ok (.if_icmp .ge 35, 3) := by decide +kernel
theorem dX6_ofValue_24 : decode cX6_ofValue 24 = .ok (.iload_n 3, 1) := by decide +kernel
theorem dX6_ofValue_25 : decode cX6_ofValue 25 = .ok (.ifCond .eq 31, 3) := by decide +kernel
theorem dX6_ofValue_28 : decode cX6_ofValue 28 = .ok (.lload_n 1, 1) := by decide +kernel
theorem dX6_ofValue_29 : decode cX6_ofValue 29 = .ok (.bipush 48, 2) := by decide +kernel
theorem dX6_ofValue_31 : decode cX6_ofValue 31 = .ok (.iload_n 3, 1) := by decide +kernel
theorem dX6_ofValue_32 : decode cX6_ofValue 32 = .ok (.bipush 10, 2) := by decide +kernel
theorem dX6_ofValue_34 : decode cX6_ofValue 34 = .ok (.irem, 1) := by decide +kernel
theorem dX6_ofValue_35 : decode cX6_ofValue 35 = .ok (.iadd, 1) := by decide +kernel
theorem dX6_ofValue_36 : decode cX6_ofValue 36 = .ok (.i2l, 1) := by decide +kernel
theorem dX6_ofValue_37 : decode cX6_ofValue 37 = .ok (.bipush 8, 2) := by decide +kernel
theorem dX6_ofValue_39 : decode cX6_ofValue 39 = .ok (.iload 4, 2) := by decide +kernel
theorem dX6_ofValue_41 : decode cX6_ofValue 41 = .ok (.imul, 1) := by decide +kernel
theorem dX6_ofValue_42 : decode cX6_ofValue 42 = .ok (.lshl, 1) := by decide +kernel
theorem dX6_ofValue_43 : decode cX6_ofValue 43 = .ok (.lor, 1) := by decide +kernel
theorem dX6_ofValue_44 : decode cX6_ofValue 44 = .ok (.lstore_n 1, 1) := by decide +kernel
theorem dX6_ofValue_45 : decode cX6_ofValue 45 = .ok (.iload_n 3, 1) := by decide +kernel
theorem dX6_ofValue_46 : decode cX6_ofValue 46 = .ok (.bipush 10, 2) := by decide +kernel
theorem dX6_ofValue_48 : decode cX6_ofValue 48 = .ok (.idiv, 1) := by decide +kernel
theorem dX6_ofValue_49 : decode cX6_ofValue 49 = .ok (.istore_n 3, 1) := by decide +kernel
theorem dX6_ofValue_50 : decode cX6_ofValue 50 = .ok (.iinc 4 1, 3) := by decide +kernel
theorem dX6_ofValue_53 : decode cX6_ofValue 53 = .ok (.goto (-36), 3) := by decide +kernel
theorem dX6_ofValue_56 : decode cX6_ofValue 56 = .ok (.lload_n 1, 1) := by decide +kernel
theorem dX6_ofValue_57 : decode cX6_ofValue 57 = .ok (.lreturn, 1) := by decide +kernel
theorem dX6_sortKey_0 : decode cX6_sortKey 0 = .ok (.lload_n 0, 1) := by decide +kernel
theorem dX6_sortKey_1 : decode cX6_sortKey 1 = .ok (.bipush 8, 2) := by decide +kernel
theorem dX6_sortKey_3 : decode cX6_sortKey 3 = .ok (.bipush 7, 2) := by decide +kernel
theorem dX6_sortKey_5 : decode cX6_sortKey 5 = .ok (.lload_n 0, 1) := by decide +kernel
theorem dX6_sortKey_6 : decode cX6_sortKey 6 = .ok (.invokestatic 19, 3) := by decide +kernel
theorem dX6_sortKey_9 : decode cX6_sortKey 9 = .ok (.isub, 1) := by decide +kernel
theorem dX6_sortKey_10 : decode cX6_sortKey 10 = .ok (.imul, 1) := by decide +kernel
theorem dX6_sortKey_11 : decode cX6_sortKey 11 = .ok (.lshl, 1) := by decide +kernel
theorem dX6_sortKey_12 : decode cX6_sortKey 12 = .ok (.lreturn, 1) := by decide +kernel
theorem dX7_init_0 : decode cX7_init 0 = .ok (.aload_n 0, 1) := by decide +kernel
theorem dX7_init_1 : decode cX7_init 1 = .ok (.invokespecial 1, 3) := by decide +kernel
theorem dX7_init_4 : decode cX7_init 4 = .ok (.aload_n 0, 1) := by decide +kernel
theorem dX7_init_5 : decode cX7_init 5 = .ok (.iconst 0, 1) := by decide +kernel
theorem dX7_init_6 : decode cX7_init 6 = .ok (.putfield 7, 3) := by decide +kernel
theorem dX7_init_9 : decode cX7_init 9 = .ok (.aload_n 0, 1) := by decide +kernel
theorem dX7_init_10 : decode cX7_init 10 = .ok (.iconst 0, 1) := by decide +kernel
theorem dX7_init_11 : decode cX7_init 11 = .ok (.putfield 13, 3) := by decide +kernel
theorem dX7_init_14 : decode cX7_init 14 = .ok (.aload_n 0, 1) := by decide +kernel
theorem dX7_init_15 : decode cX7_init 15 = .ok (.bipush 60, 2) := by decide +kernel
theorem dX7_init_17 : decode cX7_init 17 = .ok (.newarray .int, 2) := by decide +kernel
theorem dX7_init_19 : decode cX7_init 19 = .ok (.putfield 16, 3) := by decide +kernel
theorem dX7_init_22 : decode cX7_init 22 = .ok (.aload_n 0, 1) := by decide +kernel
theorem dX7_init_23 : decode cX7_init 23 = .ok (.bipush 60, 2) := by decide +kernel
theorem dX7_init_25 : decode cX7_init 25 = .ok (.newarray .int, 2) := by decide +kernel
theorem dX7_init_27 : decode cX7_init 27 = .ok (.putfield 20, 3) := by decide +kernel
theorem dX7_init_30 : decode cX7_init 30 = .ok (.aload_n 0, 1) := by decide +kernel
theorem dX7_init_31 : decode cX7_init 31 = .ok (.bipush 60, 2) := by decide +kernel
theorem dX7_init_33 : decode cX7_init 33 = .ok (.newarray .int, 2) := by decide +kernel
theorem dX7_init_35 : decode cX7_init 35 = .ok (.putfield 23, 3) := by decide +kernel
theorem dX7_init_38 : decode cX7_init 38 = .ok (.aload_n 0, 1) := by decide +kernel
theorem dX7_init_39 : decode cX7_init 39 = .ok (.bipush 60, 2) := by decide +kernel
theorem dX7_init_41 : decode cX7_init 41 = .ok (.newarray .int, 2) := by decide +kernel
theorem dX7_init_43 : decode cX7_init 43 = .ok (.putfield 26, 3) := by decide +kernel
theorem dX7_init_46 : decode cX7_init 46 = .ok (.return_, 1) := by decide +kernel
theorem dX7_clear_0 : decode cX7_clear 0 = .ok (.aload_n 0, 1) := by decide +kernel
theorem dX7_clear_1 : decode cX7_clear 1 = .ok (.iconst 0, 1) := by decide +kernel
theorem dX7_clear_2 : decode cX7_clear 2 = .ok (.putfield 7, 3) := by decide +kernel
theorem dX7_clear_5 : decode cX7_clear 5 = .ok (.aload_n 0, 1) := by decide +kernel
theorem dX7_clear_6 : decode cX7_clear 6 = .ok (.iconst 0, 1) := by decide +kernel
theorem dX7_clear_7 : decode cX7_clear 7 = .ok (.putfield 13, 3) := by decide +kernel
theorem dX7_clear_10 : decode cX7_clear 10 = .ok (.return_, 1) := by decide +kernel
theorem dX7_start_0 : decode cX7_start 0 = .ok (.aload_n 0, 1) := by decide +kernel
theorem dX7_start_1 : decode cX7_start 1 = .ok (.iconst 1, 1) := by decide +kernel
theorem dX7_start_2 : decode cX7_start 2 = .ok (.putfield 7, 3) := by decide +kernel
theorem dX7_start_5 : decode cX7_start 5 = .ok (.aload_n 0, 1) := by decide +kernel
theorem dX7_start_6 : decode cX7_start 6 = .ok (.iconst 0, 1) := by decide +kernel
theorem dX7_start_7 : decode cX7_start 7 = .ok (.putfield 13, 3) := by decide +kernel
theorem dX7_start_10 : decode cX7_start 10 = .ok (.aload_n 0, 1) := by decide +kernel
theorem dX7_start_11 : decode cX7_start 11 = .ok (.getfield 16, 3) := by decide +kernel
theorem dX7_start_14 : decode cX7_start 14 = .ok (.iconst 0, 1) := by decide +kernel
theorem dX7_start_15 : decode cX7_start 15 = .ok (.iconst 0, 1) := by decide +kernel
theorem dX7_start_16 : decode cX7_start 16 = .ok (.iastore, 1) := by decide +kernel
theorem dX7_start_17 : decode cX7_start 17 = .ok (.aload_n 0, 1) := by decide +kernel
theorem dX7_start_18 : decode cX7_start 18 = .ok (.getfield 20, 3) := by decide +kernel
theorem dX7_start_21 : decode cX7_start 21 = .ok (.iconst 0, 1) := by decide +kernel
theorem dX7_start_22 : decode cX7_start 22 = .ok (.iconst 0, 1) := by decide +kernel
theorem dX7_start_23 : decode cX7_start 23 = .ok (.iastore, 1) := by decide +kernel
theorem dX7_start_24 : decode cX7_start 24 = .ok (.return_, 1) := by decide +kernel
theorem dX7_grow_0 : decode cX7_grow 0 = .ok (.iconst 0, 1) := by decide +kernel
theorem dX7_grow_1 : decode cX7_grow 1 = .ok (.istore_n 3, 1) := by decide +kernel
theorem dX7_grow_2 : decode cX7_grow 2 = .ok (.iconst 0, 1) := by decide +kernel
theorem dX7_grow_3 : decode cX7_grow 3 = .ok (.istore 4, 2) := by decide +kernel
theorem dX7_grow_5 : decode cX7_grow 5 = .ok (.iload 4, 2) := by decide +kernel
theorem dX7_grow_7 : decode cX7_grow 7 = .ok (.aload_n 0, 1) := by decide +kernel
theorem dX7_grow_8 : decode cX7_grow 8 = .ok (.getfield 7, 3) := by decide +kernel
theorem dX7_grow_11 : decode cX7_grow 11 = .ok (.if_icmp .ge 104, 3) := by decide +kernel
theorem dX7_grow_14 : decode cX7_grow 14 = .ok (.aload_n 1, 1) := by decide +kernel
theorem dX7_grow_15 : decode cX7_grow 15 = .ok (.aload_n 0, 1) := by decide +kernel
theorem dX7_grow_16 : decode cX7_grow 16 = .ok (.getfield 20, 3) := by decide +kernel
theorem dX7_grow_19 : decode cX7_grow 19 = .ok (.iload 4, 2) := by decide +kernel
theorem dX7_grow_21 : decode cX7_grow 21 = .ok (.iaload, 1) := by decide +kernel
theorem dX7_grow_22 : decode cX7_grow 22 = .ok (.aaload, 1) := by decide +kernel
theorem dX7_grow_23 : decode cX7_grow 23 = .ok (.astore 5, 2) := by decide +kernel
theorem dX7_grow_25 : decode cX7_grow 25 = .ok (.aload 5, 2) := by decide +kernel
theorem dX7_grow_27 : decode cX7_grow 27 = .ok (.getfield 29, 3) := by decide +kernel
theorem dX7_grow_30 : decode cX7_grow 30 = .ok (.istore 6, 2) := by decide +kernel
theorem dX7_grow_32 : decode cX7_grow 32 = .ok (.iload 6, 2) := by decide +kernel
theorem dX7_grow_34 : decode cX7_grow 34 = .ok (.aload 5, 2) := by decide +kernel
theorem dX7_grow_36 : decode cX7_grow 36 = .ok (.getfield 34, 3) := by decide +kernel
theorem dX7_grow_39 : decode cX7_grow 39 = .ok (.if_icmp .ge 70, 3) := by decide +kernel
theorem dX7_grow_42 : decode cX7_grow 42 = .ok (.iload_n 3, 1) := by decide +kernel
theorem dX7_grow_43 : decode cX7_grow 43 = .ok (.bipush 60, 2) := by decide +kernel
theorem dX7_grow_45 : decode cX7_grow 45 = .ok (.if_icmp .ge 64, 3) := by decide +kernel
theorem dX7_grow_48 : decode cX7_grow 48 = .ok (.aload_n 2, 1) := by decide +kernel
theorem dX7_grow_49 : decode cX7_grow 49 = .ok (.iload 6, 2) := by decide +kernel
theorem dX7_grow_51 : decode cX7_grow 51 = .ok (.iaload, 1) := by decide +kernel
theorem dX7_grow_52 : decode cX7_grow 52 = .ok (.bipush 10, 2) := by decide +kernel
theorem dX7_grow_54 : decode cX7_grow 54 = .ok (.ishr, 1) := by decide +kernel
theorem dX7_grow_55 : decode cX7_grow 55 = .ok (.istore 7, 2) := by decide +kernel
theorem dX7_grow_57 : decode cX7_grow 57 = .ok (.aload_n 1, 1) := by decide +kernel
theorem dX7_grow_58 : decode cX7_grow 58 = .ok (.iload 7, 2) := by decide +kernel
theorem dX7_grow_60 : decode cX7_grow 60 = .ok (.aaload, 1) := by decide +kernel
theorem dX7_grow_61 : decode cX7_grow 61 = .ok (.getfield 39, 3) := by decide +kernel
theorem dX7_grow_64 : decode cX7_grow 64 = .ok (.ifCond .eq 39, 3) := by decide +kernel
theorem dX7_grow_67 : decode cX7_grow 67 = .ok (.aload_n 0, 1) := by decide +kernel
theorem dX7_grow_68 : decode cX7_grow 68 = .ok (.getfield 23, 3) := by decide +kernel
theorem dX7_grow_71 : decode cX7_grow 71 = .ok (.iload_n 3, 1) := by decide +kernel
theorem dX7_grow_72 : decode cX7_grow 72 = .ok (.aload_n 0, 1) := by decide +kernel
theorem dX7_grow_73 : decode cX7_grow 73 = .ok (.getfield 16, 3) := by decide +kernel
theorem dX7_grow_76 : decode cX7_grow 76 = .ok (.iload 4, 2) := by decide +kernel
theorem dX7_grow_78 : decode cX7_grow 78 = .ok (.iaload, 1) := by decide +kernel
theorem dX7_grow_79 : decode cX7_grow 79 = .ok (.bipush 10, 2) := by decide +kernel
theorem dX7_grow_81 : decode cX7_grow 81 = .ok (.ishl, 1) := by decide +kernel
theorem dX7_grow_82 : decode cX7_grow 82 = .ok (.aload_n 2, 1) := by decide +kernel
theorem dX7_grow_83 : decode cX7_grow 83 = .ok (.iload 6, 2) := by decide +kernel
theorem dX7_grow_85 : decode cX7_grow 85 = .ok (.iaload, 1) := by decide +kernel
theorem dX7_grow_86 : decode cX7_grow 86 = .ok (.sipush 1023, 3) := by decide +kernel
theorem dX7_grow_89 : decode cX7_grow 89 = .ok (.iand, 1) := by decide +kernel
theorem dX7_grow_90 : decode cX7_grow 90 = .ok (.ior, 1) := by decide +kernel
theorem dX7_grow_91 : decode cX7_grow 91 = .ok (.iastore, 1) := by decide +kernel
theorem dX7_grow_92 : decode cX7_grow 92 = .ok (.aload_n 0, 1) := by decide +kernel
theorem dX7_grow_93 : decode cX7_grow 93 = .ok (.getfield 26, 3) := by decide +kernel
theorem dX7_grow_96 : decode cX7_grow 96 = .ok (.iload_n 3, 1) := by decide +kernel
theorem dX7_grow_97 : decode cX7_grow 97 = .ok (.iload 7, 2) := by decide +kernel
theorem dX7_grow_99 : decode cX7_grow 99 = .ok (.iastore, 1) := by decide +kernel
theorem dX7_grow_100 : decode cX7_grow 100 = .ok (.iinc 3 1, 3) := by decide +kernel
theorem dX7_grow_103 : decode cX7_grow 103 = .ok (.iinc 6 1, 3) := by decide +kernel
theorem dX7_grow_106 : decode cX7_grow 106 = .ok (.goto (-74), 3) := by decide +kernel
theorem dX7_grow_109 : decode cX7_grow 109 = .ok (.iinc 4 1, 3) := by decide +kernel
theorem dX7_grow_112 : decode cX7_grow 112 = .ok (.goto (-107), 3) := by decide +kernel
theorem dX7_grow_115 : decode cX7_grow 115 = .ok (.aload_n 0, 1) := by decide +kernel
theorem dX7_grow_116 : decode cX7_grow 116 = .ok (.iload_n 3, 1) := by decide +kernel
theorem dX7_grow_117 : decode cX7_grow 117 = .ok (.putfield 7, 3) := by decide +kernel
theorem dX7_grow_120 : decode cX7_grow 120 = .ok (.aload_n 0, 1) := by decide +kernel
theorem dX7_grow_121 : decode cX7_grow 121 = .ok (.dup, 1) := by decide +kernel
theorem dX7_grow_122 : decode cX7_grow 122 = .ok (.getfield 13, 3) := by decide +kernel
theorem dX7_grow_125 : decode cX7_grow 125 = .ok (.iconst 1, 1) := by decide +kernel
theorem dX7_grow_126 : decode cX7_grow 126 = .ok (.iadd, 1) := by decide +kernel
theorem dX7_grow_127 : decode cX7_grow 127 = .ok (.putfield 13, 3) := by decide +kernel
theorem dX7_grow_130 : decode cX7_grow 130 = .ok (.aload_n 0, 1) := by decide +kernel
theorem dX7_grow_131 : decode cX7_grow 131 = .ok (.invokevirtual 43, 3) := by decide +kernel
theorem dX7_grow_134 : decode cX7_grow 134 = .ok (.return_, 1) := by decide +kernel
theorem dX7_takeNext_0 : decode cX7_takeNext 0 = .ok (.aload_n 0, 1) := by decide +kernel
theorem dX7_takeNext_1 : decode cX7_takeNext 1 = .ok (.getfield 16, 3) := by decide +kernel
theorem dX7_takeNext_4 : decode cX7_takeNext 4 = .ok (.astore_n 1, 1) := by decide +kernel
theorem dX7_takeNext_5 : decode cX7_takeNext 5 = .ok (.aload_n 0, 1) := by decide +kernel
theorem dX7_takeNext_6 : decode cX7_takeNext 6 = .ok (.aload_n 0, 1) := by decide +kernel
theorem dX7_takeNext_7 : decode cX7_takeNext 7 = .ok (.getfield 23, 3) := by decide +kernel
theorem dX7_takeNext_10 : decode cX7_takeNext 10 = .ok (.putfield 16, 3) := by decide +kernel
theorem dX7_takeNext_13 : decode cX7_takeNext 13 = .ok (.aload_n 0, 1) := by decide +kernel
theorem dX7_takeNext_14 : decode cX7_takeNext 14 = .ok (.aload_n 1, 1) := by decide +kernel
theorem dX7_takeNext_15 : decode cX7_takeNext 15 = .ok (.putfield 23, 3) := by decide +kernel
theorem dX7_takeNext_18 : decode cX7_takeNext 18 = .ok (.aload_n 0, 1) := by decide +kernel
theorem dX7_takeNext_19 : decode cX7_takeNext 19 = .ok (.getfield 20, 3) := by decide +kernel
theorem dX7_takeNext_22 : decode cX7_takeNext 22 = .ok (.astore_n 2, 1) := by decide +kernel
theorem dX7_takeNext_23 : decode cX7_takeNext 23 = .ok (.aload_n 0, 1) := by decide +kernel
theorem dX7_takeNext_24 : decode cX7_takeNext 24 = .ok (.aload_n 0, 1) := by decide +kernel
theorem dX7_takeNext_25 : decode cX7_takeNext 25 = .ok (.getfield 26, 3) := by decide +kernel
theorem dX7_takeNext_28 : decode cX7_takeNext 28 = .ok (.putfield 20, 3) := by decide +kernel
theorem dX7_takeNext_31 : decode cX7_takeNext 31 = .ok (.aload_n 0, 1) := by decide +kernel
theorem dX7_takeNext_32 : decode cX7_takeNext 32 = .ok (.aload_n 2, 1) := by decide +kernel
theorem dX7_takeNext_33 : decode cX7_takeNext 33 = .ok (.putfield 26, 3) := by decide +kernel
theorem dX7_takeNext_36 : decode cX7_takeNext 36 = .ok (.return_, 1) := by decide +kernel
theorem dX7_write_0 : decode cX7_write 0 = .ok (.aload_n 2, 1) := by decide +kernel
theorem dX7_write_1 : decode cX7_write 1 = .ok (.invokevirtual 46, 3) := by decide +kernel
theorem dX7_write_4 : decode cX7_write 4 = .ok (.aload_n 0, 1) := by decide +kernel
theorem dX7_write_5 : decode cX7_write 5 = .ok (.getfield 13, 3) := by decide +kernel
theorem dX7_write_8 : decode cX7_write 8 = .ok (.iconst 1, 1) := by decide +kernel
theorem dX7_write_9 : decode cX7_write 9 = .ok (.isub, 1) := by decide +kernel
theorem dX7_write_10 : decode cX7_write 10 = .ok (.istore_n 3, 1) := by decide +kernel
theorem dX7_write_11 : decode cX7_write 11 = .ok (.iload_n 3, 1) := by decide +kernel
theorem dX7_write_12 : decode cX7_write 12 = .ok (.ifCond .lt 29, 3) := by decide +kernel
theorem dX7_write_15 : decode cX7_write 15 = .ok (.aload_n 2, 1) := by decide +kernel
theorem dX7_write_16 : decode cX7_write 16 = .ok (.aload_n 0, 1) := by decide +kernel
theorem dX7_write_17 : decode cX7_write 17 = .ok (.getfield 16, 3) := by decide +kernel
theorem dX7_write_20 : decode cX7_write 20 = .ok (.iload_n 1, 1) := by decide +kernel
theorem dX7_write_21 : decode cX7_write 21 = .ok (.iaload, 1) := by decide +kernel
theorem dX7_write_22 : decode cX7_write 22 = .ok (.iload_n 3, 1) := by decide +kernel
theorem dX7_write_23 : decode cX7_write 23 = .ok (.bipush 10, 2) := by decide +kernel
theorem dX7_write_25 : decode cX7_write 25 = .ok (.imul, 1) := by decide +kernel
theorem dX7_write_26 : decode cX7_write 26 = .ok (.ishr, 1) := by decide +kernel
theorem dX7_write_27 : decode cX7_write 27 = .ok (.sipush 1023, 3) := by decide +kernel
theorem dX7_write_30 : decode cX7_write 30 = .ok (.iand, 1) := by decide +kernel
theorem dX7_write_31 : decode cX7_write 31 = .ok (.invokevirtual 51, 3) := by decide +kernel
theorem dX7_write_34 : decode cX7_write 34 = .ok (.pop, 1) := by decide +kernel
theorem dX7_write_35 : decode cX7_write 35 = .ok (.iinc 3 (-1), 3) := by decide +kernel
theorem dX7_write_38 : decode cX7_write 38 = .ok (.goto (-27), 3) := by decide +kernel
theorem dX7_write_41 : decode cX7_write 41 = .ok (.return_, 1) := by decide +kernel
theorem dX8_init_0 : decode cX8_init 0 = .ok (.aload_n 0, 1) := by decide +kernel
theorem dX8_init_1 : decode cX8_init 1 = .ok (.invokespecial 3, 3) := by decide +kernel
theorem dX8_init_4 : decode cX8_init 4 = .ok (.aload_n 0, 1) := by decide +kernel
theorem dX8_init_5 : decode cX8_init 5 = .ok (.new 9, 3) := by decide +kernel
theorem dX8_init_8 : decode cX8_init 8 = .ok (.dup, 1) := by decide +kernel
theorem dX8_init_9 : decode cX8_init 9 = .ok (.invokespecial 11, 3) := by decide +kernel
theorem dX8_init_12 : decode cX8_init 12 = .ok (.putfield 12, 3) := by decide +kernel
theorem dX8_init_15 : decode cX8_init 15 = .ok (.aload_n 0, 1) := by decide +kernel
theorem dX8_init_16 : decode cX8_init 16 = .ok (.new 9, 3) := by decide +kernel
theorem dX8_init_19 : decode cX8_init 19 = .ok (.dup, 1) := by decide +kernel
theorem dX8_init_20 : decode cX8_init 20 = .ok (.invokespecial 11, 3) := by decide +kernel
theorem dX8_init_23 : decode cX8_init 23 = .ok (.putfield 18, 3) := by decide +kernel
theorem dX8_init_26 : decode cX8_init 26 = .ok (.aload_n 0, 1) := by decide +kernel
theorem dX8_init_27 : decode cX8_init 27 = .ok (.aload_n 1, 1) := by decide +kernel
theorem dX8_init_28 : decode cX8_init 28 = .ok (.putfield 21, 3) := by decide +kernel
theorem dX8_init_31 : decode cX8_init 31 = .ok (.return_, 1) := by decide +kernel
theorem dX8_go_0 : decode cX8_go 0 = .ok (.aload_n 2, 1) := by decide +kernel
theorem dX8_go_1 : decode cX8_go 1 = .ok (.invokevirtual 25, 3) := by decide +kernel
theorem dX8_go_4 : decode cX8_go 4 = .ok (.ifCond .le 7, 3) := by decide +kernel
theorem dX8_go_7 : decode cX8_go 7 = .ok (.iconst 1, 1) := by decide +kernel
theorem dX8_go_8 : decode cX8_go 8 = .ok (.goto 4, 3) := by decide +kernel
theorem dX8_go_11 : decode cX8_go 11 = .ok (.iconst 0, 1) := by decide +kernel
theorem dX8_go_12 : decode cX8_go 12 = .ok (.istore_n 3, 1) := by decide +kernel
theorem dX8_go_13 : decode cX8_go 13 = .ok (.aload_n 0, 1) := by decide +kernel
theorem dX8_go_14 : decode cX8_go 14 = .ok (.getfield 18, 3) := by decide +kernel
theorem dX8_go_17 : decode cX8_go 17 = .ok (.aload_n 2, 1) := by decide +kernel
theorem dX8_go_18 : decode cX8_go 18 = .ok (.invokevirtual 29, 3) := by decide +kernel
theorem dX8_go_21 : decode cX8_go 21 = .ok (.iconst 0, 1) := by decide +kernel
theorem dX8_go_22 : decode cX8_go 22 = .ok (.istore 4, 2) := by decide +kernel
theorem dX8_go_24 : decode cX8_go 24 = .ok (.iload 4, 2) := by decide +kernel
theorem dX8_go_26 : decode cX8_go 26 = .ok (.aload_n 1, 1) := by decide +kernel
theorem dX8_go_27 : decode cX8_go 27 = .ok (.getfield 33, 3) := by decide +kernel
theorem dX8_go_30 : decode cX8_go 30 = .ok (.if_icmp .ge 77, 3) := by decide +kernel
theorem dX8_go_33 : decode cX8_go 33 = .ok (.aload_n 1, 1) := by decide +kernel
theorem dX8_go_34 : decode cX8_go 34 = .ok (.iload 4, 2) := by decide +kernel
theorem dX8_go_36 : decode cX8_go 36 = .ok (.invokevirtual 39, 3) := by decide +kernel
theorem dX8_go_39 : decode cX8_go 39 = .ok (.istore 5, 2) := by decide +kernel
theorem dX8_go_41 : decode cX8_go 41 = .ok (.iload_n 3, 1) := by decide +kernel
theorem dX8_go_42 : decode cX8_go 42 = .ok (.ifCond .ne 36, 3) := by decide +kernel
theorem dX8_go_45 : decode cX8_go 45 = .ok (.aload_n 0, 1) := by decide +kernel
theorem dX8_go_46 : decode cX8_go 46 = .ok (.getfield 21, 3) := by decide +kernel
theorem dX8_go_49 : decode cX8_go 49 = .ok (.aload_n 0, 1) := by decide +kernel
theorem dX8_go_50 : decode cX8_go 50 = .ok (.getfield 18, 3) := by decide +kernel
theorem dX8_go_53 : decode cX8_go 53 = .ok (.aload_n 0, 1) := by decide +kernel
theorem dX8_go_54 : decode cX8_go 54 = .ok (.getfield 12, 3) := by decide +kernel
theorem dX8_go_57 : decode cX8_go 57 = .ok (.iload 5, 2) := by decide +kernel
theorem dX8_go_59 : decode cX8_go 59 = .ok (.invokestatic 43, 3) := by decide +kernel
theorem dX8_go_62 : decode cX8_go 62 = .ok (.iload 5, 2) := by decide +kernel
theorem dX8_go_64 : decode cX8_go 64 = .ok (.invokestatic 48, 3) := by decide +kernel
theorem dX8_go_67 : decode cX8_go 67 = .ok (.iload 5, 2) := by decide +kernel
theorem dX8_go_69 : decode cX8_go 69 = .ok (.invokestatic 51, 3) := by decide +kernel
theorem dX8_go_72 : decode cX8_go 72 = .ok (.invokevirtual 54, 3) := by decide +kernel
theorem dX8_go_75 : decode cX8_go 75 = .ok (.ifCond .ne 6, 3) := by decide +kernel
theorem dX8_go_78 : decode cX8_go 78 = .ok (.iload 4, 2) := by decide +kernel
theorem dX8_go_80 : decode cX8_go 80 = .ok (.ireturn, 1) := by decide +kernel
theorem dX8_go_81 : decode cX8_go 81 = .ok (.aload_n 0, 1) := by decide +kernel
theorem dX8_go_82 : decode cX8_go 82 = .ok (.getfield 12, 3) := by decide +kernel
theorem dX8_go_85 : decode cX8_go 85 = .ok (.astore 6, 2) := by decide +kernel
theorem dX8_go_87 : decode cX8_go 87 = .ok (.aload_n 0, 1) := by decide +kernel
theorem dX8_go_88 : decode cX8_go 88 = .ok (.aload_n 0, 1) := by decide +kernel
theorem dX8_go_89 : decode cX8_go 89 = .ok (.getfield 18, 3) := by decide +kernel
theorem dX8_go_92 : decode cX8_go 92 = .ok (.putfield 12, 3) := by decide +kernel
theorem dX8_go_95 : decode cX8_go 95 = .ok (.aload_n 0, 1) := by decide +kernel
theorem dX8_go_96 : decode cX8_go 96 = .ok (.aload 6, 2) := by decide +kernel
theorem dX8_go_98 : decode cX8_go 98 = .ok (.putfield 18, 3) := by decide +kernel
theorem dX8_go_101 : decode cX8_go 101 = .ok (.iinc 4 1, 3) := by decide +kernel
theorem dX8_go_104 : decode cX8_go 104 = .ok (.goto (-80), 3) := by decide +kernel
theorem dX8_go_107 : decode cX8_go 107 = .ok (.iconst (-1), 1) := by decide +kernel
theorem dX8_go_108 : decode cX8_go 108 = .ok (.ireturn, 1) := by decide +kernel
theorem dX9_init_0 : decode cX9_init 0 = .ok (.aload_n 0, 1) := by decide +kernel
theorem dX9_init_1 : decode cX9_init 1 = .ok (.invokespecial 1, 3) := by decide +kernel
theorem dX9_init_4 : decode cX9_init 4 = .ok (.aload_n 0, 1) := by decide +kernel
theorem dX9_init_5 : decode cX9_init 5 = .ok (.bipush 12, 2) := by decide +kernel
theorem dX9_init_7 : decode cX9_init 7 = .ok (.newarray .int, 2) := by decide +kernel
theorem dX9_init_9 : decode cX9_init 9 = .ok (.putfield 9, 3) := by decide +kernel
theorem dX9_init_12 : decode cX9_init 12 = .ok (.aload_n 0, 1) := by decide +kernel
theorem dX9_init_13 : decode cX9_init 13 = .ok (.iconst 0, 1) := by decide +kernel
theorem dX9_init_14 : decode cX9_init 14 = .ok (.putfield 13, 3) := by decide +kernel
theorem dX9_init_17 : decode cX9_init 17 = .ok (.return_, 1) := by decide +kernel
theorem dX9_codeAt_0 : decode cX9_codeAt 0 = .ok (.iload_n 1, 1) := by decide +kernel
theorem dX9_codeAt_1 : decode cX9_codeAt 1 = .ok (.ifCond .lt 20, 3) := by decide +kernel
theorem dX9_codeAt_4 : decode cX9_codeAt 4 = .ok (.iload_n 1, 1) := by decide +kernel
theorem dX9_codeAt_5 : decode cX9_codeAt 5 = .ok (.aload_n 0, 1) := by decide +kernel
theorem dX9_codeAt_6 : decode cX9_codeAt 6 = .ok (.getfield 13, 3) := by decide +kernel
theorem dX9_codeAt_9 : decode cX9_codeAt 9 = .ok (.if_icmp .ge 12, 3) := by decide +kernel
theorem dX9_codeAt_12 : decode cX9_codeAt 12 = .ok (.aload_n 0, 1) := by decide +kernel
theorem dX9_codeAt_13 : decode cX9_codeAt 13 = .ok (.getfield 9, 3) := by decide +kernel
theorem dX9_codeAt_16 : decode cX9_codeAt 16 = .ok (.iload_n 1, 1) := by decide +kernel
theorem dX9_codeAt_17 : decode cX9_codeAt 17 = .ok (.iaload, 1) := by decide +kernel
theorem dX9_codeAt_18 : decode cX9_codeAt 18 = .ok (.goto 4, 3) := by decide +kernel
theorem dX9_codeAt_21 : decode cX9_codeAt 21 = .ok (.iconst 0, 1) := by decide +kernel
theorem dX9_codeAt_22 : decode cX9_codeAt 22 = .ok (.ireturn, 1) := by decide +kernel
theorem dX9_clear_0 : decode cX9_clear 0 = .ok (.aload_n 0, 1) := by decide +kernel
theorem dX9_clear_1 : decode cX9_clear 1 = .ok (.iconst 0, 1) := by decide +kernel
theorem dX9_clear_2 : decode cX9_clear 2 = .ok (.putfield 13, 3) := by decide +kernel
theorem dX9_clear_5 : decode cX9_clear 5 = .ok (.return_, 1) := by decide +kernel
theorem dX9_add_0 : decode cX9_add 0 = .ok (.aload_n 0, 1) := by decide +kernel
theorem dX9_add_1 : decode cX9_add 1 = .ok (.getfield 13, 3) := by decide +kernel
theorem dX9_add_4 : decode cX9_add 4 = .ok (.bipush 12, 2) := by decide +kernel
theorem dX9_add_6 : decode cX9_add 6 = .ok (.if_icmp .lt 5, 3) := by decide +kernel
theorem dX9_add_9 : decode cX9_add 9 = .ok (.iconst 0, 1) := by decide +kernel
theorem dX9_add_10 : decode cX9_add 10 = .ok (.ireturn, 1) := by decide +kernel
theorem dX9_add_11 : decode cX9_add 11 = .ok (.aload_n 0, 1) := by decide +kernel
theorem dX9_add_12 : decode cX9_add 12 = .ok (.getfield 9, 3) := by decide +kernel
theorem dX9_add_15 : decode cX9_add 15 = .ok (.aload_n 0, 1) := by decide +kernel
theorem dX9_add_16 : decode cX9_add 16 = .ok (.getfield 13, 3) := by decide +kernel
theorem dX9_add_19 : decode cX9_add 19 = .ok (.iload_n 1, 1) := by decide +kernel
theorem dX9_add_20 : decode cX9_add 20 = .ok (.iastore, 1) := by decide +kernel
theorem dX9_add_21 : decode cX9_add 21 = .ok (.aload_n 0, 1) := by decide +kernel
theorem dX9_add_22 : decode cX9_add 22 = .ok (.dup, 1) := by decide +kernel
theorem dX9_add_23 : decode cX9_add 23 = .ok (.getfield 13, 3) := by decide +kernel
theorem dX9_add_26 : decode cX9_add 26 = .ok (.iconst 1, 1) := by decide +kernel
theorem dX9_add_27 : decode cX9_add 27 = .ok (.iadd, 1) := by decide +kernel
theorem dX9_add_28 : decode cX9_add 28 = .ok (.putfield 13, 3) := by decide +kernel
theorem dX9_add_31 : decode cX9_add 31 = .ok (.iconst 1, 1) := by decide +kernel
theorem dX9_add_32 : decode cX9_add 32 = .ok (.ireturn, 1) := by decide +kernel
theorem dX9_addAll_0 : decode cX9_addAll 0 = .ok (.aload_n 1, 1) := by decide +kernel
theorem dX9_addAll_1 : decode cX9_addAll 1 = .ok (.getfield 13, 3) := by decide +kernel
theorem dX9_addAll_4 : decode cX9_addAll 4 = .ok (.istore_n 2, 1) := by decide +kernel
theorem dX9_addAll_5 : decode cX9_addAll 5 = .ok (.iconst 0, 1) := by decide +kernel
theorem dX9_addAll_6 : decode cX9_addAll 6 = .ok (.istore_n 3, 1) := by decide +kernel
theorem dX9_addAll_7 : decode cX9_addAll 7 = .ok (.iload_n 3, 1) := by decide +kernel
theorem dX9_addAll_8 : decode cX9_addAll 8 = .ok (.iload_n 2, 1) := by decide +kernel
theorem dX9_addAll_9 : decode cX9_addAll 9 = .ok (.if_icmp .ge 19, 3) := by decide +kernel
theorem dX9_addAll_12 : decode cX9_addAll 12 = .ok (.aload_n 0, 1) := by decide +kernel
theorem dX9_addAll_13 : decode cX9_addAll 13 = .ok (.aload_n 1, 1) := by decide +kernel
theorem dX9_addAll_14 : decode cX9_addAll 14 = .ok (.iload_n 3, 1) := by decide +kernel
theorem dX9_addAll_15 : decode cX9_addAll 15 = .ok (.invokevirtual 17, 3) := by decide +kernel
theorem dX9_addAll_18 : decode cX9_addAll 18 = .ok (.invokevirtual 21, 3) := by decide +kernel
theorem dX9_addAll_21 : decode cX9_addAll 21 = .ok (.pop, 1) := by decide +kernel
theorem dX9_addAll_22 : decode cX9_addAll 22 = .ok (.iinc 3 1, 3) := by decide +kernel
theorem dX9_addAll_25 : decode cX9_addAll 25 = .ok (.goto (-18), 3) := by decide +kernel
theorem dX9_addAll_28 : decode cX9_addAll 28 = .ok (.return_, 1) := by decide +kernel
theorem dX9_become_0 : decode cX9_become 0 = .ok (.aload_n 1, 1) := by decide +kernel
theorem dX9_become_1 : decode cX9_become 1 = .ok (.getfield 9, 3) := by decide +kernel
theorem dX9_become_4 : decode cX9_become 4 = .ok (.iconst 0, 1) := by decide +kernel
theorem dX9_become_5 : decode cX9_become 5 = .ok (.aload_n 0, 1) := by decide +kernel
theorem dX9_become_6 : decode cX9_become 6 = .ok (.getfield 9, 3) := by decide +kernel
theorem dX9_become_9 : decode cX9_become 9 = .ok (.iconst 0, 1) := by decide +kernel
theorem dX9_become_10 : decode cX9_become 10 = .ok (.bipush 12, 2) := by decide +kernel
theorem dX9_become_12 : decode cX9_become 12 = .ok (.invokestatic 25, 3) := by decide +kernel
theorem dX9_become_15 : decode cX9_become 15 = .ok (.aload_n 0, 1) := by decide +kernel
theorem dX9_become_16 : decode cX9_become 16 = .ok (.aload_n 1, 1) := by decide +kernel
theorem dX9_become_17 : decode cX9_become 17 = .ok (.getfield 13, 3) := by decide +kernel
theorem dX9_become_20 : decode cX9_become 20 = .ok (.putfield 13, 3) := by decide +kernel
theorem dX9_become_23 : decode cX9_become 23 = .ok (.return_, 1) := by decide +kernel
theorem dX10_init_0 : decode cX10_init 0 = .ok (.aload_n 0, 1) := by decide +kernel
theorem dX10_init_1 : decode cX10_init 1 = .ok (.invokespecial 3, 3) := by decide +kernel
theorem dX10_init_4 : decode cX10_init 4 = .ok (.aload_n 0, 1) := by decide +kernel
theorem dX10_init_5 : decode cX10_init 5 = .ok (.new 9, 3) := by decide +kernel
theorem dX10_init_8 : decode cX10_init 8 = .ok (.dup, 1) := by decide +kernel
theorem dX10_init_9 : decode cX10_init 9 = .ok (.invokespecial 11, 3) := by decide +kernel
theorem dX10_init_12 : decode cX10_init 12 = .ok (.putfield 12, 3) := by decide +kernel
theorem dX10_init_15 : decode cX10_init 15 = .ok (.aload_n 0, 1) := by decide +kernel
theorem dX10_init_16 : decode cX10_init 16 = .ok (.iconst 0, 1) := by decide +kernel
theorem dX10_init_17 : decode cX10_init 17 = .ok (.putfield 18, 3) := by decide +kernel
theorem dX10_init_20 : decode cX10_init 20 = .ok (.aload_n 0, 1) := by decide +kernel
theorem dX10_init_21 : decode cX10_init 21 = .ok (.iconst (-1), 1) := by decide +kernel
theorem dX10_init_22 : decode cX10_init 22 = .ok (.putfield 22, 3) := by decide +kernel
theorem dX10_init_25 : decode cX10_init 25 = .ok (.aload_n 0, 1) := by decide +kernel
theorem dX10_init_26 : decode cX10_init 26 = .ok (.iconst 3, 1) := by decide +kernel
theorem dX10_init_27 : decode cX10_init 27 = .ok (.newarray .int, 2) := by decide +kernel
theorem dX10_init_29 : decode cX10_init 29 = .ok (.putfield 25, 3) := by decide +kernel
theorem dX10_init_32 : decode cX10_init 32 = .ok (.aload_n 0, 1) := by decide +kernel
theorem dX10_init_33 : decode cX10_init 33 = .ok (.iconst 3, 1) := by decide +kernel
theorem dX10_init_34 : decode cX10_init 34 = .ok (.newarray .int, 2) := by decide +kernel
theorem dX10_init_36 : decode cX10_init 36 = .ok (.putfield 29, 3) := by decide +kernel
theorem dX10_init_39 : decode cX10_init 39 = .ok (.return_, 1) := by decide +kernel
theorem dX10_read_0 : decode cX10_read 0 = .ok (.aload_n 0, 1) := by decide +kernel
theorem dX10_read_1 : decode cX10_read 1 = .ok (.getfield 12, 3) := by decide +kernel
theorem dX10_read_4 : decode cX10_read 4 = .ok (.invokevirtual 32, 3) := by decide +kernel
theorem dX10_read_7 : decode cX10_read 7 = .ok (.aload_n 0, 1) := by decide +kernel
theorem dX10_read_8 : decode cX10_read 8 = .ok (.iconst 0, 1) := by decide +kernel
theorem dX10_read_9 : decode cX10_read 9 = .ok (.putfield 35, 3) := by decide +kernel
theorem dX10_read_12 : decode cX10_read 12 = .ok (.aload_n 0, 1) := by decide +kernel
theorem dX10_read_13 : decode cX10_read 13 = .ok (.iconst 0, 1) := by decide +kernel
theorem dX10_read_14 : decode cX10_read 14 = .ok (.putfield 38, 3) := by decide +kernel
theorem dX10_read_17 : decode cX10_read 17 = .ok (.iconst (-1), 1) := by decide +kernel
theorem dX10_read_18 : decode cX10_read 18 = .ok (.istore_n 3, 1) := by decide +kernel
theorem dX10_read_19 : decode cX10_read 19 = .ok (.iconst 0, 1) := by decide +kernel
theorem dX10_read_20 : decode cX10_read 20 = .ok (.istore 4, 2) := by decide +kernel
theorem dX10_read_22 : decode cX10_read 22 = .ok (.iload 4, 2) := by decide +kernel
theorem dX10_read_24 : decode cX10_read 24 = .ok (.iload_n 2, 1) := by decide +kernel
theorem dX10_read_25 : decode cX10_read 25 = .ok (.if_icmp .ge 116, 3) := by decide +kernel
theorem dX10_read_28 : decode cX10_read 28 = .ok (.iload 4, 2) := by decide +kernel
theorem dX10_read_30 : decode cX10_read 30 = .ok (.aload_n 1, 1) := by decide +kernel
theorem dX10_read_31 : decode cX10_read 31 = .ok (.arraylength, 1) := by decide +kernel
theorem dX10_read_32 : decode cX10_read 32 = .ok (.if_icmp .ge 109, 3) := by decide +kernel
theorem dX10_read_35 : decode cX10_read 35 = .ok (.aload_n 1, 1) := by decide +kernel
theorem dX10_read_36 : decode cX10_read 36 = .ok (.iload 4, 2) := by decide +kernel
theorem dX10_read_38 : decode cX10_read 38 = .ok (.baload, 1) := by decide +kernel
theorem dX10_read_39 : decode cX10_read 39 = .ok (.sipush 255, 3) := by decide +kernel
theorem dX10_read_42 : decode cX10_read 42 = .ok (.iand, 1) := by decide +kernel
theorem dX10_read_43 : decode cX10_read 43 = .ok (.istore 5, 2) := by decide +kernel
theorem dX10_read_45 : decode cX10_read 45 = .ok (.iload 4, 2) := by decide +kernel
theorem dX10_read_47 : decode cX10_read 47 = .ok (.iload_n 3, 1) := by decide +kernel
theorem dX10_read_48 : decode cX10_read 48 = .ok (.if_icmp .le 87, 3) := by decide +kernel
theorem dX10_read_51 : decode cX10_read 51 = .ok (.iload 5, 2) := by decide +kernel
theorem dX10_read_53 : decode cX10_read 53 = .ok (.bipush 32, 2) := by decide +kernel
theorem dX10_read_55 : decode cX10_read 55 = .ok (.if_icmp .eq 80, 3) := by decide +kernel
theorem dX10_read_58 : decode cX10_read 58 = .ok (.iload 5, 2) := by decide +kernel
theorem dX10_read_60 : decode cX10_read 60 = .ok (.bipush 10, 2) := by decide +kernel
theorem dX10_read_62 : decode cX10_read 62 = .ok (.if_icmp .ne 6, 3) := by decide +kernel
theorem dX10_read_65 : decode cX10_read 65 = .ok (.goto 70, 3) := by decide +kernel
theorem dX10_read_68 : decode cX10_read 68 = .ok (.iload 5, 2) := by decide +kernel
theorem dX10_read_70 : decode cX10_read 70 = .ok (.invokestatic 41, 3) := by decide +kernel
theorem dX10_read_73 : decode cX10_read 73 = .ok (.ifCond .eq 13, 3) := by decide +kernel
theorem dX10_read_76 : decode cX10_read 76 = .ok (.aload_n 1, 1) := by decide +kernel
theorem dX10_read_77 : decode cX10_read 77 = .ok (.iload_n 2, 1) := by decide +kernel
theorem dX10_read_78 : decode cX10_read 78 = .ok (.iload 4, 2) := by decide +kernel
theorem dX10_read_80 : decode cX10_read 80 = .ok (.invokestatic 47, 3) := by decide +kernel
theorem dX10_read_83 : decode cX10_read 83 = .ok (.goto 5, 3) := by decide +kernel
theorem dX10_read_86 : decode cX10_read 86 = .ok (.iload 4, 2) := by decide +kernel
theorem dX10_read_88 : decode cX10_read 88 = .ok (.istore_n 3, 1) := by decide +kernel
theorem dX10_read_89 : decode cX10_read 89 = .ok (.aload_n 0, 1) := by decide +kernel
theorem dX10_read_90 : decode cX10_read 90 = .ok (.iload 5, 2) := by decide +kernel
theorem dX10_read_92 : decode cX10_read 92 = .ok (.invokestatic 41, 3) := by decide +kernel
theorem dX10_read_95 : decode cX10_read 95 = .ok (.ifCond .eq 17, 3) := by decide +kernel
theorem dX10_read_98 : decode cX10_read 98 = .ok (.aload_n 0, 1) := by decide +kernel
theorem dX10_read_99 : decode cX10_read 99 = .ok (.aload_n 1, 1) := by decide +kernel
theorem dX10_read_100 : decode cX10_read 100 = .ok (.iload 4, 2) := by decide +kernel
theorem dX10_read_102 : decode cX10_read 102 = .ok (.iload_n 3, 1) := by decide +kernel
theorem dX10_read_103 : decode cX10_read 103 = .ok (.invokestatic 51, 3) := by decide +kernel
theorem dX10_read_106 : decode cX10_read 106 = .ok (.invokevirtual 54, 3) := by decide +kernel
theorem dX10_read_109 : decode cX10_read 109 = .ok (.goto 9, 3) := by decide +kernel
theorem dX10_read_112 : decode cX10_read 112 = .ok (.aload_n 0, 1) := by decide +kernel
theorem dX10_read_113 : decode cX10_read 113 = .ok (.iload 5, 2) := by decide +kernel
theorem dX10_read_115 : decode cX10_read 115 = .ok (.invokevirtual 58, 3) := by decide +kernel
theorem dX10_read_118 : decode cX10_read 118 = .ok (.putfield 18, 3) := by decide +kernel
theorem dX10_read_121 : decode cX10_read 121 = .ok (.aload_n 0, 1) := by decide +kernel
theorem dX10_read_122 : decode cX10_read 122 = .ok (.getfield 18, 3) := by decide +kernel
theorem dX10_read_125 : decode cX10_read 125 = .ok (.ifCond .eq 10, 3) := by decide +kernel
theorem dX10_read_128 : decode cX10_read 128 = .ok (.aload_n 0, 1) := by decide +kernel
theorem dX10_read_129 : decode cX10_read 129 = .ok (.iload 4, 2) := by decide +kernel
theorem dX10_read_131 : decode cX10_read 131 = .ok (.putfield 22, 3) := by decide +kernel
theorem dX10_read_134 : decode cX10_read 134 = .ok (.return_, 1) := by decide +kernel
theorem dX10_read_135 : decode cX10_read 135 = .ok (.iinc 4 1, 3) := by decide +kernel
theorem dX10_read_138 : decode cX10_read 138 = .ok (.goto (-116), 3) := by decide +kernel
theorem dX10_read_141 : decode cX10_read 141 = .ok (.aload_n 0, 1) := by decide +kernel
theorem dX10_read_142 : decode cX10_read 142 = .ok (.aload_n 0, 1) := by decide +kernel
theorem dX10_read_143 : decode cX10_read 143 = .ok (.getfield 35, 3) := by decide +kernel
theorem dX10_read_146 : decode cX10_read 146 = .ok (.ifCond .ne 10, 3) := by decide +kernel
theorem dX10_read_149 : decode cX10_read 149 = .ok (.aload_n 0, 1) := by decide +kernel
theorem dX10_read_150 : decode cX10_read 150 = .ok (.getfield 38, 3) := by decide +kernel
theorem dX10_read_153 : decode cX10_read 153 = .ok (.ifCond .le 7, 3) := by decide +kernel
theorem dX10_read_156 : decode cX10_read 156 = .ok (.iconst 1, 1) := by decide +kernel
theorem dX10_read_157 : decode cX10_read 157 = .ok (.goto 4, 3) := by decide +kernel
theorem dX10_read_160 : decode cX10_read 160 = .ok (.iconst 0, 1) := by decide +kernel
theorem dX10_read_161 : decode cX10_read 161 = .ok (.putfield 18, 3) := by decide +kernel
theorem dX10_read_164 : decode cX10_read 164 = .ok (.aload_n 0, 1) := by decide +kernel
theorem dX10_read_165 : decode cX10_read 165 = .ok (.aload_n 0, 1) := by decide +kernel
theorem dX10_read_166 : decode cX10_read 166 = .ok (.getfield 18, 3) := by decide +kernel
theorem dX10_read_169 : decode cX10_read 169 = .ok (.ifCond .ne 7, 3) := by decide +kernel
theorem dX10_read_172 : decode cX10_read 172 = .ok (.iconst (-1), 1) := by decide +kernel
theorem dX10_read_173 : decode cX10_read 173 = .ok (.goto 4, 3) := by decide +kernel
theorem dX10_read_176 : decode cX10_read 176 = .ok (.iload_n 2, 1) := by decide +kernel
theorem dX10_read_177 : decode cX10_read 177 = .ok (.putfield 22, 3) := by decide +kernel
theorem dX10_read_180 : decode cX10_read 180 = .ok (.return_, 1) := by decide +kernel
theorem dX10_lastLetter_0 : decode cX10_lastLetter 0 = .ok (.iload_n 2, 1) := by decide +kernel
theorem dX10_lastLetter_1 : decode cX10_lastLetter 1 = .ok (.istore_n 3, 1) := by decide +kernel
theorem dX10_lastLetter_2 : decode cX10_lastLetter 2 = .ok (.iload_n 2, 1) := by decide +kernel
theorem dX10_lastLetter_3 : decode cX10_lastLetter 3 = .ok (.iconst 1, 1) := by decide +kernel
theorem dX10_lastLetter_4 : decode cX10_lastLetter 4 = .ok (.iadd, 1) := by decide +kernel
theorem dX10_lastLetter_5 : decode cX10_lastLetter 5 = .ok (.istore 4, 2) := by decide +kernel
theorem dX10_lastLetter_7 : decode cX10_lastLetter 7 = .ok (.iload 4, 2) := by decide +kernel
theorem dX10_lastLetter_9 : decode cX10_lastLetter 9 = .ok (.iload_n 1, 1) := by decide +kernel
theorem dX10_lastLetter_10 : decode cX10_lastLetter 10 = .ok (.if_icmp .ge 33, 3) := by decide +kernel
theorem dX10_lastLetter_13 : decode cX10_lastLetter 13 = .ok (.iload 4, 2) := by decide +kernel
theorem dX10_lastLetter_15 : decode cX10_lastLetter 15 = .ok (.aload_n 0, 1) := by decide +kernel
theorem dX10_lastLetter_16 : decode cX10_lastLetter 16 = .ok (.arraylength, 1) := by decide +kernel
theorem dX10_lastLetter_17 : decode cX10_lastLetter 17 = .ok (.if_icmp .ge 26, 3) := by decide +kernel
theorem dX10_lastLetter_20 : decode cX10_lastLetter 20 = .ok (.aload_n 0, 1) := by decide +kernel
theorem dX10_lastLetter_21 : decode cX10_lastLetter 21 = .ok (.iload 4, 2) := by decide +kernel
theorem dX10_lastLetter_23 : decode cX10_lastLetter 23 = .ok (.baload, 1) := by decide +kernel
theorem dX10_lastLetter_24 : decode cX10_lastLetter 24 = .ok (.sipush 255, 3) := by decide +kernel
theorem dX10_lastLetter_27 : decode cX10_lastLetter 27 = .ok (.iand, 1) := by decide +kernel
theorem dX10_lastLetter_28 : decode cX10_lastLetter 28 = .ok (.invokestatic 41, 3) := by decide +kernel
theorem dX10_lastLetter_31 : decode cX10_lastLetter 31 = .ok (.ifCond .eq 12, 3) := by decide +kernel
theorem dX10_lastLetter_34 : decode cX10_lastLetter 34 = .ok (.iload 4, 2) := by decide +kernel
theorem dX10_lastLetter_36 : decode cX10_lastLetter 36 = .ok (.istore_n 3, 1) := by decide +kernel
theorem dX10_lastLetter_37 : decode cX10_lastLetter 37 = .ok (.iinc 4 1, 3) := by decide +kernel
theorem dX10_lastLetter_40 : decode cX10_lastLetter 40 = .ok (.goto (-33), 3) := by decide +kernel
theorem dX10_lastLetter_43 : decode cX10_lastLetter 43 = .ok (.iload_n 3, 1) := by decide +kernel
theorem dX10_lastLetter_44 : decode cX10_lastLetter 44 = .ok (.ireturn, 1) := by decide +kernel
theorem dX10_wordIn_0 : decode cX10_wordIn 0 = .ok (.iconst 1, 1) := by decide +kernel
theorem dX10_wordIn_1 : decode cX10_wordIn 1 = .ok (.istore_n 3, 1) := by decide +kernel
theorem dX10_wordIn_2 : decode cX10_wordIn 2 = .ok (.iload_n 3, 1) := by decide +kernel
theorem dX10_wordIn_3 : decode cX10_wordIn 3 = .ok (.bipush 15, 2) := by decide +kernel
theorem dX10_wordIn_5 : decode cX10_wordIn 5 = .ok (.if_icmp .gt 24, 3) := by decide +kernel
theorem dX10_wordIn_8 : decode cX10_wordIn 8 = .ok (.iload_n 3, 1) := by decide +kernel
theorem dX10_wordIn_9 : decode cX10_wordIn 9 = .ok (.invokestatic 63, 3) := by decide +kernel
theorem dX10_wordIn_12 : decode cX10_wordIn 12 = .ok (.aload_n 0, 1) := by decide +kernel
theorem dX10_wordIn_13 : decode cX10_wordIn 13 = .ok (.iload_n 1, 1) := by decide +kernel
theorem dX10_wordIn_14 : decode cX10_wordIn 14 = .ok (.iload_n 2, 1) := by decide +kernel
theorem dX10_wordIn_15 : decode cX10_wordIn 15 = .ok (.invokestatic 67, 3) := by decide +kernel
theorem dX10_wordIn_18 : decode cX10_wordIn 18 = .ok (.ifCond .eq 5, 3) := by decide +kernel
theorem dX10_wordIn_21 : decode cX10_wordIn 21 = .ok (.iload_n 3, 1) := by decide +kernel
theorem dX10_wordIn_22 : decode cX10_wordIn 22 = .ok (.ireturn, 1) := by decide +kernel
theorem dX10_wordIn_23 : decode cX10_wordIn 23 = .ok (.iinc 3 1, 3) := by decide +kernel
theorem dX10_wordIn_26 : decode cX10_wordIn 26 = .ok (.goto (-24), 3) := by decide +kernel
theorem dX10_wordIn_29 : decode cX10_wordIn 29 = .ok (.iconst (-1), 1) := by decide +kernel
theorem dX10_wordIn_30 : decode cX10_wordIn 30 = .ok (.ireturn, 1) := by decide +kernel
theorem dX10_spells_0 : decode cX10_spells 0 = .ok (.aload_n 0, 1) := by decide +kernel
theorem dX10_spells_1 : decode cX10_spells 1 = .ok (.invokevirtual 71, 3) := by decide +kernel
theorem dX10_spells_4 : decode cX10_spells 4 = .ok (.iload_n 3, 1) := by decide +kernel
theorem dX10_spells_5 : decode cX10_spells 5 = .ok (.iload_n 2, 1) := by decide +kernel
theorem dX10_spells_6 : decode cX10_spells 6 = .ok (.isub, 1) := by decide +kernel
theorem dX10_spells_7 : decode cX10_spells 7 = .ok (.iconst 1, 1) := by decide +kernel
theorem dX10_spells_8 : decode cX10_spells 8 = .ok (.iadd, 1) := by decide +kernel
theorem dX10_spells_9 : decode cX10_spells 9 = .ok (.if_icmp .eq 5, 3) := by decide +kernel
theorem dX10_spells_12 : decode cX10_spells 12 = .ok (.iconst 0, 1) := by decide +kernel
theorem dX10_spells_13 : decode cX10_spells 13 = .ok (.ireturn, 1) := by decide +kernel
theorem dX10_spells_14 : decode cX10_spells 14 = .ok (.iconst 0, 1) := by decide +kernel
theorem dX10_spells_15 : decode cX10_spells 15 = .ok (.istore 4, 2) := by decide +kernel
theorem dX10_spells_17 : decode cX10_spells 17 = .ok (.iload 4, 2) := by decide +kernel
theorem dX10_spells_19 : decode cX10_spells 19 = .ok (.aload_n 0, 1) := by decide +kernel
theorem dX10_spells_20 : decode cX10_spells 20 = .ok (.invokevirtual 71, 3) := by decide +kernel
theorem dX10_spells_23 : decode cX10_spells 23 = .ok (.if_icmp .ge 26, 3) := by decide +kernel
theorem dX10_spells_26 : decode cX10_spells 26 = .ok (.aload_n 0, 1) := by decide +kernel
theorem dX10_spells_27 : decode cX10_spells 27 = .ok (.iload 4, 2) := by decide +kernel
theorem dX10_spells_29 : decode cX10_spells 29 = .ok (.invokevirtual 77, 3) := by decide +kernel
theorem dX10_spells_32 : decode cX10_spells 32 = .ok (.aload_n 1, 1) := by decide +kernel
theorem dX10_spells_33 : decode cX10_spells 33 = .ok (.iload_n 2, 1) := by decide +kernel
theorem dX10_spells_34 : decode cX10_spells 34 = .ok (.iload 4, 2) := by decide +kernel
theorem dX10_spells_36 : decode cX10_spells 36 = .ok (.iadd, 1) := by decide +kernel
theorem dX10_spells_37 : decode cX10_spells 37 = .ok (.baload, 1) := by decide +kernel
theorem dX10_spells_38 : decode cX10_spells 38 = .ok (.if_icmp .eq 5, 3) := by decide +kernel
theorem dX10_spells_41 : decode cX10_spells 41 = .ok (.iconst 0, 1) := by decide +kernel
theorem dX10_spells_42 : decode cX10_spells 42 = .ok (.ireturn, 1) := by decide +kernel
theorem dX10_spells_43 : decode cX10_spells 43 = .ok (.iinc 4 1, 3) := by decide +kernel
theorem dX10_spells_46 : decode cX10_spells 46 = .ok (.goto (-29), 3) := by decide +kernel
theorem dX10_spells_49 : decode cX10_spells 49 = .ok (.iconst 1, 1) := by decide +kernel
theorem dX10_spells_50 : decode cX10_spells 50 = .ok (.ireturn, 1) := by decide +kernel
theorem dX10_wordOf_0 : decode cX10_wordOf 0 = .ok (.iload_n 0, 1) := by decide +kernel
theorem dX10_wordOf_1 : decode cX10_wordOf 1 = .ok (.tableswitch 113 1 14 #[71, 74, 77, 80, 83, 86, 89, 92, 95, 98, 101, 104, 107, 110], 71) := by decide +kernel
theorem dX10_wordOf_72 : decode cX10_wordOf 72 = .ok (.ldc 81, 2) := by decide +kernel
theorem dX10_wordOf_74 : decode cX10_wordOf 74 = .ok (.areturn, 1) := by decide +kernel
theorem dX10_wordOf_75 : decode cX10_wordOf 75 = .ok (.ldc 83, 2) := by decide +kernel
theorem dX10_wordOf_77 : decode cX10_wordOf 77 = .ok (.areturn, 1) := by decide +kernel
theorem dX10_wordOf_78 : decode cX10_wordOf 78 = .ok (.ldc 85, 2) := by decide +kernel
theorem dX10_wordOf_80 : decode cX10_wordOf 80 = .ok (.areturn, 1) := by decide +kernel
theorem dX10_wordOf_81 : decode cX10_wordOf 81 = .ok (.ldc 87, 2) := by decide +kernel
theorem dX10_wordOf_83 : decode cX10_wordOf 83 = .ok (.areturn, 1) := by decide +kernel
theorem dX10_wordOf_84 : decode cX10_wordOf 84 = .ok (.ldc 89, 2) := by decide +kernel
theorem dX10_wordOf_86 : decode cX10_wordOf 86 = .ok (.areturn, 1) := by decide +kernel
theorem dX10_wordOf_87 : decode cX10_wordOf 87 = .ok (.ldc 91, 2) := by decide +kernel
theorem dX10_wordOf_89 : decode cX10_wordOf 89 = .ok (.areturn, 1) := by decide +kernel
theorem dX10_wordOf_90 : decode cX10_wordOf 90 = .ok (.ldc 93, 2) := by decide +kernel
theorem dX10_wordOf_92 : decode cX10_wordOf 92 = .ok (.areturn, 1) := by decide +kernel
theorem dX10_wordOf_93 : decode cX10_wordOf 93 = .ok (.ldc 95, 2) := by decide +kernel
theorem dX10_wordOf_95 : decode cX10_wordOf 95 = .ok (.areturn, 1) := by decide +kernel
theorem dX10_wordOf_96 : decode cX10_wordOf 96 = .ok (.ldc 97, 2) := by decide +kernel
theorem dX10_wordOf_98 : decode cX10_wordOf 98 = .ok (.areturn, 1) := by decide +kernel
theorem dX10_wordOf_99 : decode cX10_wordOf 99 = .ok (.ldc 99, 2) := by decide +kernel
theorem dX10_wordOf_101 : decode cX10_wordOf 101 = .ok (.areturn, 1) := by decide +kernel
theorem dX10_wordOf_102 : decode cX10_wordOf 102 = .ok (.ldc 101, 2) := by decide +kernel
theorem dX10_wordOf_104 : decode cX10_wordOf 104 = .ok (.areturn, 1) := by decide +kernel
theorem dX10_wordOf_105 : decode cX10_wordOf 105 = .ok (.ldc 103, 2) := by decide +kernel
theorem dX10_wordOf_107 : decode cX10_wordOf 107 = .ok (.areturn, 1) := by decide +kernel
theorem dX10_wordOf_108 : decode cX10_wordOf 108 = .ok (.ldc 105, 2) := by decide +kernel
theorem dX10_wordOf_110 : decode cX10_wordOf 110 = .ok (.areturn, 1) := by decide +kernel
theorem dX10_wordOf_111 : decode cX10_wordOf 111 = .ok (.ldc 107, 2) := by decide +kernel
theorem dX10_wordOf_113 : decode cX10_wordOf 113 = .ok (.areturn, 1) := by decide +kernel
theorem dX10_wordOf_114 : decode cX10_wordOf 114 = .ok (.ldc 109, 2) := by decide +kernel
theorem dX10_wordOf_116 : decode cX10_wordOf 116 = .ok (.areturn, 1) := by decide +kernel
theorem dX10_takeWord_0 : decode cX10_takeWord 0 = .ok (.aload_n 0, 1) := by decide +kernel
theorem dX10_takeWord_1 : decode cX10_takeWord 1 = .ok (.getfield 35, 3) := by decide +kernel
theorem dX10_takeWord_4 : decode cX10_takeWord 4 = .ok (.ifCond .ne 8, 3) := by decide +kernel
theorem dX10_takeWord_7 : decode cX10_takeWord 7 = .ok (.iload_n 1, 1) := by decide +kernel
theorem dX10_takeWord_8 : decode cX10_takeWord 8 = .ok (.iconst (-1), 1) := by decide +kernel
theorem dX10_takeWord_9 : decode cX10_takeWord 9 = .ok (.if_icmp .ne 5, 3) := by decide +kernel
theorem dX10_takeWord_12 : decode cX10_takeWord 12 = .ok (.iconst 1, 1) := by decide +kernel
theorem dX10_takeWord_13 : decode cX10_takeWord 13 = .ok (.ireturn, 1) := by decide +kernel
theorem dX10_takeWord_14 : decode cX10_takeWord 14 = .ok (.iload_n 1, 1) := by decide +kernel
theorem dX10_takeWord_15 : decode cX10_takeWord 15 = .ok (.bipush 15, 2) := by decide +kernel
theorem dX10_takeWord_17 : decode cX10_takeWord 17 = .ok (.if_icmp .ne 10, 3) := by decide +kernel
theorem dX10_takeWord_20 : decode cX10_takeWord 20 = .ok (.aload_n 0, 1) := by decide +kernel
theorem dX10_takeWord_21 : decode cX10_takeWord 21 = .ok (.iconst 5, 1) := by decide +kernel
theorem dX10_takeWord_22 : decode cX10_takeWord 22 = .ok (.putfield 35, 3) := by decide +kernel
theorem dX10_takeWord_25 : decode cX10_takeWord 25 = .ok (.iconst 0, 1) := by decide +kernel
theorem dX10_takeWord_26 : decode cX10_takeWord 26 = .ok (.ireturn, 1) := by decide +kernel
theorem dX10_takeWord_27 : decode cX10_takeWord 27 = .ok (.aload_n 0, 1) := by decide +kernel
theorem dX10_takeWord_28 : decode cX10_takeWord 28 = .ok (.getfield 12, 3) := by decide +kernel
theorem dX10_takeWord_31 : decode cX10_takeWord 31 = .ok (.getfield 111, 3) := by decide +kernel
theorem dX10_takeWord_34 : decode cX10_takeWord 34 = .ok (.bipush 12, 2) := by decide +kernel
theorem dX10_takeWord_36 : decode cX10_takeWord 36 = .ok (.if_icmp .ne 5, 3) := by decide +kernel
theorem dX10_takeWord_39 : decode cX10_takeWord 39 = .ok (.iconst 3, 1) := by decide +kernel
theorem dX10_takeWord_40 : decode cX10_takeWord 40 = .ok (.ireturn, 1) := by decide +kernel
theorem dX10_takeWord_41 : decode cX10_takeWord 41 = .ok (.aload_n 0, 1) := by decide +kernel
theorem dX10_takeWord_42 : decode cX10_takeWord 42 = .ok (.iload_n 1, 1) := by decide +kernel
theorem dX10_takeWord_43 : decode cX10_takeWord 43 = .ok (.putfield 113, 3) := by decide +kernel
theorem dX10_takeWord_46 : decode cX10_takeWord 46 = .ok (.aload_n 0, 1) := by decide +kernel
theorem dX10_takeWord_47 : decode cX10_takeWord 47 = .ok (.iconst 0, 1) := by decide +kernel
theorem dX10_takeWord_48 : decode cX10_takeWord 48 = .ok (.putfield 116, 3) := by decide +kernel
theorem dX10_takeWord_51 : decode cX10_takeWord 51 = .ok (.aload_n 0, 1) := by decide +kernel
theorem dX10_takeWord_52 : decode cX10_takeWord 52 = .ok (.iconst 0, 1) := by decide +kernel
theorem dX10_takeWord_53 : decode cX10_takeWord 53 = .ok (.putfield 119, 3) := by decide +kernel
theorem dX10_takeWord_56 : decode cX10_takeWord 56 = .ok (.aload_n 0, 1) := by decide +kernel
theorem dX10_takeWord_57 : decode cX10_takeWord 57 = .ok (.iload_n 1, 1) := by decide +kernel
theorem dX10_takeWord_58 : decode cX10_takeWord 58 = .ok (.invokestatic 122, 3) := by decide +kernel
theorem dX10_takeWord_61 : decode cX10_takeWord 61 = .ok (.ifCond .ne 7, 3) := by decide +kernel
theorem dX10_takeWord_64 : decode cX10_takeWord 64 = .ok (.iconst 4, 1) := by decide +kernel
theorem dX10_takeWord_65 : decode cX10_takeWord 65 = .ok (.goto 4, 3) := by decide +kernel
theorem dX10_takeWord_68 : decode cX10_takeWord 68 = .ok (.iconst 1, 1) := by decide +kernel
theorem dX10_takeWord_69 : decode cX10_takeWord 69 = .ok (.putfield 35, 3) := by decide +kernel
theorem dX10_takeWord_72 : decode cX10_takeWord 72 = .ok (.iconst 0, 1) := by decide +kernel
theorem dX10_takeWord_73 : decode cX10_takeWord 73 = .ok (.ireturn, 1) := by decide +kernel
theorem dX10_takeSign_0 : decode cX10_takeSign 0 = .ok (.aload_n 0, 1) := by decide +kernel
theorem dX10_takeSign_1 : decode cX10_takeSign 1 = .ok (.getfield 35, 3) := by decide +kernel
theorem dX10_takeSign_4 : decode cX10_takeSign 4 = .ok (.tableswitch 95 0 5 #[40, 62, 62, 68, 74, 89], 40) := by decide +kernel
theorem dX10_takeSign_44 : decode cX10_takeSign 44 = .ok (.iload_n 1, 1) := by decide +kernel
theorem dX10_takeSign_45 : decode cX10_takeSign 45 = .ok (.bipush 125, 2) := by decide +kernel
theorem dX10_takeSign_47 : decode cX10_takeSign 47 = .ok (.if_icmp .ne 17, 3) := by decide +kernel
theorem dX10_takeSign_50 : decode cX10_takeSign 50 = .ok (.aload_n 0, 1) := by decide +kernel
theorem dX10_takeSign_51 : decode cX10_takeSign 51 = .ok (.getfield 38, 3) := by decide +kernel
theorem dX10_takeSign_54 : decode cX10_takeSign 54 = .ok (.ifCond .le 10, 3) := by decide +kernel
theorem dX10_takeSign_57 : decode cX10_takeSign 57 = .ok (.aload_n 0, 1) := by decide +kernel
theorem dX10_takeSign_58 : decode cX10_takeSign 58 = .ok (.invokevirtual 125, 3) := by decide +kernel
theorem dX10_takeSign_61 : decode cX10_takeSign 61 = .ok (.goto 4, 3) := by decide +kernel
theorem dX10_takeSign_64 : decode cX10_takeSign 64 = .ok (.iconst 1, 1) := by decide +kernel
theorem dX10_takeSign_65 : decode cX10_takeSign 65 = .ok (.ireturn, 1) := by decide +kernel
theorem dX10_takeSign_66 : decode cX10_takeSign 66 = .ok (.aload_n 0, 1) := by decide +kernel
theorem dX10_takeSign_67 : decode cX10_takeSign 67 = .ok (.iload_n 1, 1) := by decide +kernel
theorem dX10_takeSign_68 : decode cX10_takeSign 68 = .ok (.invokevirtual 128, 3) := by decide +kernel
theorem dX10_takeSign_71 : decode cX10_takeSign 71 = .ok (.ireturn, 1) := by decide +kernel
theorem dX10_takeSign_72 : decode cX10_takeSign 72 = .ok (.aload_n 0, 1) := by decide +kernel
theorem dX10_takeSign_73 : decode cX10_takeSign 73 = .ok (.iload_n 1, 1) := by decide +kernel
theorem dX10_takeSign_74 : decode cX10_takeSign 74 = .ok (.invokevirtual 131, 3) := by decide +kernel
theorem dX10_takeSign_77 : decode cX10_takeSign 77 = .ok (.ireturn, 1) := by decide +kernel
theorem dX10_takeSign_78 : decode cX10_takeSign 78 = .ok (.iload_n 1, 1) := by decide +kernel
theorem dX10_takeSign_79 : decode cX10_takeSign 79 = .ok (.bipush 59, 2) := by decide +kernel
theorem dX10_takeSign_81 : decode cX10_takeSign 81 = .ok (.if_icmp .ne 10, 3) := by decide +kernel
theorem dX10_takeSign_84 : decode cX10_takeSign 84 = .ok (.aload_n 0, 1) := by decide +kernel
theorem dX10_takeSign_85 : decode cX10_takeSign 85 = .ok (.invokevirtual 134, 3) := by decide +kernel
theorem dX10_takeSign_88 : decode cX10_takeSign 88 = .ok (.goto 4, 3) := by decide +kernel
theorem dX10_takeSign_91 : decode cX10_takeSign 91 = .ok (.iconst 1, 1) := by decide +kernel
theorem dX10_takeSign_92 : decode cX10_takeSign 92 = .ok (.ireturn, 1) := by decide +kernel
theorem dX10_takeSign_93 : decode cX10_takeSign 93 = .ok (.aload_n 0, 1) := by decide +kernel
theorem dX10_takeSign_94 : decode cX10_takeSign 94 = .ok (.iload_n 1, 1) := by decide +kernel
theorem dX10_takeSign_95 : decode cX10_takeSign 95 = .ok (.invokevirtual 137, 3) := by decide +kernel
theorem dX10_takeSign_98 : decode cX10_takeSign 98 = .ok (.ireturn, 1) := by decide +kernel
theorem dX10_takeSign_99 : decode cX10_takeSign 99 = .ok (.iload_n 1, 1) := by decide +kernel
theorem dX10_takeSign_100 : decode cX10_takeSign 100 = .ok (.bipush 123, 2) := by decide +kernel
theorem dX10_takeSign_102 : decode cX10_takeSign 102 = .ok (.if_icmp .ne 10, 3) := by decide +kernel
theorem dX10_takeSign_105 : decode cX10_takeSign 105 = .ok (.aload_n 0, 1) := by decide +kernel
theorem dX10_takeSign_106 : decode cX10_takeSign 106 = .ok (.invokevirtual 140, 3) := by decide +kernel
theorem dX10_takeSign_109 : decode cX10_takeSign 109 = .ok (.goto 4, 3) := by decide +kernel
theorem dX10_takeSign_112 : decode cX10_takeSign 112 = .ok (.iconst 1, 1) := by decide +kernel
theorem dX10_takeSign_113 : decode cX10_takeSign 113 = .ok (.ireturn, 1) := by decide +kernel
theorem dX10_takeColumn_0 : decode cX10_takeColumn 0 = .ok (.iload_n 1, 1) := by decide +kernel
theorem dX10_takeColumn_1 : decode cX10_takeColumn 1 = .ok (.invokestatic 143, 3) := by decide +kernel
theorem dX10_takeColumn_4 : decode cX10_takeColumn 4 = .ok (.ifCond .ne 5, 3) := by decide +kernel
theorem dX10_takeColumn_7 : decode cX10_takeColumn 7 = .ok (.iconst 1, 1) := by decide +kernel
theorem dX10_takeColumn_8 : decode cX10_takeColumn 8 = .ok (.ireturn, 1) := by decide +kernel
theorem dX10_takeColumn_9 : decode cX10_takeColumn 9 = .ok (.iload_n 1, 1) := by decide +kernel
theorem dX10_takeColumn_10 : decode cX10_takeColumn 10 = .ok (.bipush 48, 2) := by decide +kernel
theorem dX10_takeColumn_12 : decode cX10_takeColumn 12 = .ok (.isub, 1) := by decide +kernel
theorem dX10_takeColumn_13 : decode cX10_takeColumn 13 = .ok (.istore_n 2, 1) := by decide +kernel
theorem dX10_takeColumn_14 : decode cX10_takeColumn 14 = .ok (.iload_n 2, 1) := by decide +kernel
theorem dX10_takeColumn_15 : decode cX10_takeColumn 15 = .ok (.iconst 5, 1) := by decide +kernel
theorem dX10_takeColumn_16 : decode cX10_takeColumn 16 = .ok (.if_icmp .le 5, 3) := by decide +kernel
theorem dX10_takeColumn_19 : decode cX10_takeColumn 19 = .ok (.iconst 2, 1) := by decide +kernel
theorem dX10_takeColumn_20 : decode cX10_takeColumn 20 = .ok (.ireturn, 1) := by decide +kernel
theorem dX10_takeColumn_21 : decode cX10_takeColumn 21 = .ok (.aload_n 0, 1) := by decide +kernel
theorem dX10_takeColumn_22 : decode cX10_takeColumn 22 = .ok (.getfield 35, 3) := by decide +kernel
theorem dX10_takeColumn_25 : decode cX10_takeColumn 25 = .ok (.iconst 2, 1) := by decide +kernel
theorem dX10_takeColumn_26 : decode cX10_takeColumn 26 = .ok (.if_icmp .ne 15, 3) := by decide +kernel
theorem dX10_takeColumn_29 : decode cX10_takeColumn 29 = .ok (.aload_n 0, 1) := by decide +kernel
theorem dX10_takeColumn_30 : decode cX10_takeColumn 30 = .ok (.iload_n 2, 1) := by decide +kernel
theorem dX10_takeColumn_31 : decode cX10_takeColumn 31 = .ok (.putfield 119, 3) := by decide +kernel
theorem dX10_takeColumn_34 : decode cX10_takeColumn 34 = .ok (.aload_n 0, 1) := by decide +kernel
theorem dX10_takeColumn_35 : decode cX10_takeColumn 35 = .ok (.iconst 4, 1) := by decide +kernel
theorem dX10_takeColumn_36 : decode cX10_takeColumn 36 = .ok (.putfield 35, 3) := by decide +kernel
theorem dX10_takeColumn_39 : decode cX10_takeColumn 39 = .ok (.iconst 0, 1) := by decide +kernel
theorem dX10_takeColumn_40 : decode cX10_takeColumn 40 = .ok (.ireturn, 1) := by decide +kernel
theorem dX10_takeColumn_41 : decode cX10_takeColumn 41 = .ok (.aload_n 0, 1) := by decide +kernel
theorem dX10_takeColumn_42 : decode cX10_takeColumn 42 = .ok (.iload_n 2, 1) := by decide +kernel
theorem dX10_takeColumn_43 : decode cX10_takeColumn 43 = .ok (.putfield 116, 3) := by decide +kernel
theorem dX10_takeColumn_46 : decode cX10_takeColumn 46 = .ok (.aload_n 0, 1) := by decide +kernel
theorem dX10_takeColumn_47 : decode cX10_takeColumn 47 = .ok (.aload_n 0, 1) := by decide +kernel
theorem dX10_takeColumn_48 : decode cX10_takeColumn 48 = .ok (.invokevirtual 146, 3) := by decide +kernel
theorem dX10_takeColumn_51 : decode cX10_takeColumn 51 = .ok (.putfield 35, 3) := by decide +kernel
theorem dX10_takeColumn_54 : decode cX10_takeColumn 54 = .ok (.iconst 0, 1) := by decide +kernel
theorem dX10_takeColumn_55 : decode cX10_takeColumn 55 = .ok (.ireturn, 1) := by decide +kernel
theorem dX10_dueBehindFirstN_0 : decode cX10_dueBehindFirstN 0 = .ok (.aload_n 0, 1) := by decide +kernel
theorem dX10_dueBehindFirstN_1 : decode cX10_dueBehindFirstN 1 = .ok (.getfield 113, 3) := by decide +kernel
theorem dX10_dueBehindFirstN_4 : decode cX10_dueBehindFirstN 4 = .ok (.invokestatic 122, 3) := by decide +kernel
theorem dX10_dueBehindFirstN_7 : decode cX10_dueBehindFirstN 7 = .ok (.lookupswitch 29 #[(2, 25), (3, 27)], 25) := by decide +kernel
theorem dX10_dueBehindFirstN_32 : decode cX10_dueBehindFirstN 32 = .ok (.iconst 3, 1) := by decide +kernel
theorem dX10_dueBehindFirstN_33 : decode cX10_dueBehindFirstN 33 = .ok (.ireturn, 1) := by decide +kernel
theorem dX10_dueBehindFirstN_34 : decode cX10_dueBehindFirstN 34 = .ok (.iconst 2, 1) := by decide +kernel
theorem dX10_dueBehindFirstN_35 : decode cX10_dueBehindFirstN 35 = .ok (.ireturn, 1) := by decide +kernel
theorem dX10_dueBehindFirstN_36 : decode cX10_dueBehindFirstN 36 = .ok (.iconst 4, 1) := by decide +kernel
theorem dX10_dueBehindFirstN_37 : decode cX10_dueBehindFirstN 37 = .ok (.ireturn, 1) := by decide +kernel
theorem dX10_takeMark_0 : decode cX10_takeMark 0 = .ok (.iload_n 1, 1) := by decide +kernel
theorem dX10_takeMark_1 : decode cX10_takeMark 1 = .ok (.invokestatic 149, 3) := by decide +kernel
theorem dX10_takeMark_4 : decode cX10_takeMark 4 = .ok (.istore_n 2, 1) := by decide +kernel
theorem dX10_takeMark_5 : decode cX10_takeMark 5 = .ok (.iload_n 2, 1) := by decide +kernel
theorem dX10_takeMark_6 : decode cX10_takeMark 6 = .ok (.iconst (-1), 1) := by decide +kernel
theorem dX10_takeMark_7 : decode cX10_takeMark 7 = .ok (.if_icmp .ne 5, 3) := by decide +kernel
theorem dX10_takeMark_10 : decode cX10_takeMark 10 = .ok (.iconst 1, 1) := by decide +kernel
theorem dX10_takeMark_11 : decode cX10_takeMark 11 = .ok (.ireturn, 1) := by decide +kernel
theorem dX10_takeMark_12 : decode cX10_takeMark 12 = .ok (.aload_n 0, 1) := by decide +kernel
theorem dX10_takeMark_13 : decode cX10_takeMark 13 = .ok (.iload_n 2, 1) := by decide +kernel
theorem dX10_takeMark_14 : decode cX10_takeMark 14 = .ok (.putfield 119, 3) := by decide +kernel
theorem dX10_takeMark_17 : decode cX10_takeMark 17 = .ok (.aload_n 0, 1) := by decide +kernel
theorem dX10_takeMark_18 : decode cX10_takeMark 18 = .ok (.iconst 4, 1) := by decide +kernel
theorem dX10_takeMark_19 : decode cX10_takeMark 19 = .ok (.putfield 35, 3) := by decide +kernel
theorem dX10_takeMark_22 : decode cX10_takeMark 22 = .ok (.iconst 0, 1) := by decide +kernel
theorem dX10_takeMark_23 : decode cX10_takeMark 23 = .ok (.ireturn, 1) := by decide +kernel
theorem dX10_endStep_0 : decode cX10_endStep 0 = .ok (.aload_n 0, 1) := by decide +kernel
theorem dX10_endStep_1 : decode cX10_endStep 1 = .ok (.getfield 12, 3) := by decide +kernel
theorem dX10_endStep_4 : decode cX10_endStep 4 = .ok (.aload_n 0, 1) := by decide +kernel
theorem dX10_endStep_5 : decode cX10_endStep 5 = .ok (.getfield 113, 3) := by decide +kernel
theorem dX10_endStep_8 : decode cX10_endStep 8 = .ok (.aload_n 0, 1) := by decide +kernel
theorem dX10_endStep_9 : decode cX10_endStep 9 = .ok (.getfield 116, 3) := by decide +kernel
theorem dX10_endStep_12 : decode cX10_endStep 12 = .ok (.aload_n 0, 1) := by decide +kernel
theorem dX10_endStep_13 : decode cX10_endStep 13 = .ok (.getfield 119, 3) := by decide +kernel
theorem dX10_endStep_16 : decode cX10_endStep 16 = .ok (.invokestatic 152, 3) := by decide +kernel
theorem dX10_endStep_19 : decode cX10_endStep 19 = .ok (.invokevirtual 158, 3) := by decide +kernel
theorem dX10_endStep_22 : decode cX10_endStep 22 = .ok (.pop, 1) := by decide +kernel
theorem dX10_endStep_23 : decode cX10_endStep 23 = .ok (.aload_n 0, 1) := by decide +kernel
theorem dX10_endStep_24 : decode cX10_endStep 24 = .ok (.iconst 0, 1) := by decide +kernel
theorem dX10_endStep_25 : decode cX10_endStep 25 = .ok (.putfield 35, 3) := by decide +kernel
theorem dX10_endStep_28 : decode cX10_endStep 28 = .ok (.iconst 0, 1) := by decide +kernel
theorem dX10_endStep_29 : decode cX10_endStep 29 = .ok (.ireturn, 1) := by decide +kernel
theorem dX10_takeTimes_0 : decode cX10_takeTimes 0 = .ok (.iload_n 1, 1) := by decide +kernel
theorem dX10_takeTimes_1 : decode cX10_takeTimes 1 = .ok (.invokestatic 143, 3) := by decide +kernel
theorem dX10_takeTimes_4 : decode cX10_takeTimes 4 = .ok (.ifCond .ne 5, 3) := by decide +kernel
theorem dX10_takeTimes_7 : decode cX10_takeTimes 7 = .ok (.iconst 1, 1) := by decide +kernel
theorem dX10_takeTimes_8 : decode cX10_takeTimes 8 = .ok (.ireturn, 1) := by decide +kernel
theorem dX10_takeTimes_9 : decode cX10_takeTimes 9 = .ok (.aload_n 0, 1) := by decide +kernel
theorem dX10_takeTimes_10 : decode cX10_takeTimes 10 = .ok (.iload_n 1, 1) := by decide +kernel
theorem dX10_takeTimes_11 : decode cX10_takeTimes 11 = .ok (.bipush 48, 2) := by decide +kernel
theorem dX10_takeTimes_13 : decode cX10_takeTimes 13 = .ok (.isub, 1) := by decide +kernel
theorem dX10_takeTimes_14 : decode cX10_takeTimes 14 = .ok (.putfield 161, 3) := by decide +kernel
theorem dX10_takeTimes_17 : decode cX10_takeTimes 17 = .ok (.aload_n 0, 1) := by decide +kernel
theorem dX10_takeTimes_18 : decode cX10_takeTimes 18 = .ok (.getfield 161, 3) := by decide +kernel
theorem dX10_takeTimes_21 : decode cX10_takeTimes 21 = .ok (.iconst 1, 1) := by decide +kernel
theorem dX10_takeTimes_22 : decode cX10_takeTimes 22 = .ok (.if_icmp .lt 12, 3) := by decide +kernel
theorem dX10_takeTimes_25 : decode cX10_takeTimes 25 = .ok (.aload_n 0, 1) := by decide +kernel
theorem dX10_takeTimes_26 : decode cX10_takeTimes 26 = .ok (.getfield 161, 3) := by decide +kernel
theorem dX10_takeTimes_29 : decode cX10_takeTimes 29 = .ok (.bipush 6, 2) := by decide +kernel
theorem dX10_takeTimes_31 : decode cX10_takeTimes 31 = .ok (.if_icmp .le 5, 3) := by decide +kernel
theorem dX10_takeTimes_34 : decode cX10_takeTimes 34 = .ok (.iconst 2, 1) := by decide +kernel
theorem dX10_takeTimes_35 : decode cX10_takeTimes 35 = .ok (.ireturn, 1) := by decide +kernel
theorem dX10_takeTimes_36 : decode cX10_takeTimes 36 = .ok (.aload_n 0, 1) := by decide +kernel
theorem dX10_takeTimes_37 : decode cX10_takeTimes 37 = .ok (.bipush 6, 2) := by decide +kernel
theorem dX10_takeTimes_39 : decode cX10_takeTimes 39 = .ok (.putfield 35, 3) := by decide +kernel
theorem dX10_takeTimes_42 : decode cX10_takeTimes 42 = .ok (.iconst 0, 1) := by decide +kernel
theorem dX10_takeTimes_43 : decode cX10_takeTimes 43 = .ok (.ireturn, 1) := by decide +kernel
theorem dX10_openRepeat_0 : decode cX10_openRepeat 0 = .ok (.aload_n 0, 1) := by decide +kernel
theorem dX10_openRepeat_1 : decode cX10_openRepeat 1 = .ok (.getfield 38, 3) := by decide +kernel
theorem dX10_openRepeat_4 : decode cX10_openRepeat 4 = .ok (.iconst 3, 1) := by decide +kernel
theorem dX10_openRepeat_5 : decode cX10_openRepeat 5 = .ok (.if_icmp .ne 5, 3) := by decide +kernel
theorem dX10_openRepeat_8 : decode cX10_openRepeat 8 = .ok (.iconst 3, 1) := by decide +kernel
theorem dX10_openRepeat_9 : decode cX10_openRepeat 9 = .ok (.ireturn, 1) := by decide +kernel
theorem dX10_openRepeat_10 : decode cX10_openRepeat 10 = .ok (.aload_n 0, 1) := by decide +kernel
theorem dX10_openRepeat_11 : decode cX10_openRepeat 11 = .ok (.getfield 25, 3) := by decide +kernel
theorem dX10_openRepeat_14 : decode cX10_openRepeat 14 = .ok (.aload_n 0, 1) := by decide +kernel
theorem dX10_openRepeat_15 : decode cX10_openRepeat 15 = .ok (.getfield 38, 3) := by decide +kernel
theorem dX10_openRepeat_18 : decode cX10_openRepeat 18 = .ok (.aload_n 0, 1) := by decide +kernel
theorem dX10_openRepeat_19 : decode cX10_openRepeat 19 = .ok (.getfield 12, 3) := by decide +kernel
theorem dX10_openRepeat_22 : decode cX10_openRepeat 22 = .ok (.getfield 111, 3) := by decide +kernel
theorem dX10_openRepeat_25 : decode cX10_openRepeat 25 = .ok (.iastore, 1) := by decide +kernel
theorem dX10_openRepeat_26 : decode cX10_openRepeat 26 = .ok (.aload_n 0, 1) := by decide +kernel
theorem dX10_openRepeat_27 : decode cX10_openRepeat 27 = .ok (.getfield 29, 3) := by decide +kernel
theorem dX10_openRepeat_30 : decode cX10_openRepeat 30 = .ok (.aload_n 0, 1) := by decide +kernel
theorem dX10_openRepeat_31 : decode cX10_openRepeat 31 = .ok (.getfield 38, 3) := by decide +kernel
theorem dX10_openRepeat_34 : decode cX10_openRepeat 34 = .ok (.aload_n 0, 1) := by decide +kernel
theorem dX10_openRepeat_35 : decode cX10_openRepeat 35 = .ok (.getfield 161, 3) := by decide +kernel
theorem dX10_openRepeat_38 : decode cX10_openRepeat 38 = .ok (.iastore, 1) := by decide +kernel
theorem dX10_openRepeat_39 : decode cX10_openRepeat 39 = .ok (.aload_n 0, 1) := by decide +kernel
theorem dX10_openRepeat_40 : decode cX10_openRepeat 40 = .ok (.dup, 1) := by decide +kernel
theorem dX10_openRepeat_41 : decode cX10_openRepeat 41 = .ok (.getfield 38, 3) := by decide +kernel
theorem dX10_openRepeat_44 : decode cX10_openRepeat 44 = .ok (.iconst 1, 1) := by decide +kernel
theorem dX10_openRepeat_45 : decode cX10_openRepeat 45 = .ok (.iadd, 1) := by decide +kernel
theorem dX10_openRepeat_46 : decode cX10_openRepeat 46 = .ok (.putfield 38, 3) := by decide +kernel
theorem dX10_openRepeat_49 : decode cX10_openRepeat 49 = .ok (.aload_n 0, 1) := by decide +kernel
theorem dX10_openRepeat_50 : decode cX10_openRepeat 50 = .ok (.iconst 0, 1) := by decide +kernel
theorem dX10_openRepeat_51 : decode cX10_openRepeat 51 = .ok (.putfield 35, 3) := by decide +kernel
theorem dX10_openRepeat_54 : decode cX10_openRepeat 54 = .ok (.iconst 0, 1) := by decide +kernel
theorem dX10_openRepeat_55 : decode cX10_openRepeat 55 = .ok (.ireturn, 1) := by decide +kernel
theorem dX10_closeRepeat_0 : decode cX10_closeRepeat 0 = .ok (.aload_n 0, 1) := by decide +kernel
theorem dX10_closeRepeat_1 : decode cX10_closeRepeat 1 = .ok (.dup, 1) := by decide +kernel
theorem dX10_closeRepeat_2 : decode cX10_closeRepeat 2 = .ok (.getfield 38, 3) := by decide +kernel
theorem dX10_closeRepeat_5 : decode cX10_closeRepeat 5 = .ok (.iconst 1, 1) := by decide +kernel
theorem dX10_closeRepeat_6 : decode cX10_closeRepeat 6 = .ok (.isub, 1) := by decide +kernel
theorem dX10_closeRepeat_7 : decode cX10_closeRepeat 7 = .ok (.putfield 38, 3) := by decide +kernel
theorem dX10_closeRepeat_10 : decode cX10_closeRepeat 10 = .ok (.aload_n 0, 1) := by decide +kernel
theorem dX10_closeRepeat_11 : decode cX10_closeRepeat 11 = .ok (.getfield 25, 3) := by decide +kernel
theorem dX10_closeRepeat_14 : decode cX10_closeRepeat 14 = .ok (.aload_n 0, 1) := by decide +kernel
theorem dX10_closeRepeat_15 : decode cX10_closeRepeat 15 = .ok (.getfield 38, 3) := by decide +kernel
theorem dX10_closeRepeat_18 : decode cX10_closeRepeat 18 = .ok (.iaload, 1) := by decide +kernel
theorem dX10_closeRepeat_19 : decode cX10_closeRepeat 19 = .ok (.istore_n 1, 1) := by decide +kernel
theorem dX10_closeRepeat_20 : decode cX10_closeRepeat 20 = .ok (.aload_n 0, 1) := by decide +kernel
theorem dX10_closeRepeat_21 : decode cX10_closeRepeat 21 = .ok (.getfield 12, 3) := by decide +kernel
theorem dX10_closeRepeat_24 : decode cX10_closeRepeat 24 = .ok (.getfield 111, 3) := by decide +kernel
theorem dX10_closeRepeat_27 : decode cX10_closeRepeat 27 = .ok (.iload_n 1, 1) := by decide +kernel
theorem dX10_closeRepeat_28 : decode cX10_closeRepeat 28 = .ok (.isub, 1) := by decide +kernel
theorem dX10_closeRepeat_29 : decode cX10_closeRepeat 29 = .ok (.istore_n 2, 1) := by decide +kernel
theorem dX10_closeRepeat_30 : decode cX10_closeRepeat 30 = .ok (.iload_n 1, 1) := by decide +kernel
theorem dX10_closeRepeat_31 : decode cX10_closeRepeat 31 = .ok (.iload_n 2, 1) := by decide +kernel
theorem dX10_closeRepeat_32 : decode cX10_closeRepeat 32 = .ok (.aload_n 0, 1) := by decide +kernel
theorem dX10_closeRepeat_33 : decode cX10_closeRepeat 33 = .ok (.getfield 29, 3) := by decide +kernel
theorem dX10_closeRepeat_36 : decode cX10_closeRepeat 36 = .ok (.aload_n 0, 1) := by decide +kernel
theorem dX10_closeRepeat_37 : decode cX10_closeRepeat 37 = .ok (.getfield 38, 3) := by decide +kernel
theorem dX10_closeRepeat_40 : decode cX10_closeRepeat 40 = .ok (.iaload, 1) := by decide +kernel
theorem dX10_closeRepeat_41 : decode cX10_closeRepeat 41 = .ok (.imul, 1) := by decide +kernel
theorem dX10_closeRepeat_42 : decode cX10_closeRepeat 42 = .ok (.iadd, 1) := by decide +kernel
theorem dX10_closeRepeat_43 : decode cX10_closeRepeat 43 = .ok (.bipush 12, 2) := by decide +kernel
theorem dX10_closeRepeat_45 : decode cX10_closeRepeat 45 = .ok (.if_icmp .le 5, 3) := by decide +kernel
theorem dX10_closeRepeat_48 : decode cX10_closeRepeat 48 = .ok (.iconst 3, 1) := by decide +kernel
theorem dX10_closeRepeat_49 : decode cX10_closeRepeat 49 = .ok (.ireturn, 1) := by decide +kernel
theorem dX10_closeRepeat_50 : decode cX10_closeRepeat 50 = .ok (.iload_n 2, 1) := by decide +kernel
theorem dX10_closeRepeat_51 : decode cX10_closeRepeat 51 = .ok (.istore_n 3, 1) := by decide +kernel
theorem dX10_closeRepeat_52 : decode cX10_closeRepeat 52 = .ok (.iload_n 3, 1) := by decide +kernel
theorem dX10_closeRepeat_53 : decode cX10_closeRepeat 53 = .ok (.iload_n 2, 1) := by decide +kernel
theorem dX10_closeRepeat_54 : decode cX10_closeRepeat 54 = .ok (.aload_n 0, 1) := by decide +kernel
theorem dX10_closeRepeat_55 : decode cX10_closeRepeat 55 = .ok (.getfield 29, 3) := by decide +kernel
theorem dX10_closeRepeat_58 : decode cX10_closeRepeat 58 = .ok (.aload_n 0, 1) := by decide +kernel
theorem dX10_closeRepeat_59 : decode cX10_closeRepeat 59 = .ok (.getfield 38, 3) := by decide +kernel
theorem dX10_closeRepeat_62 : decode cX10_closeRepeat 62 = .ok (.iaload, 1) := by decide +kernel
theorem dX10_closeRepeat_63 : decode cX10_closeRepeat 63 = .ok (.imul, 1) := by decide +kernel
theorem dX10_closeRepeat_64 : decode cX10_closeRepeat 64 = .ok (.if_icmp .ge 29, 3) := by decide +kernel
theorem dX10_closeRepeat_67 : decode cX10_closeRepeat 67 = .ok (.aload_n 0, 1) := by decide +kernel
theorem dX10_closeRepeat_68 : decode cX10_closeRepeat 68 = .ok (.getfield 12, 3) := by decide +kernel
theorem dX10_closeRepeat_71 : decode cX10_closeRepeat 71 = .ok (.aload_n 0, 1) := by decide +kernel
theorem dX10_closeRepeat_72 : decode cX10_closeRepeat 72 = .ok (.getfield 12, 3) := by decide +kernel
theorem dX10_closeRepeat_75 : decode cX10_closeRepeat 75 = .ok (.iload_n 1, 1) := by decide +kernel
theorem dX10_closeRepeat_76 : decode cX10_closeRepeat 76 = .ok (.iload_n 3, 1) := by decide +kernel
theorem dX10_closeRepeat_77 : decode cX10_closeRepeat 77 = .ok (.iadd, 1) := by decide +kernel
theorem dX10_closeRepeat_78 : decode cX10_closeRepeat 78 = .ok (.iload_n 2, 1) := by decide +kernel
theorem dX10_closeRepeat_79 : decode cX10_closeRepeat 79 = .ok (.isub, 1) := by decide +kernel
theorem dX10_closeRepeat_80 : decode cX10_closeRepeat 80 = .ok (.invokevirtual 164, 3) := by decide +kernel
theorem dX10_closeRepeat_83 : decode cX10_closeRepeat 83 = .ok (.invokevirtual 158, 3) := by decide +kernel
theorem dX10_closeRepeat_86 : decode cX10_closeRepeat 86 = .ok (.pop, 1) := by decide +kernel
theorem dX10_closeRepeat_87 : decode cX10_closeRepeat 87 = .ok (.iinc 3 1, 3) := by decide +kernel
theorem dX10_closeRepeat_90 : decode cX10_closeRepeat 90 = .ok (.goto (-38), 3) := by decide +kernel
theorem dX10_closeRepeat_93 : decode cX10_closeRepeat 93 = .ok (.iconst 0, 1) := by decide +kernel
theorem dX10_closeRepeat_94 : decode cX10_closeRepeat 94 = .ok (.ireturn, 1) := by decide +kernel
theorem dX11_init_0 : decode cX11_init 0 = .ok (.aload_n 0, 1) := by decide +kernel
theorem dX11_init_1 : decode cX11_init 1 = .ok (.invokespecial 1, 3) := by decide +kernel
theorem dX11_init_4 : decode cX11_init 4 = .ok (.aload_n 0, 1) := by decide +kernel
theorem dX11_init_5 : decode cX11_init 5 = .ok (.bipush 8, 2) := by decide +kernel
theorem dX11_init_7 : decode cX11_init 7 = .ok (.anewarray 9, 3) := by decide +kernel
theorem dX11_init_10 : decode cX11_init 10 = .ok (.putfield 11, 3) := by decide +kernel
theorem dX11_init_13 : decode cX11_init 13 = .ok (.aload_n 0, 1) := by decide +kernel
theorem dX11_init_14 : decode cX11_init 14 = .ok (.bipush 8, 2) := by decide +kernel
theorem dX11_init_16 : decode cX11_init 16 = .ok (.anewarray 15, 3) := by decide +kernel
theorem dX11_init_19 : decode cX11_init 19 = .ok (.putfield 17, 3) := by decide +kernel
theorem dX11_init_22 : decode cX11_init 22 = .ok (.aload_n 0, 1) := by decide +kernel
theorem dX11_init_23 : decode cX11_init 23 = .ok (.sipush 1000, 3) := by decide +kernel
theorem dX11_init_26 : decode cX11_init 26 = .ok (.newarray .byte, 2) := by decide +kernel
theorem dX11_init_28 : decode cX11_init 28 = .ok (.putfield 21, 3) := by decide +kernel
theorem dX11_init_31 : decode cX11_init 31 = .ok (.aload_n 0, 1) := by decide +kernel
theorem dX11_init_32 : decode cX11_init 32 = .ok (.iconst 0, 1) := by decide +kernel
theorem dX11_init_33 : decode cX11_init 33 = .ok (.putfield 25, 3) := by decide +kernel
theorem dX11_init_36 : decode cX11_init 36 = .ok (.aload_n 0, 1) := by decide +kernel
theorem dX11_init_37 : decode cX11_init 37 = .ok (.iconst 0, 1) := by decide +kernel
theorem dX11_init_38 : decode cX11_init 38 = .ok (.putfield 29, 3) := by decide +kernel
theorem dX11_init_41 : decode cX11_init 41 = .ok (.aload_n 0, 1) := by decide +kernel
theorem dX11_init_42 : decode cX11_init 42 = .ok (.iconst (-1), 1) := by decide +kernel
theorem dX11_init_43 : decode cX11_init 43 = .ok (.putfield 32, 3) := by decide +kernel
theorem dX11_init_46 : decode cX11_init 46 = .ok (.aload_n 0, 1) := by decide +kernel
theorem dX11_init_47 : decode cX11_init 47 = .ok (.new 35, 3) := by decide +kernel
theorem dX11_init_50 : decode cX11_init 50 = .ok (.dup, 1) := by decide +kernel
theorem dX11_init_51 : decode cX11_init 51 = .ok (.invokespecial 37, 3) := by decide +kernel
theorem dX11_init_54 : decode cX11_init 54 = .ok (.putfield 38, 3) := by decide +kernel
theorem dX11_init_57 : decode cX11_init 57 = .ok (.aload_n 0, 1) := by decide +kernel
theorem dX11_init_58 : decode cX11_init 58 = .ok (.new 42, 3) := by decide +kernel
theorem dX11_init_61 : decode cX11_init 61 = .ok (.dup, 1) := by decide +kernel
theorem dX11_init_62 : decode cX11_init 62 = .ok (.invokespecial 44, 3) := by decide +kernel
theorem dX11_init_65 : decode cX11_init 65 = .ok (.putfield 45, 3) := by decide +kernel
theorem dX11_init_68 : decode cX11_init 68 = .ok (.aload_n 0, 1) := by decide +kernel
theorem dX11_init_69 : decode cX11_init 69 = .ok (.new 49, 3) := by decide +kernel
theorem dX11_init_72 : decode cX11_init 72 = .ok (.dup, 1) := by decide +kernel
theorem dX11_init_73 : decode cX11_init 73 = .ok (.invokespecial 51, 3) := by decide +kernel
theorem dX11_init_76 : decode cX11_init 76 = .ok (.putfield 52, 3) := by decide +kernel
theorem dX11_init_79 : decode cX11_init 79 = .ok (.aload_n 0, 1) := by decide +kernel
theorem dX11_init_80 : decode cX11_init 80 = .ok (.new 56, 3) := by decide +kernel
theorem dX11_init_83 : decode cX11_init 83 = .ok (.dup, 1) := by decide +kernel
theorem dX11_init_84 : decode cX11_init 84 = .ok (.aload_n 0, 1) := by decide +kernel
theorem dX11_init_85 : decode cX11_init 85 = .ok (.getfield 52, 3) := by decide +kernel
theorem dX11_init_88 : decode cX11_init 88 = .ok (.invokespecial 58, 3) := by decide +kernel
theorem dX11_init_91 : decode cX11_init 91 = .ok (.putfield 61, 3) := by decide +kernel
theorem dX11_init_94 : decode cX11_init 94 = .ok (.aload_n 0, 1) := by decide +kernel
theorem dX11_init_95 : decode cX11_init 95 = .ok (.new 56, 3) := by decide +kernel
theorem dX11_init_98 : decode cX11_init 98 = .ok (.dup, 1) := by decide +kernel
theorem dX11_init_99 : decode cX11_init 99 = .ok (.aload_n 0, 1) := by decide +kernel
theorem dX11_init_100 : decode cX11_init 100 = .ok (.getfield 52, 3) := by decide +kernel
theorem dX11_init_103 : decode cX11_init 103 = .ok (.invokespecial 58, 3) := by decide +kernel
theorem dX11_init_106 : decode cX11_init 106 = .ok (.putfield 65, 3) := by decide +kernel
theorem dX11_init_109 : decode cX11_init 109 = .ok (.aload_n 0, 1) := by decide +kernel
theorem dX11_init_110 : decode cX11_init 110 = .ok (.new 9, 3) := by decide +kernel
theorem dX11_init_113 : decode cX11_init 113 = .ok (.dup, 1) := by decide +kernel
theorem dX11_init_114 : decode cX11_init 114 = .ok (.invokespecial 68, 3) := by decide +kernel
theorem dX11_init_117 : decode cX11_init 117 = .ok (.putfield 69, 3) := by decide +kernel
theorem dX11_init_120 : decode cX11_init 120 = .ok (.aload_n 0, 1) := by decide +kernel
theorem dX11_init_121 : decode cX11_init 121 = .ok (.new 15, 3) := by decide +kernel
theorem dX11_init_124 : decode cX11_init 124 = .ok (.dup, 1) := by decide +kernel
theorem dX11_init_125 : decode cX11_init 125 = .ok (.invokespecial 73, 3) := by decide +kernel
theorem dX11_init_128 : decode cX11_init 128 = .ok (.putfield 74, 3) := by decide +kernel
theorem dX11_init_131 : decode cX11_init 131 = .ok (.aload_n 0, 1) := by decide +kernel
theorem dX11_init_132 : decode cX11_init 132 = .ok (.new 78, 3) := by decide +kernel
theorem dX11_init_135 : decode cX11_init 135 = .ok (.dup, 1) := by decide +kernel
theorem dX11_init_136 : decode cX11_init 136 = .ok (.aload_n 0, 1) := by decide +kernel
theorem dX11_init_137 : decode cX11_init 137 = .ok (.getfield 52, 3) := by decide +kernel
theorem dX11_init_140 : decode cX11_init 140 = .ok (.invokespecial 80, 3) := by decide +kernel
theorem dX11_init_143 : decode cX11_init 143 = .ok (.putfield 81, 3) := by decide +kernel
theorem dX11_init_146 : decode cX11_init 146 = .ok (.iconst 0, 1) := by decide +kernel
theorem dX11_init_147 : decode cX11_init 147 = .ok (.istore_n 1, 1) := by decide +kernel
theorem dX11_init_148 : decode cX11_init 148 = .ok (.iload_n 1, 1) := by decide +kernel
theorem dX11_init_149 : decode cX11_init 149 = .ok (.bipush 8, 2) := by decide +kernel
theorem dX11_init_151 : decode cX11_init 151 = .ok (.if_icmp .ge 35, 3) := by decide +kernel
theorem dX11_init_154 : decode cX11_init 154 = .ok (.aload_n 0, 1) := by decide +kernel
theorem dX11_init_155 : decode cX11_init 155 = .ok (.getfield 11, 3) := by decide +kernel
theorem dX11_init_158 : decode cX11_init 158 = .ok (.iload_n 1, 1) := by decide +kernel
theorem dX11_init_159 : decode cX11_init 159 = .ok (.new 9, 3) := by decide +kernel
theorem dX11_init_162 : decode cX11_init 162 = .ok (.dup, 1) := by decide +kernel
theorem dX11_init_163 : decode cX11_init 163 = .ok (.invokespecial 68, 3) := by decide +kernel
theorem dX11_init_166 : decode cX11_init 166 = .ok (.aastore, 1) := by decide +kernel
theorem dX11_init_167 : decode cX11_init 167 = .ok (.aload_n 0, 1) := by decide +kernel
theorem dX11_init_168 : decode cX11_init 168 = .ok (.getfield 17, 3) := by decide +kernel
theorem dX11_init_171 : decode cX11_init 171 = .ok (.iload_n 1, 1) := by decide +kernel
theorem dX11_init_172 : decode cX11_init 172 = .ok (.new 15, 3) := by decide +kernel
theorem dX11_init_175 : decode cX11_init 175 = .ok (.dup, 1) := by decide +kernel
theorem dX11_init_176 : decode cX11_init 176 = .ok (.invokespecial 73, 3) := by decide +kernel
theorem dX11_init_179 : decode cX11_init 179 = .ok (.aastore, 1) := by decide +kernel
theorem dX11_init_180 : decode cX11_init 180 = .ok (.iinc 1 1, 3) := by decide +kernel
theorem dX11_init_183 : decode cX11_init 183 = .ok (.goto (-35), 3) := by decide +kernel
theorem dX11_init_186 : decode cX11_init 186 = .ok (.return_, 1) := by decide +kernel
theorem dX11_feed_0 : decode cX11_feed 0 = .ok (.aload_n 0, 1) := by decide +kernel
theorem dX11_feed_1 : decode cX11_feed 1 = .ok (.getfield 25, 3) := by decide +kernel
theorem dX11_feed_4 : decode cX11_feed 4 = .ok (.sipush 980, 3) := by decide +kernel
theorem dX11_feed_7 : decode cX11_feed 7 = .ok (.if_icmp .le 6, 3) := by decide +kernel
theorem dX11_feed_10 : decode cX11_feed 10 = .ok (.bipush (-3), 2) := by decide +kernel
theorem dX11_feed_12 : decode cX11_feed 12 = .ok (.ireturn, 1) := by decide +kernel
theorem dX11_feed_13 : decode cX11_feed 13 = .ok (.aload_n 0, 1) := by decide +kernel
theorem dX11_feed_14 : decode cX11_feed 14 = .ok (.iload_n 1, 1) := by decide +kernel
theorem dX11_feed_15 : decode cX11_feed 15 = .ok (.invokevirtual 85, 3) := by decide +kernel
theorem dX11_feed_18 : decode cX11_feed 18 = .ok (.aload_n 0, 1) := by decide +kernel
theorem dX11_feed_19 : decode cX11_feed 19 = .ok (.iload_n 2, 1) := by decide +kernel
theorem dX11_feed_20 : decode cX11_feed 20 = .ok (.invokevirtual 85, 3) := by decide +kernel
theorem dX11_feed_23 : decode cX11_feed 23 = .ok (.aload_n 0, 1) := by decide +kernel
theorem dX11_feed_24 : decode cX11_feed 24 = .ok (.iload_n 3, 1) := by decide +kernel
theorem dX11_feed_25 : decode cX11_feed 25 = .ok (.invokevirtual 85, 3) := by decide +kernel
theorem dX11_feed_28 : decode cX11_feed 28 = .ok (.aload_n 0, 1) := by decide +kernel
theorem dX11_feed_29 : decode cX11_feed 29 = .ok (.iload 4, 2) := by decide +kernel
theorem dX11_feed_31 : decode cX11_feed 31 = .ok (.invokevirtual 85, 3) := by decide +kernel
theorem dX11_feed_34 : decode cX11_feed 34 = .ok (.aload_n 0, 1) := by decide +kernel
theorem dX11_feed_35 : decode cX11_feed 35 = .ok (.iload 5, 2) := by decide +kernel
theorem dX11_feed_37 : decode cX11_feed 37 = .ok (.invokevirtual 85, 3) := by decide +kernel
theorem dX11_feed_40 : decode cX11_feed 40 = .ok (.aload_n 0, 1) := by decide +kernel
theorem dX11_feed_41 : decode cX11_feed 41 = .ok (.getfield 25, 3) := by decide +kernel
theorem dX11_feed_44 : decode cX11_feed 44 = .ok (.ireturn, 1) := by decide +kernel
theorem dX11_end_0 : decode cX11_end 0 = .ok (.iload_n 1, 1) := by decide +kernel
theorem dX11_end_1 : decode cX11_end 1 = .ok (.ifCond .lt 11, 3) := by decide +kernel
theorem dX11_end_4 : decode cX11_end 4 = .ok (.iload_n 1, 1) := by decide +kernel
theorem dX11_end_5 : decode cX11_end 5 = .ok (.aload_n 0, 1) := by decide +kernel
theorem dX11_end_6 : decode cX11_end 6 = .ok (.getfield 25, 3) := by decide +kernel
theorem dX11_end_9 : decode cX11_end 9 = .ok (.if_icmp .le 5, 3) := by decide +kernel
theorem dX11_end_12 : decode cX11_end 12 = .ok (.iconst (-1), 1) := by decide +kernel
theorem dX11_end_13 : decode cX11_end 13 = .ok (.ireturn, 1) := by decide +kernel
theorem dX11_end_14 : decode cX11_end 14 = .ok (.aload_n 0, 1) := by decide +kernel
theorem dX11_end_15 : decode cX11_end 15 = .ok (.iload_n 1, 1) := by decide +kernel
theorem dX11_end_16 : decode cX11_end 16 = .ok (.putfield 25, 3) := by decide +kernel
theorem dX11_end_19 : decode cX11_end 19 = .ok (.iload_n 1, 1) := by decide +kernel
theorem dX11_end_20 : decode cX11_end 20 = .ok (.ireturn, 1) := by decide +kernel
theorem dX11_table_0 : decode cX11_table 0 = .ok (.aload_n 0, 1) := by decide +kernel
theorem dX11_table_1 : decode cX11_table 1 = .ok (.invokevirtual 89, 3) := by decide +kernel
theorem dX11_table_4 : decode cX11_table 4 = .ok (.istore_n 2, 1) := by decide +kernel
theorem dX11_table_5 : decode cX11_table 5 = .ok (.iload_n 1, 1) := by decide +kernel
theorem dX11_table_6 : decode cX11_table 6 = .ok (.invokestatic 93, 3) := by decide +kernel
theorem dX11_table_9 : decode cX11_table 9 = .ok (.ifCond .ne 6, 3) := by decide +kernel
theorem dX11_table_12 : decode cX11_table 12 = .ok (.bipush (-2), 2) := by decide +kernel
theorem dX11_table_14 : decode cX11_table 14 = .ok (.ireturn, 1) := by decide +kernel
theorem dX11_table_15 : decode cX11_table 15 = .ok (.aload_n 0, 1) := by decide +kernel
theorem dX11_table_16 : decode cX11_table 16 = .ok (.getfield 38, 3) := by decide +kernel
theorem dX11_table_19 : decode cX11_table 19 = .ok (.aload_n 0, 1) := by decide +kernel
theorem dX11_table_20 : decode cX11_table 20 = .ok (.getfield 21, 3) := by decide +kernel
theorem dX11_table_23 : decode cX11_table 23 = .ok (.iload_n 2, 1) := by decide +kernel
theorem dX11_table_24 : decode cX11_table 24 = .ok (.invokevirtual 97, 3) := by decide +kernel
theorem dX11_table_27 : decode cX11_table 27 = .ok (.aload_n 0, 1) := by decide +kernel
theorem dX11_table_28 : decode cX11_table 28 = .ok (.aload_n 0, 1) := by decide +kernel
theorem dX11_table_29 : decode cX11_table 29 = .ok (.getfield 38, 3) := by decide +kernel
theorem dX11_table_32 : decode cX11_table 32 = .ok (.getfield 101, 3) := by decide +kernel
theorem dX11_table_35 : decode cX11_table 35 = .ok (.putfield 29, 3) := by decide +kernel
theorem dX11_table_38 : decode cX11_table 38 = .ok (.aload_n 0, 1) := by decide +kernel
theorem dX11_table_39 : decode cX11_table 39 = .ok (.aload_n 0, 1) := by decide +kernel
theorem dX11_table_40 : decode cX11_table 40 = .ok (.getfield 38, 3) := by decide +kernel
theorem dX11_table_43 : decode cX11_table 43 = .ok (.getfield 104, 3) := by decide +kernel
theorem dX11_table_46 : decode cX11_table 46 = .ok (.putfield 32, 3) := by decide +kernel
theorem dX11_table_49 : decode cX11_table 49 = .ok (.aload_n 0, 1) := by decide +kernel
theorem dX11_table_50 : decode cX11_table 50 = .ok (.getfield 29, 3) := by decide +kernel
theorem dX11_table_53 : decode cX11_table 53 = .ok (.ifCond .eq 5, 3) := by decide +kernel
theorem dX11_table_56 : decode cX11_table 56 = .ok (.iconst (-1), 1) := by decide +kernel
theorem dX11_table_57 : decode cX11_table 57 = .ok (.ireturn, 1) := by decide +kernel
theorem dX11_table_58 : decode cX11_table 58 = .ok (.aload_n 0, 1) := by decide +kernel
theorem dX11_table_59 : decode cX11_table 59 = .ok (.getfield 11, 3) := by decide +kernel
theorem dX11_table_62 : decode cX11_table 62 = .ok (.iload_n 1, 1) := by decide +kernel
theorem dX11_table_63 : decode cX11_table 63 = .ok (.aaload, 1) := by decide +kernel
theorem dX11_table_64 : decode cX11_table 64 = .ok (.aload_n 0, 1) := by decide +kernel
theorem dX11_table_65 : decode cX11_table 65 = .ok (.getfield 38, 3) := by decide +kernel
theorem dX11_table_68 : decode cX11_table 68 = .ok (.getfield 107, 3) := by decide +kernel
theorem dX11_table_71 : decode cX11_table 71 = .ok (.invokevirtual 110, 3) := by decide +kernel
theorem dX11_table_74 : decode cX11_table 74 = .ok (.aload_n 0, 1) := by decide +kernel
theorem dX11_table_75 : decode cX11_table 75 = .ok (.getfield 11, 3) := by decide +kernel
theorem dX11_table_78 : decode cX11_table 78 = .ok (.iload_n 1, 1) := by decide +kernel
theorem dX11_table_79 : decode cX11_table 79 = .ok (.aaload, 1) := by decide +kernel
theorem dX11_table_80 : decode cX11_table 80 = .ok (.getfield 114, 3) := by decide +kernel
theorem dX11_table_83 : decode cX11_table 83 = .ok (.ireturn, 1) := by decide +kernel
theorem dX11_way_0 : decode cX11_way 0 = .ok (.aload_n 0, 1) := by decide +kernel
theorem dX11_way_1 : decode cX11_way 1 = .ok (.invokevirtual 89, 3) := by decide +kernel
theorem dX11_way_4 : decode cX11_way 4 = .ok (.istore_n 2, 1) := by decide +kernel
theorem dX11_way_5 : decode cX11_way 5 = .ok (.iload_n 1, 1) := by decide +kernel
theorem dX11_way_6 : decode cX11_way 6 = .ok (.invokestatic 93, 3) := by decide +kernel
theorem dX11_way_9 : decode cX11_way 9 = .ok (.ifCond .ne 6, 3) := by decide +kernel
theorem dX11_way_12 : decode cX11_way 12 = .ok (.bipush (-2), 2) := by decide +kernel
theorem dX11_way_14 : decode cX11_way 14 = .ok (.ireturn, 1) := by decide +kernel
theorem dX11_way_15 : decode cX11_way 15 = .ok (.aload_n 0, 1) := by decide +kernel
theorem dX11_way_16 : decode cX11_way 16 = .ok (.getfield 45, 3) := by decide +kernel
theorem dX11_way_19 : decode cX11_way 19 = .ok (.aload_n 0, 1) := by decide +kernel
theorem dX11_way_20 : decode cX11_way 20 = .ok (.getfield 21, 3) := by decide +kernel
theorem dX11_way_23 : decode cX11_way 23 = .ok (.iload_n 2, 1) := by decide +kernel
theorem dX11_way_24 : decode cX11_way 24 = .ok (.invokevirtual 117, 3) := by decide +kernel
theorem dX11_way_27 : decode cX11_way 27 = .ok (.aload_n 0, 1) := by decide +kernel
theorem dX11_way_28 : decode cX11_way 28 = .ok (.aload_n 0, 1) := by decide +kernel
theorem dX11_way_29 : decode cX11_way 29 = .ok (.getfield 45, 3) := by decide +kernel
theorem dX11_way_32 : decode cX11_way 32 = .ok (.getfield 118, 3) := by decide +kernel
theorem dX11_way_35 : decode cX11_way 35 = .ok (.putfield 29, 3) := by decide +kernel
theorem dX11_way_38 : decode cX11_way 38 = .ok (.aload_n 0, 1) := by decide +kernel
theorem dX11_way_39 : decode cX11_way 39 = .ok (.aload_n 0, 1) := by decide +kernel
theorem dX11_way_40 : decode cX11_way 40 = .ok (.getfield 45, 3) := by decide +kernel
theorem dX11_way_43 : decode cX11_way 43 = .ok (.getfield 119, 3) := by decide +kernel
theorem dX11_way_46 : decode cX11_way 46 = .ok (.putfield 32, 3) := by decide +kernel
theorem dX11_way_49 : decode cX11_way 49 = .ok (.aload_n 0, 1) := by decide +kernel
theorem dX11_way_50 : decode cX11_way 50 = .ok (.getfield 29, 3) := by decide +kernel
theorem dX11_way_53 : decode cX11_way 53 = .ok (.ifCond .eq 5, 3) := by decide +kernel
theorem dX11_way_56 : decode cX11_way 56 = .ok (.iconst (-1), 1) := by decide +kernel
theorem dX11_way_57 : decode cX11_way 57 = .ok (.ireturn, 1) := by decide +kernel
theorem dX11_way_58 : decode cX11_way 58 = .ok (.aload_n 0, 1) := by decide +kernel
theorem dX11_way_59 : decode cX11_way 59 = .ok (.getfield 17, 3) := by decide +kernel
theorem dX11_way_62 : decode cX11_way 62 = .ok (.iload_n 1, 1) := by decide +kernel
theorem dX11_way_63 : decode cX11_way 63 = .ok (.aaload, 1) := by decide +kernel
theorem dX11_way_64 : decode cX11_way 64 = .ok (.aload_n 0, 1) := by decide +kernel
theorem dX11_way_65 : decode cX11_way 65 = .ok (.getfield 45, 3) := by decide +kernel
theorem dX11_way_68 : decode cX11_way 68 = .ok (.getfield 120, 3) := by decide +kernel
theorem dX11_way_71 : decode cX11_way 71 = .ok (.invokevirtual 122, 3) := by decide +kernel
theorem dX11_way_74 : decode cX11_way 74 = .ok (.aload_n 0, 1) := by decide +kernel
theorem dX11_way_75 : decode cX11_way 75 = .ok (.getfield 17, 3) := by decide +kernel
theorem dX11_way_78 : decode cX11_way 78 = .ok (.iload_n 1, 1) := by decide +kernel
theorem dX11_way_79 : decode cX11_way 79 = .ok (.aaload, 1) := by decide +kernel
theorem dX11_way_80 : decode cX11_way 80 = .ok (.getfield 125, 3) := by decide +kernel
theorem dX11_way_83 : decode cX11_way 83 = .ok (.ireturn, 1) := by decide +kernel
theorem dX11_fault_0 : decode cX11_fault 0 = .ok (.iload_n 1, 1) := by decide +kernel
theorem dX11_fault_1 : decode cX11_fault 1 = .ok (.ifCond .ne 8, 3) := by decide +kernel
theorem dX11_fault_4 : decode cX11_fault 4 = .ok (.aload_n 0, 1) := by decide +kernel
theorem dX11_fault_5 : decode cX11_fault 5 = .ok (.getfield 29, 3) := by decide +kernel
theorem dX11_fault_8 : decode cX11_fault 8 = .ok (.ireturn, 1) := by decide +kernel
theorem dX11_fault_9 : decode cX11_fault 9 = .ok (.iload_n 1, 1) := by decide +kernel
theorem dX11_fault_10 : decode cX11_fault 10 = .ok (.iconst 1, 1) := by decide +kernel
theorem dX11_fault_11 : decode cX11_fault 11 = .ok (.if_icmp .ne 10, 3) := by decide +kernel
theorem dX11_fault_14 : decode cX11_fault 14 = .ok (.aload_n 0, 1) := by decide +kernel
theorem dX11_fault_15 : decode cX11_fault 15 = .ok (.getfield 32, 3) := by decide +kernel
theorem dX11_fault_18 : decode cX11_fault 18 = .ok (.goto 4, 3) := by decide +kernel
theorem dX11_fault_21 : decode cX11_fault 21 = .ok (.iconst (-1), 1) := by decide +kernel
theorem dX11_fault_22 : decode cX11_fault 22 = .ok (.ireturn, 1) := by decide +kernel
theorem dX11_size_0 : decode cX11_size 0 = .ok (.iload_n 1, 1) := by decide +kernel
theorem dX11_size_1 : decode cX11_size 1 = .ok (.invokestatic 93, 3) := by decide +kernel
theorem dX11_size_4 : decode cX11_size 4 = .ok (.ifCond .ne 5, 3) := by decide +kernel
theorem dX11_size_7 : decode cX11_size 7 = .ok (.iconst (-1), 1) := by decide +kernel
theorem dX11_size_8 : decode cX11_size 8 = .ok (.ireturn, 1) := by decide +kernel
theorem dX11_size_9 : decode cX11_size 9 = .ok (.iload_n 2, 1) := by decide +kernel
theorem dX11_size_10 : decode cX11_size 10 = .ok (.tableswitch 84 0 4 #[34, 44, 54, 64, 74], 34) := by decide +kernel
theorem dX11_size_44 : decode cX11_size 44 = .ok (.aload_n 0, 1) := by decide +kernel
theorem dX11_size_45 : decode cX11_size 45 = .ok (.getfield 11, 3) := by decide +kernel
theorem dX11_size_48 : decode cX11_size 48 = .ok (.iload_n 1, 1) := by decide +kernel
theorem dX11_size_49 : decode cX11_size 49 = .ok (.aaload, 1) := by decide +kernel
theorem dX11_size_50 : decode cX11_size 50 = .ok (.getfield 114, 3) := by decide +kernel
theorem dX11_size_53 : decode cX11_size 53 = .ok (.ireturn, 1) := by decide +kernel
theorem dX11_size_54 : decode cX11_size 54 = .ok (.aload_n 0, 1) := by decide +kernel
theorem dX11_size_55 : decode cX11_size 55 = .ok (.getfield 11, 3) := by decide +kernel
theorem dX11_size_58 : decode cX11_size 58 = .ok (.iload_n 1, 1) := by decide +kernel
theorem dX11_size_59 : decode cX11_size 59 = .ok (.aaload, 1) := by decide +kernel
theorem dX11_size_60 : decode cX11_size 60 = .ok (.getfield 128, 3) := by decide +kernel
theorem dX11_size_63 : decode cX11_size 63 = .ok (.ireturn, 1) := by decide +kernel
theorem dX11_size_64 : decode cX11_size 64 = .ok (.aload_n 0, 1) := by decide +kernel
theorem dX11_size_65 : decode cX11_size 65 = .ok (.getfield 11, 3) := by decide +kernel
theorem dX11_size_68 : decode cX11_size 68 = .ok (.iload_n 1, 1) := by decide +kernel
theorem dX11_size_69 : decode cX11_size 69 = .ok (.aaload, 1) := by decide +kernel
theorem dX11_size_70 : decode cX11_size 70 = .ok (.invokevirtual 131, 3) := by decide +kernel
theorem dX11_size_73 : decode cX11_size 73 = .ok (.ireturn, 1) := by decide +kernel
theorem dX11_size_74 : decode cX11_size 74 = .ok (.aload_n 0, 1) := by decide +kernel
theorem dX11_size_75 : decode cX11_size 75 = .ok (.getfield 11, 3) := by decide +kernel
theorem dX11_size_78 : decode cX11_size 78 = .ok (.iload_n 1, 1) := by decide +kernel
theorem dX11_size_79 : decode cX11_size 79 = .ok (.aaload, 1) := by decide +kernel
theorem dX11_size_80 : decode cX11_size 80 = .ok (.invokevirtual 134, 3) := by decide +kernel
theorem dX11_size_83 : decode cX11_size 83 = .ok (.ireturn, 1) := by decide +kernel
theorem dX11_size_84 : decode cX11_size 84 = .ok (.aload_n 0, 1) := by decide +kernel
theorem dX11_size_85 : decode cX11_size 85 = .ok (.getfield 11, 3) := by decide +kernel
theorem dX11_size_88 : decode cX11_size 88 = .ok (.iload_n 1, 1) := by decide +kernel
theorem dX11_size_89 : decode cX11_size 89 = .ok (.aaload, 1) := by decide +kernel
theorem dX11_size_90 : decode cX11_size 90 = .ok (.invokevirtual 137, 3) := by decide +kernel
theorem dX11_size_93 : decode cX11_size 93 = .ok (.ireturn, 1) := by decide +kernel
theorem dX11_size_94 : decode cX11_size 94 = .ok (.iconst (-1), 1) := by decide +kernel
theorem dX11_size_95 : decode cX11_size 95 = .ok (.ireturn, 1) := by decide +kernel
theorem dX11_cell_0 : decode cX11_cell 0 = .ok (.iload_n 1, 1) := by decide +kernel
theorem dX11_cell_1 : decode cX11_cell 1 = .ok (.invokestatic 93, 3) := by decide +kernel
theorem dX11_cell_4 : decode cX11_cell 4 = .ok (.ifCond .eq 17, 3) := by decide +kernel
theorem dX11_cell_7 : decode cX11_cell 7 = .ok (.aload_n 0, 1) := by decide +kernel
theorem dX11_cell_8 : decode cX11_cell 8 = .ok (.getfield 11, 3) := by decide +kernel
theorem dX11_cell_11 : decode cX11_cell 11 = .ok (.iload_n 1, 1) := by decide +kernel
theorem dX11_cell_12 : decode cX11_cell 12 = .ok (.aaload, 1) := by decide +kernel
theorem dX11_cell_13 : decode cX11_cell 13 = .ok (.iload_n 2, 1) := by decide +kernel
theorem dX11_cell_14 : decode cX11_cell 14 = .ok (.iload_n 3, 1) := by decide +kernel
theorem dX11_cell_15 : decode cX11_cell 15 = .ok (.invokevirtual 140, 3) := by decide +kernel
theorem dX11_cell_18 : decode cX11_cell 18 = .ok (.ifCond .ne 7, 3) := by decide +kernel
theorem dX11_cell_21 : decode cX11_cell 21 = .ok (.ldc2_w 144, 3) := by decide +kernel
theorem dX11_cell_24 : decode cX11_cell 24 = .ok (.lreturn, 1) := by decide +kernel
theorem dX11_cell_25 : decode cX11_cell 25 = .ok (.aload_n 0, 1) := by decide +kernel
theorem dX11_cell_26 : decode cX11_cell 26 = .ok (.getfield 11, 3) := by decide +kernel
theorem dX11_cell_29 : decode cX11_cell 29 = .ok (.iload_n 1, 1) := by decide +kernel
theorem dX11_cell_30 : decode cX11_cell 30 = .ok (.aaload, 1) := by decide +kernel
theorem dX11_cell_31 : decode cX11_cell 31 = .ok (.iload_n 2, 1) := by decide +kernel
theorem dX11_cell_32 : decode cX11_cell 32 = .ok (.iload_n 3, 1) := by decide +kernel
theorem dX11_cell_33 : decode cX11_cell 33 = .ok (.invokevirtual 146, 3) := by decide +kernel
theorem dX11_cell_36 : decode cX11_cell 36 = .ok (.lreturn, 1) := by decide +kernel
theorem dX11_copy_0 : decode cX11_copy 0 = .ok (.iload_n 1, 1) := by decide +kernel
theorem dX11_copy_1 : decode cX11_copy 1 = .ok (.invokestatic 93, 3) := by decide +kernel
theorem dX11_copy_4 : decode cX11_copy 4 = .ok (.ifCond .eq 10, 3) := by decide +kernel
theorem dX11_copy_7 : decode cX11_copy 7 = .ok (.iload_n 2, 1) := by decide +kernel
theorem dX11_copy_8 : decode cX11_copy 8 = .ok (.invokestatic 93, 3) := by decide +kernel
theorem dX11_copy_11 : decode cX11_copy 11 = .ok (.ifCond .ne 6, 3) := by decide +kernel
theorem dX11_copy_14 : decode cX11_copy 14 = .ok (.bipush (-2), 2) := by decide +kernel
theorem dX11_copy_16 : decode cX11_copy 16 = .ok (.ireturn, 1) := by decide +kernel
theorem dX11_copy_17 : decode cX11_copy 17 = .ok (.aload_n 0, 1) := by decide +kernel
theorem dX11_copy_18 : decode cX11_copy 18 = .ok (.getfield 11, 3) := by decide +kernel
theorem dX11_copy_21 : decode cX11_copy 21 = .ok (.iload_n 2, 1) := by decide +kernel
theorem dX11_copy_22 : decode cX11_copy 22 = .ok (.aaload, 1) := by decide +kernel
theorem dX11_copy_23 : decode cX11_copy 23 = .ok (.aload_n 0, 1) := by decide +kernel
theorem dX11_copy_24 : decode cX11_copy 24 = .ok (.getfield 11, 3) := by decide +kernel
theorem dX11_copy_27 : decode cX11_copy 27 = .ok (.iload_n 1, 1) := by decide +kernel
theorem dX11_copy_28 : decode cX11_copy 28 = .ok (.aaload, 1) := by decide +kernel
theorem dX11_copy_29 : decode cX11_copy 29 = .ok (.invokevirtual 110, 3) := by decide +kernel
theorem dX11_copy_32 : decode cX11_copy 32 = .ok (.aload_n 0, 1) := by decide +kernel
theorem dX11_copy_33 : decode cX11_copy 33 = .ok (.getfield 11, 3) := by decide +kernel
theorem dX11_copy_36 : decode cX11_copy 36 = .ok (.iload_n 2, 1) := by decide +kernel
theorem dX11_copy_37 : decode cX11_copy 37 = .ok (.aaload, 1) := by decide +kernel
theorem dX11_copy_38 : decode cX11_copy 38 = .ok (.getfield 114, 3) := by decide +kernel
theorem dX11_copy_41 : decode cX11_copy 41 = .ok (.ireturn, 1) := by decide +kernel
theorem dX11_fits_0 : decode cX11_fits 0 = .ok (.iload_n 1, 1) := by decide +kernel
theorem dX11_fits_1 : decode cX11_fits 1 = .ok (.invokestatic 93, 3) := by decide +kernel
theorem dX11_fits_4 : decode cX11_fits 4 = .ok (.ifCond .eq 10, 3) := by decide +kernel
theorem dX11_fits_7 : decode cX11_fits 7 = .ok (.iload_n 2, 1) := by decide +kernel
theorem dX11_fits_8 : decode cX11_fits 8 = .ok (.invokestatic 93, 3) := by decide +kernel
theorem dX11_fits_11 : decode cX11_fits 11 = .ok (.ifCond .ne 6, 3) := by decide +kernel
theorem dX11_fits_14 : decode cX11_fits 14 = .ok (.bipush (-2), 2) := by decide +kernel
theorem dX11_fits_16 : decode cX11_fits 16 = .ok (.ireturn, 1) := by decide +kernel
theorem dX11_fits_17 : decode cX11_fits 17 = .ok (.aload_n 0, 1) := by decide +kernel
theorem dX11_fits_18 : decode cX11_fits 18 = .ok (.getfield 11, 3) := by decide +kernel
theorem dX11_fits_21 : decode cX11_fits 21 = .ok (.iload_n 1, 1) := by decide +kernel
theorem dX11_fits_22 : decode cX11_fits 22 = .ok (.aaload, 1) := by decide +kernel
theorem dX11_fits_23 : decode cX11_fits 23 = .ok (.aload_n 0, 1) := by decide +kernel
theorem dX11_fits_24 : decode cX11_fits 24 = .ok (.getfield 11, 3) := by decide +kernel
theorem dX11_fits_27 : decode cX11_fits 27 = .ok (.iload_n 2, 1) := by decide +kernel
theorem dX11_fits_28 : decode cX11_fits 28 = .ok (.aaload, 1) := by decide +kernel
theorem dX11_fits_29 : decode cX11_fits 29 = .ok (.invokevirtual 150, 3) := by decide +kernel
theorem dX11_fits_32 : decode cX11_fits 32 = .ok (.ifCond .eq 7, 3) := by decide +kernel
theorem dX11_fits_35 : decode cX11_fits 35 = .ok (.iconst 1, 1) := by decide +kernel
theorem dX11_fits_36 : decode cX11_fits 36 = .ok (.goto 4, 3) := by decide +kernel
theorem dX11_fits_39 : decode cX11_fits 39 = .ok (.iconst 0, 1) := by decide +kernel
theorem dX11_fits_40 : decode cX11_fits 40 = .ok (.ireturn, 1) := by decide +kernel
theorem dX11_step_0 : decode cX11_step 0 = .ok (.iload_n 1, 1) := by decide +kernel
theorem dX11_step_1 : decode cX11_step 1 = .ok (.invokestatic 93, 3) := by decide +kernel
theorem dX11_step_4 : decode cX11_step 4 = .ok (.ifCond .eq 14, 3) := by decide +kernel
theorem dX11_step_7 : decode cX11_step 7 = .ok (.iload_n 2, 1) := by decide +kernel
theorem dX11_step_8 : decode cX11_step 8 = .ok (.iconst 1, 1) := by decide +kernel
theorem dX11_step_9 : decode cX11_step 9 = .ok (.if_icmp .lt 9, 3) := by decide +kernel
theorem dX11_step_12 : decode cX11_step 12 = .ok (.iload_n 2, 1) := by decide +kernel
theorem dX11_step_13 : decode cX11_step 13 = .ok (.bipush 14, 2) := by decide +kernel
theorem dX11_step_15 : decode cX11_step 15 = .ok (.if_icmp .le 6, 3) := by decide +kernel
theorem dX11_step_18 : decode cX11_step 18 = .ok (.bipush (-2), 2) := by decide +kernel
theorem dX11_step_20 : decode cX11_step 20 = .ok (.ireturn, 1) := by decide +kernel
theorem dX11_step_21 : decode cX11_step 21 = .ok (.aload_n 0, 1) := by decide +kernel
theorem dX11_step_22 : decode cX11_step 22 = .ok (.getfield 52, 3) := by decide +kernel
theorem dX11_step_25 : decode cX11_step 25 = .ok (.aload_n 0, 1) := by decide +kernel
theorem dX11_step_26 : decode cX11_step 26 = .ok (.getfield 11, 3) := by decide +kernel
theorem dX11_step_29 : decode cX11_step 29 = .ok (.iload_n 1, 1) := by decide +kernel
theorem dX11_step_30 : decode cX11_step 30 = .ok (.aaload, 1) := by decide +kernel
theorem dX11_step_31 : decode cX11_step 31 = .ok (.aload_n 0, 1) := by decide +kernel
theorem dX11_step_32 : decode cX11_step 32 = .ok (.getfield 69, 3) := by decide +kernel
theorem dX11_step_35 : decode cX11_step 35 = .ok (.iload_n 2, 1) := by decide +kernel
theorem dX11_step_36 : decode cX11_step 36 = .ok (.iload_n 3, 1) := by decide +kernel
theorem dX11_step_37 : decode cX11_step 37 = .ok (.iload 4, 2) := by decide +kernel
theorem dX11_step_39 : decode cX11_step 39 = .ok (.invokevirtual 154, 3) := by decide +kernel
theorem dX11_step_42 : decode cX11_step 42 = .ok (.ifCond .ne 5, 3) := by decide +kernel
theorem dX11_step_45 : decode cX11_step 45 = .ok (.iconst (-1), 1) := by decide +kernel
theorem dX11_step_46 : decode cX11_step 46 = .ok (.ireturn, 1) := by decide +kernel
theorem dX11_step_47 : decode cX11_step 47 = .ok (.aload_n 0, 1) := by decide +kernel
theorem dX11_step_48 : decode cX11_step 48 = .ok (.getfield 11, 3) := by decide +kernel
theorem dX11_step_51 : decode cX11_step 51 = .ok (.iload_n 1, 1) := by decide +kernel
theorem dX11_step_52 : decode cX11_step 52 = .ok (.aaload, 1) := by decide +kernel
theorem dX11_step_53 : decode cX11_step 53 = .ok (.aload_n 0, 1) := by decide +kernel
theorem dX11_step_54 : decode cX11_step 54 = .ok (.getfield 69, 3) := by decide +kernel
theorem dX11_step_57 : decode cX11_step 57 = .ok (.invokevirtual 110, 3) := by decide +kernel
theorem dX11_step_60 : decode cX11_step 60 = .ok (.aload_n 0, 1) := by decide +kernel
theorem dX11_step_61 : decode cX11_step 61 = .ok (.getfield 11, 3) := by decide +kernel
theorem dX11_step_64 : decode cX11_step 64 = .ok (.iload_n 1, 1) := by decide +kernel
theorem dX11_step_65 : decode cX11_step 65 = .ok (.aaload, 1) := by decide +kernel
theorem dX11_step_66 : decode cX11_step 66 = .ok (.getfield 114, 3) := by decide +kernel
theorem dX11_step_69 : decode cX11_step 69 = .ok (.ireturn, 1) := by decide +kernel
theorem dX11_walk_0 : decode cX11_walk 0 = .ok (.iload_n 1, 1) := by decide +kernel
theorem dX11_walk_1 : decode cX11_walk 1 = .ok (.invokestatic 93, 3) := by decide +kernel
theorem dX11_walk_4 : decode cX11_walk 4 = .ok (.ifCond .eq 17, 3) := by decide +kernel
theorem dX11_walk_7 : decode cX11_walk 7 = .ok (.iload_n 2, 1) := by decide +kernel
theorem dX11_walk_8 : decode cX11_walk 8 = .ok (.invokestatic 93, 3) := by decide +kernel
theorem dX11_walk_11 : decode cX11_walk 11 = .ok (.ifCond .eq 10, 3) := by decide +kernel
theorem dX11_walk_14 : decode cX11_walk 14 = .ok (.iload_n 3, 1) := by decide +kernel
theorem dX11_walk_15 : decode cX11_walk 15 = .ok (.invokestatic 93, 3) := by decide +kernel
theorem dX11_walk_18 : decode cX11_walk 18 = .ok (.ifCond .ne 6, 3) := by decide +kernel
theorem dX11_walk_21 : decode cX11_walk 21 = .ok (.bipush (-2), 2) := by decide +kernel
theorem dX11_walk_23 : decode cX11_walk 23 = .ok (.ireturn, 1) := by decide +kernel
theorem dX11_walk_24 : decode cX11_walk 24 = .ok (.aload_n 0, 1) := by decide +kernel
theorem dX11_walk_25 : decode cX11_walk 25 = .ok (.getfield 61, 3) := by decide +kernel
theorem dX11_walk_28 : decode cX11_walk 28 = .ok (.aload_n 0, 1) := by decide +kernel
theorem dX11_walk_29 : decode cX11_walk 29 = .ok (.getfield 17, 3) := by decide +kernel
theorem dX11_walk_32 : decode cX11_walk 32 = .ok (.iload_n 1, 1) := by decide +kernel
theorem dX11_walk_33 : decode cX11_walk 33 = .ok (.aaload, 1) := by decide +kernel
theorem dX11_walk_34 : decode cX11_walk 34 = .ok (.aload_n 0, 1) := by decide +kernel
theorem dX11_walk_35 : decode cX11_walk 35 = .ok (.getfield 11, 3) := by decide +kernel
theorem dX11_walk_38 : decode cX11_walk 38 = .ok (.iload_n 2, 1) := by decide +kernel
theorem dX11_walk_39 : decode cX11_walk 39 = .ok (.aaload, 1) := by decide +kernel
theorem dX11_walk_40 : decode cX11_walk 40 = .ok (.invokevirtual 158, 3) := by decide +kernel
theorem dX11_walk_43 : decode cX11_walk 43 = .ok (.istore 4, 2) := by decide +kernel
theorem dX11_walk_45 : decode cX11_walk 45 = .ok (.iload 4, 2) := by decide +kernel
theorem dX11_walk_47 : decode cX11_walk 47 = .ok (.iconst (-1), 1) := by decide +kernel
theorem dX11_walk_48 : decode cX11_walk 48 = .ok (.if_icmp .eq 9, 3) := by decide +kernel
theorem dX11_walk_51 : decode cX11_walk 51 = .ok (.bipush (-10), 2) := by decide +kernel
theorem dX11_walk_53 : decode cX11_walk 53 = .ok (.iload 4, 2) := by decide +kernel
theorem dX11_walk_55 : decode cX11_walk 55 = .ok (.isub, 1) := by decide +kernel
theorem dX11_walk_56 : decode cX11_walk 56 = .ok (.ireturn, 1) := by decide +kernel
theorem dX11_walk_57 : decode cX11_walk 57 = .ok (.aload_n 0, 1) := by decide +kernel
theorem dX11_walk_58 : decode cX11_walk 58 = .ok (.getfield 11, 3) := by decide +kernel
theorem dX11_walk_61 : decode cX11_walk 61 = .ok (.iload_n 3, 1) := by decide +kernel
theorem dX11_walk_62 : decode cX11_walk 62 = .ok (.aaload, 1) := by decide +kernel
theorem dX11_walk_63 : decode cX11_walk 63 = .ok (.aload_n 0, 1) := by decide +kernel
theorem dX11_walk_64 : decode cX11_walk 64 = .ok (.getfield 61, 3) := by decide +kernel
theorem dX11_walk_67 : decode cX11_walk 67 = .ok (.getfield 162, 3) := by decide +kernel
theorem dX11_walk_70 : decode cX11_walk 70 = .ok (.invokevirtual 110, 3) := by decide +kernel
theorem dX11_walk_73 : decode cX11_walk 73 = .ok (.aload_n 0, 1) := by decide +kernel
theorem dX11_walk_74 : decode cX11_walk 74 = .ok (.getfield 11, 3) := by decide +kernel
theorem dX11_walk_77 : decode cX11_walk 77 = .ok (.iload_n 3, 1) := by decide +kernel
theorem dX11_walk_78 : decode cX11_walk 78 = .ok (.aaload, 1) := by decide +kernel
theorem dX11_walk_79 : decode cX11_walk 79 = .ok (.getfield 114, 3) := by decide +kernel
theorem dX11_walk_82 : decode cX11_walk 82 = .ok (.ireturn, 1) := by decide +kernel
theorem dX11_steps_0 : decode cX11_steps 0 = .ok (.iload_n 1, 1) := by decide +kernel
theorem dX11_steps_1 : decode cX11_steps 1 = .ok (.invokestatic 93, 3) := by decide +kernel
theorem dX11_steps_4 : decode cX11_steps 4 = .ok (.ifCond .eq 15, 3) := by decide +kernel
theorem dX11_steps_7 : decode cX11_steps 7 = .ok (.aload_n 0, 1) := by decide +kernel
theorem dX11_steps_8 : decode cX11_steps 8 = .ok (.getfield 17, 3) := by decide +kernel
theorem dX11_steps_11 : decode cX11_steps 11 = .ok (.iload_n 1, 1) := by decide +kernel
theorem dX11_steps_12 : decode cX11_steps 12 = .ok (.aaload, 1) := by decide +kernel
theorem dX11_steps_13 : decode cX11_steps 13 = .ok (.getfield 125, 3) := by decide +kernel
theorem dX11_steps_16 : decode cX11_steps 16 = .ok (.goto 5, 3) := by decide +kernel
theorem dX11_steps_19 : decode cX11_steps 19 = .ok (.bipush (-2), 2) := by decide +kernel
theorem dX11_steps_21 : decode cX11_steps 21 = .ok (.ireturn, 1) := by decide +kernel
theorem dX11_stepAt_0 : decode cX11_stepAt 0 = .ok (.iload_n 1, 1) := by decide +kernel
theorem dX11_stepAt_1 : decode cX11_stepAt 1 = .ok (.invokestatic 93, 3) := by decide +kernel
theorem dX11_stepAt_4 : decode cX11_stepAt 4 = .ok (.ifCond .eq 20, 3) := by decide +kernel
theorem dX11_stepAt_7 : decode cX11_stepAt 7 = .ok (.iload_n 2, 1) := by decide +kernel
theorem dX11_stepAt_8 : decode cX11_stepAt 8 = .ok (.ifCond .lt 16, 3) := by decide +kernel
theorem dX11_stepAt_11 : decode cX11_stepAt 11 = .ok (.iload_n 2, 1) := by decide +kernel
theorem dX11_stepAt_12 : decode cX11_stepAt 12 = .ok (.aload_n 0, 1) := by decide +kernel
theorem dX11_stepAt_13 : decode cX11_stepAt 13 = .ok (.getfield 17, 3) := by decide +kernel
theorem dX11_stepAt_16 : decode cX11_stepAt 16 = .ok (.iload_n 1, 1) := by decide +kernel
theorem dX11_stepAt_17 : decode cX11_stepAt 17 = .ok (.aaload, 1) := by decide +kernel
theorem dX11_stepAt_18 : decode cX11_stepAt 18 = .ok (.getfield 125, 3) := by decide +kernel
theorem dX11_stepAt_21 : decode cX11_stepAt 21 = .ok (.if_icmp .lt 5, 3) := by decide +kernel
theorem dX11_stepAt_24 : decode cX11_stepAt 24 = .ok (.iconst (-1), 1) := by decide +kernel
theorem dX11_stepAt_25 : decode cX11_stepAt 25 = .ok (.ireturn, 1) := by decide +kernel
theorem dX11_stepAt_26 : decode cX11_stepAt 26 = .ok (.aload_n 0, 1) := by decide +kernel
theorem dX11_stepAt_27 : decode cX11_stepAt 27 = .ok (.getfield 17, 3) := by decide +kernel
theorem dX11_stepAt_30 : decode cX11_stepAt 30 = .ok (.iload_n 1, 1) := by decide +kernel
theorem dX11_stepAt_31 : decode cX11_stepAt 31 = .ok (.aaload, 1) := by decide +kernel
theorem dX11_stepAt_32 : decode cX11_stepAt 32 = .ok (.iload_n 2, 1) := by decide +kernel
theorem dX11_stepAt_33 : decode cX11_stepAt 33 = .ok (.invokevirtual 165, 3) := by decide +kernel
theorem dX11_stepAt_36 : decode cX11_stepAt 36 = .ok (.istore 4, 2) := by decide +kernel
theorem dX11_stepAt_38 : decode cX11_stepAt 38 = .ok (.iload_n 3, 1) := by decide +kernel
theorem dX11_stepAt_39 : decode cX11_stepAt 39 = .ok (.tableswitch 43 0 2 #[25, 31, 37], 25) := by decide +kernel
theorem dX11_stepAt_64 : decode cX11_stepAt 64 = .ok (.iload 4, 2) := by decide +kernel
theorem dX11_stepAt_66 : decode cX11_stepAt 66 = .ok (.invokestatic 169, 3) := by decide +kernel
theorem dX11_stepAt_69 : decode cX11_stepAt 69 = .ok (.ireturn, 1) := by decide +kernel
theorem dX11_stepAt_70 : decode cX11_stepAt 70 = .ok (.iload 4, 2) := by decide +kernel
theorem dX11_stepAt_72 : decode cX11_stepAt 72 = .ok (.invokestatic 174, 3) := by decide +kernel
theorem dX11_stepAt_75 : decode cX11_stepAt 75 = .ok (.ireturn, 1) := by decide +kernel
theorem dX11_stepAt_76 : decode cX11_stepAt 76 = .ok (.iload 4, 2) := by decide +kernel
theorem dX11_stepAt_78 : decode cX11_stepAt 78 = .ok (.invokestatic 177, 3) := by decide +kernel
theorem dX11_stepAt_81 : decode cX11_stepAt 81 = .ok (.ireturn, 1) := by decide +kernel
theorem dX11_stepAt_82 : decode cX11_stepAt 82 = .ok (.iconst (-1), 1) := by decide +kernel
theorem dX11_stepAt_83 : decode cX11_stepAt 83 = .ok (.ireturn, 1) := by decide +kernel
theorem dX11_chain_0 : decode cX11_chain 0 = .ok (.iload_n 1, 1) := by decide +kernel
theorem dX11_chain_1 : decode cX11_chain 1 = .ok (.invokestatic 93, 3) := by decide +kernel
theorem dX11_chain_4 : decode cX11_chain 4 = .ok (.ifCond .eq 17, 3) := by decide +kernel
theorem dX11_chain_7 : decode cX11_chain 7 = .ok (.iload_n 2, 1) := by decide +kernel
theorem dX11_chain_8 : decode cX11_chain 8 = .ok (.invokestatic 93, 3) := by decide +kernel
theorem dX11_chain_11 : decode cX11_chain 11 = .ok (.ifCond .eq 10, 3) := by decide +kernel
theorem dX11_chain_14 : decode cX11_chain 14 = .ok (.iload_n 3, 1) := by decide +kernel
theorem dX11_chain_15 : decode cX11_chain 15 = .ok (.invokestatic 93, 3) := by decide +kernel
theorem dX11_chain_18 : decode cX11_chain 18 = .ok (.ifCond .ne 6, 3) := by decide +kernel
theorem dX11_chain_21 : decode cX11_chain 21 = .ok (.bipush (-2), 2) := by decide +kernel
theorem dX11_chain_23 : decode cX11_chain 23 = .ok (.ireturn, 1) := by decide +kernel
theorem dX11_chain_24 : decode cX11_chain 24 = .ok (.aload_n 0, 1) := by decide +kernel
theorem dX11_chain_25 : decode cX11_chain 25 = .ok (.getfield 17, 3) := by decide +kernel
theorem dX11_chain_28 : decode cX11_chain 28 = .ok (.iload_n 1, 1) := by decide +kernel
theorem dX11_chain_29 : decode cX11_chain 29 = .ok (.aaload, 1) := by decide +kernel
theorem dX11_chain_30 : decode cX11_chain 30 = .ok (.getfield 125, 3) := by decide +kernel
theorem dX11_chain_33 : decode cX11_chain 33 = .ok (.aload_n 0, 1) := by decide +kernel
theorem dX11_chain_34 : decode cX11_chain 34 = .ok (.getfield 17, 3) := by decide +kernel
theorem dX11_chain_37 : decode cX11_chain 37 = .ok (.iload_n 2, 1) := by decide +kernel
theorem dX11_chain_38 : decode cX11_chain 38 = .ok (.aaload, 1) := by decide +kernel
theorem dX11_chain_39 : decode cX11_chain 39 = .ok (.getfield 125, 3) := by decide +kernel
theorem dX11_chain_42 : decode cX11_chain 42 = .ok (.iadd, 1) := by decide +kernel
theorem dX11_chain_43 : decode cX11_chain 43 = .ok (.bipush 12, 2) := by decide +kernel
theorem dX11_chain_45 : decode cX11_chain 45 = .ok (.if_icmp .le 6, 3) := by decide +kernel
theorem dX11_chain_48 : decode cX11_chain 48 = .ok (.bipush (-3), 2) := by decide +kernel
theorem dX11_chain_50 : decode cX11_chain 50 = .ok (.ireturn, 1) := by decide +kernel
theorem dX11_chain_51 : decode cX11_chain 51 = .ok (.aload_n 0, 1) := by decide +kernel
theorem dX11_chain_52 : decode cX11_chain 52 = .ok (.getfield 74, 3) := by decide +kernel
theorem dX11_chain_55 : decode cX11_chain 55 = .ok (.aload_n 0, 1) := by decide +kernel
theorem dX11_chain_56 : decode cX11_chain 56 = .ok (.getfield 17, 3) := by decide +kernel
theorem dX11_chain_59 : decode cX11_chain 59 = .ok (.iload_n 1, 1) := by decide +kernel
theorem dX11_chain_60 : decode cX11_chain 60 = .ok (.aaload, 1) := by decide +kernel
theorem dX11_chain_61 : decode cX11_chain 61 = .ok (.invokevirtual 122, 3) := by decide +kernel
theorem dX11_chain_64 : decode cX11_chain 64 = .ok (.aload_n 0, 1) := by decide +kernel
theorem dX11_chain_65 : decode cX11_chain 65 = .ok (.getfield 74, 3) := by decide +kernel
theorem dX11_chain_68 : decode cX11_chain 68 = .ok (.aload_n 0, 1) := by decide +kernel
theorem dX11_chain_69 : decode cX11_chain 69 = .ok (.getfield 17, 3) := by decide +kernel
theorem dX11_chain_72 : decode cX11_chain 72 = .ok (.iload_n 2, 1) := by decide +kernel
theorem dX11_chain_73 : decode cX11_chain 73 = .ok (.aaload, 1) := by decide +kernel
theorem dX11_chain_74 : decode cX11_chain 74 = .ok (.invokevirtual 180, 3) := by decide +kernel
theorem dX11_chain_77 : decode cX11_chain 77 = .ok (.aload_n 0, 1) := by decide +kernel
theorem dX11_chain_78 : decode cX11_chain 78 = .ok (.getfield 17, 3) := by decide +kernel
theorem dX11_chain_81 : decode cX11_chain 81 = .ok (.iload_n 3, 1) := by decide +kernel
theorem dX11_chain_82 : decode cX11_chain 82 = .ok (.aaload, 1) := by decide +kernel
theorem dX11_chain_83 : decode cX11_chain 83 = .ok (.aload_n 0, 1) := by decide +kernel
theorem dX11_chain_84 : decode cX11_chain 84 = .ok (.getfield 74, 3) := by decide +kernel
theorem dX11_chain_87 : decode cX11_chain 87 = .ok (.invokevirtual 122, 3) := by decide +kernel
theorem dX11_chain_90 : decode cX11_chain 90 = .ok (.aload_n 0, 1) := by decide +kernel
theorem dX11_chain_91 : decode cX11_chain 91 = .ok (.getfield 17, 3) := by decide +kernel
theorem dX11_chain_94 : decode cX11_chain 94 = .ok (.iload_n 3, 1) := by decide +kernel
theorem dX11_chain_95 : decode cX11_chain 95 = .ok (.aaload, 1) := by decide +kernel
theorem dX11_chain_96 : decode cX11_chain 96 = .ok (.getfield 125, 3) := by decide +kernel
theorem dX11_chain_99 : decode cX11_chain 99 = .ok (.ireturn, 1) := by decide +kernel
theorem dX11_find_0 : decode cX11_find 0 = .ok (.iload_n 1, 1) := by decide +kernel
theorem dX11_find_1 : decode cX11_find 1 = .ok (.invokestatic 93, 3) := by decide +kernel
theorem dX11_find_4 : decode cX11_find 4 = .ok (.ifCond .eq 21, 3) := by decide +kernel
theorem dX11_find_7 : decode cX11_find 7 = .ok (.iload_n 2, 1) := by decide +kernel
theorem dX11_find_8 : decode cX11_find 8 = .ok (.invokestatic 93, 3) := by decide +kernel
theorem dX11_find_11 : decode cX11_find 11 = .ok (.ifCond .eq 14, 3) := by decide +kernel
theorem dX11_find_14 : decode cX11_find 14 = .ok (.iload 5, 2) := by decide +kernel
theorem dX11_find_16 : decode cX11_find 16 = .ok (.ifCond .lt 9, 3) := by decide +kernel
theorem dX11_find_19 : decode cX11_find 19 = .ok (.iload 5, 2) := by decide +kernel
theorem dX11_find_21 : decode cX11_find 21 = .ok (.iconst 3, 1) := by decide +kernel
theorem dX11_find_22 : decode cX11_find 22 = .ok (.if_icmp .le 6, 3) := by decide +kernel
theorem dX11_find_25 : decode cX11_find 25 = .ok (.bipush (-2), 2) := by decide +kernel
theorem dX11_find_27 : decode cX11_find 27 = .ok (.ireturn, 1) := by decide +kernel
theorem dX11_find_28 : decode cX11_find 28 = .ok (.iload_n 3, 1) := by decide +kernel
theorem dX11_find_29 : decode cX11_find 29 = .ok (.iconst (-1), 1) := by decide +kernel
theorem dX11_find_30 : decode cX11_find 30 = .ok (.if_icmp .ne 33, 3) := by decide +kernel
theorem dX11_find_33 : decode cX11_find 33 = .ok (.iload 4, 2) := by decide +kernel
theorem dX11_find_35 : decode cX11_find 35 = .ok (.iconst (-1), 1) := by decide +kernel
theorem dX11_find_36 : decode cX11_find 36 = .ok (.if_icmp .ne 27, 3) := by decide +kernel
theorem dX11_find_39 : decode cX11_find 39 = .ok (.aload_n 0, 1) := by decide +kernel
theorem dX11_find_40 : decode cX11_find 40 = .ok (.getfield 81, 3) := by decide +kernel
theorem dX11_find_43 : decode cX11_find 43 = .ok (.aload_n 0, 1) := by decide +kernel
theorem dX11_find_44 : decode cX11_find 44 = .ok (.getfield 11, 3) := by decide +kernel
theorem dX11_find_47 : decode cX11_find 47 = .ok (.iload_n 1, 1) := by decide +kernel
theorem dX11_find_48 : decode cX11_find 48 = .ok (.aaload, 1) := by decide +kernel
theorem dX11_find_49 : decode cX11_find 49 = .ok (.aload_n 0, 1) := by decide +kernel
theorem dX11_find_50 : decode cX11_find 50 = .ok (.getfield 11, 3) := by decide +kernel
theorem dX11_find_53 : decode cX11_find 53 = .ok (.iload_n 2, 1) := by decide +kernel
theorem dX11_find_54 : decode cX11_find 54 = .ok (.aaload, 1) := by decide +kernel
theorem dX11_find_55 : decode cX11_find 55 = .ok (.aconst_null, 1) := by decide +kernel
theorem dX11_find_56 : decode cX11_find 56 = .ok (.aconst_null, 1) := by decide +kernel
theorem dX11_find_57 : decode cX11_find 57 = .ok (.iload 5, 2) := by decide +kernel
theorem dX11_find_59 : decode cX11_find 59 = .ok (.invokevirtual 183, 3) := by decide +kernel
theorem dX11_find_62 : decode cX11_find 62 = .ok (.ireturn, 1) := by decide +kernel
theorem dX11_find_63 : decode cX11_find 63 = .ok (.iload_n 3, 1) := by decide +kernel
theorem dX11_find_64 : decode cX11_find 64 = .ok (.invokestatic 93, 3) := by decide +kernel
theorem dX11_find_67 : decode cX11_find 67 = .ok (.ifCond .eq 11, 3) := by decide +kernel
theorem dX11_find_70 : decode cX11_find 70 = .ok (.iload 4, 2) := by decide +kernel
theorem dX11_find_72 : decode cX11_find 72 = .ok (.invokestatic 93, 3) := by decide +kernel
theorem dX11_find_75 : decode cX11_find 75 = .ok (.ifCond .ne 6, 3) := by decide +kernel
theorem dX11_find_78 : decode cX11_find 78 = .ok (.bipush (-2), 2) := by decide +kernel
theorem dX11_find_80 : decode cX11_find 80 = .ok (.ireturn, 1) := by decide +kernel
theorem dX11_find_81 : decode cX11_find 81 = .ok (.aload_n 0, 1) := by decide +kernel
theorem dX11_find_82 : decode cX11_find 82 = .ok (.getfield 81, 3) := by decide +kernel
theorem dX11_find_85 : decode cX11_find 85 = .ok (.aload_n 0, 1) := by decide +kernel
theorem dX11_find_86 : decode cX11_find 86 = .ok (.getfield 11, 3) := by decide +kernel
theorem dX11_find_89 : decode cX11_find 89 = .ok (.iload_n 1, 1) := by decide +kernel
theorem dX11_find_90 : decode cX11_find 90 = .ok (.aaload, 1) := by decide +kernel
theorem dX11_find_91 : decode cX11_find 91 = .ok (.aload_n 0, 1) := by decide +kernel
theorem dX11_find_92 : decode cX11_find 92 = .ok (.getfield 11, 3) := by decide +kernel
theorem dX11_find_95 : decode cX11_find 95 = .ok (.iload_n 2, 1) := by decide +kernel
theorem dX11_find_96 : decode cX11_find 96 = .ok (.aaload, 1) := by decide +kernel
theorem dX11_find_97 : decode cX11_find 97 = .ok (.aload_n 0, 1) := by decide +kernel
theorem dX11_find_98 : decode cX11_find 98 = .ok (.getfield 11, 3) := by decide +kernel
theorem dX11_find_101 : decode cX11_find 101 = .ok (.iload_n 3, 1) := by decide +kernel
theorem dX11_find_102 : decode cX11_find 102 = .ok (.aaload, 1) := by decide +kernel
theorem dX11_find_103 : decode cX11_find 103 = .ok (.aload_n 0, 1) := by decide +kernel
theorem dX11_find_104 : decode cX11_find 104 = .ok (.getfield 11, 3) := by decide +kernel
theorem dX11_find_107 : decode cX11_find 107 = .ok (.iload 4, 2) := by decide +kernel
theorem dX11_find_109 : decode cX11_find 109 = .ok (.aaload, 1) := by decide +kernel
theorem dX11_find_110 : decode cX11_find 110 = .ok (.iload 5, 2) := by decide +kernel
theorem dX11_find_112 : decode cX11_find 112 = .ok (.invokevirtual 183, 3) := by decide +kernel
theorem dX11_find_115 : decode cX11_find 115 = .ok (.ireturn, 1) := by decide +kernel
theorem dX11_found_0 : decode cX11_found 0 = .ok (.iload_n 1, 1) := by decide +kernel
theorem dX11_found_1 : decode cX11_found 1 = .ok (.tableswitch 51 0 2 #[27, 35, 43], 27) := by decide +kernel
theorem dX11_found_28 : decode cX11_found 28 = .ok (.aload_n 0, 1) := by decide +kernel
theorem dX11_found_29 : decode cX11_found 29 = .ok (.getfield 81, 3) := by decide +kernel
theorem dX11_found_32 : decode cX11_found 32 = .ok (.getfield 187, 3) := by decide +kernel
theorem dX11_found_35 : decode cX11_found 35 = .ok (.ireturn, 1) := by decide +kernel
theorem dX11_found_36 : decode cX11_found 36 = .ok (.aload_n 0, 1) := by decide +kernel
theorem dX11_found_37 : decode cX11_found 37 = .ok (.getfield 81, 3) := by decide +kernel
theorem dX11_found_40 : decode cX11_found 40 = .ok (.getfield 190, 3) := by decide +kernel
theorem dX11_found_43 : decode cX11_found 43 = .ok (.ireturn, 1) := by decide +kernel
theorem dX11_found_44 : decode cX11_found 44 = .ok (.aload_n 0, 1) := by decide +kernel
theorem dX11_found_45 : decode cX11_found 45 = .ok (.getfield 81, 3) := by decide +kernel
theorem dX11_found_48 : decode cX11_found 48 = .ok (.getfield 193, 3) := by decide +kernel
theorem dX11_found_51 : decode cX11_found 51 = .ok (.ireturn, 1) := by decide +kernel
theorem dX11_found_52 : decode cX11_found 52 = .ok (.iconst (-1), 1) := by decide +kernel
theorem dX11_found_53 : decode cX11_found 53 = .ok (.ireturn, 1) := by decide +kernel
theorem dX11_take_0 : decode cX11_take 0 = .ok (.iload_n 2, 1) := by decide +kernel
theorem dX11_take_1 : decode cX11_take 1 = .ok (.invokestatic 93, 3) := by decide +kernel
theorem dX11_take_4 : decode cX11_take 4 = .ok (.ifCond .ne 6, 3) := by decide +kernel
theorem dX11_take_7 : decode cX11_take 7 = .ok (.bipush (-2), 2) := by decide +kernel
theorem dX11_take_9 : decode cX11_take 9 = .ok (.ireturn, 1) := by decide +kernel
theorem dX11_take_10 : decode cX11_take 10 = .ok (.iload_n 1, 1) := by decide +kernel
theorem dX11_take_11 : decode cX11_take 11 = .ok (.ifCond .lt 17, 3) := by decide +kernel
theorem dX11_take_14 : decode cX11_take 14 = .ok (.iload_n 1, 1) := by decide +kernel
theorem dX11_take_15 : decode cX11_take 15 = .ok (.aload_n 0, 1) := by decide +kernel
theorem dX11_take_16 : decode cX11_take 16 = .ok (.getfield 81, 3) := by decide +kernel
theorem dX11_take_19 : decode cX11_take 19 = .ok (.getfield 196, 3) := by decide +kernel
theorem dX11_take_22 : decode cX11_take 22 = .ok (.getfield 200, 3) := by decide +kernel
theorem dX11_take_25 : decode cX11_take 25 = .ok (.if_icmp .lt 5, 3) := by decide +kernel
theorem dX11_take_28 : decode cX11_take 28 = .ok (.iconst (-1), 1) := by decide +kernel
theorem dX11_take_29 : decode cX11_take 29 = .ok (.ireturn, 1) := by decide +kernel
theorem dX11_take_30 : decode cX11_take 30 = .ok (.aload_n 0, 1) := by decide +kernel
theorem dX11_take_31 : decode cX11_take 31 = .ok (.getfield 81, 3) := by decide +kernel
theorem dX11_take_34 : decode cX11_take 34 = .ok (.getfield 196, 3) := by decide +kernel
theorem dX11_take_37 : decode cX11_take 37 = .ok (.iload_n 1, 1) := by decide +kernel
theorem dX11_take_38 : decode cX11_take 38 = .ok (.aload_n 0, 1) := by decide +kernel
theorem dX11_take_39 : decode cX11_take 39 = .ok (.getfield 17, 3) := by decide +kernel
theorem dX11_take_42 : decode cX11_take 42 = .ok (.iload_n 2, 1) := by decide +kernel
theorem dX11_take_43 : decode cX11_take 43 = .ok (.aaload, 1) := by decide +kernel
theorem dX11_take_44 : decode cX11_take 44 = .ok (.invokevirtual 205, 3) := by decide +kernel
theorem dX11_take_47 : decode cX11_take 47 = .ok (.aload_n 0, 1) := by decide +kernel
theorem dX11_take_48 : decode cX11_take 48 = .ok (.getfield 17, 3) := by decide +kernel
theorem dX11_take_51 : decode cX11_take 51 = .ok (.iload_n 2, 1) := by decide +kernel
theorem dX11_take_52 : decode cX11_take 52 = .ok (.aaload, 1) := by decide +kernel
theorem dX11_take_53 : decode cX11_take 53 = .ok (.getfield 125, 3) := by decide +kernel
theorem dX11_take_56 : decode cX11_take 56 = .ok (.ireturn, 1) := by decide +kernel
theorem dX11_part_0 : decode cX11_part 0 = .ok (.iload_n 1, 1) := by decide +kernel
theorem dX11_part_1 : decode cX11_part 1 = .ok (.invokestatic 93, 3) := by decide +kernel
theorem dX11_part_4 : decode cX11_part 4 = .ok (.ifCond .eq 18, 3) := by decide +kernel
theorem dX11_part_7 : decode cX11_part 7 = .ok (.iload_n 2, 1) := by decide +kernel
theorem dX11_part_8 : decode cX11_part 8 = .ok (.invokestatic 93, 3) := by decide +kernel
theorem dX11_part_11 : decode cX11_part 11 = .ok (.ifCond .eq 11, 3) := by decide +kernel
theorem dX11_part_14 : decode cX11_part 14 = .ok (.iload 5, 2) := by decide +kernel
theorem dX11_part_16 : decode cX11_part 16 = .ok (.invokestatic 93, 3) := by decide +kernel
theorem dX11_part_19 : decode cX11_part 19 = .ok (.ifCond .ne 6, 3) := by decide +kernel
theorem dX11_part_22 : decode cX11_part 22 = .ok (.bipush (-2), 2) := by decide +kernel
theorem dX11_part_24 : decode cX11_part 24 = .ok (.ireturn, 1) := by decide +kernel
theorem dX11_part_25 : decode cX11_part 25 = .ok (.iload_n 3, 1) := by decide +kernel
theorem dX11_part_26 : decode cX11_part 26 = .ok (.iconst 1, 1) := by decide +kernel
theorem dX11_part_27 : decode cX11_part 27 = .ok (.if_icmp .lt 20, 3) := by decide +kernel
theorem dX11_part_30 : decode cX11_part 30 = .ok (.iload_n 3, 1) := by decide +kernel
theorem dX11_part_31 : decode cX11_part 31 = .ok (.iconst 3, 1) := by decide +kernel
theorem dX11_part_32 : decode cX11_part 32 = .ok (.if_icmp .gt 15, 3) := by decide +kernel
theorem dX11_part_35 : decode cX11_part 35 = .ok (.iload 4, 2) := by decide +kernel
theorem dX11_part_37 : decode cX11_part 37 = .ok (.iconst 1, 1) := by decide +kernel
theorem dX11_part_38 : decode cX11_part 38 = .ok (.if_icmp .lt 9, 3) := by decide +kernel
theorem dX11_part_41 : decode cX11_part 41 = .ok (.iload 4, 2) := by decide +kernel
theorem dX11_part_43 : decode cX11_part 43 = .ok (.iconst 2, 1) := by decide +kernel
theorem dX11_part_44 : decode cX11_part 44 = .ok (.if_icmp .le 6, 3) := by decide +kernel
theorem dX11_part_47 : decode cX11_part 47 = .ok (.bipush (-2), 2) := by decide +kernel
theorem dX11_part_49 : decode cX11_part 49 = .ok (.ireturn, 1) := by decide +kernel
theorem dX11_part_50 : decode cX11_part 50 = .ok (.iconst 0, 1) := by decide +kernel
theorem dX11_part_51 : decode cX11_part 51 = .ok (.istore 6, 2) := by decide +kernel
theorem dX11_part_53 : decode cX11_part 53 = .ok (.iconst 1, 1) := by decide +kernel
theorem dX11_part_54 : decode cX11_part 54 = .ok (.istore 7, 2) := by decide +kernel
theorem dX11_part_56 : decode cX11_part 56 = .ok (.iload 7, 2) := by decide +kernel
theorem dX11_part_58 : decode cX11_part 58 = .ok (.iload 4, 2) := by decide +kernel
theorem dX11_part_60 : decode cX11_part 60 = .ok (.if_icmp .gt 93, 3) := by decide +kernel
theorem dX11_part_63 : decode cX11_part 63 = .ok (.iload 7, 2) := by decide +kernel
theorem dX11_part_65 : decode cX11_part 65 = .ok (.iload_n 3, 1) := by decide +kernel
theorem dX11_part_66 : decode cX11_part 66 = .ok (.imul, 1) := by decide +kernel
theorem dX11_part_67 : decode cX11_part 67 = .ok (.invokestatic 209, 3) := by decide +kernel
theorem dX11_part_70 : decode cX11_part 70 = .ok (.istore 8, 2) := by decide +kernel
theorem dX11_part_72 : decode cX11_part 72 = .ok (.iconst 0, 1) := by decide +kernel
theorem dX11_part_73 : decode cX11_part 73 = .ok (.istore 9, 2) := by decide +kernel
theorem dX11_part_75 : decode cX11_part 75 = .ok (.iload 9, 2) := by decide +kernel
theorem dX11_part_77 : decode cX11_part 77 = .ok (.iload 8, 2) := by decide +kernel
theorem dX11_part_79 : decode cX11_part 79 = .ok (.if_icmp .ge 68, 3) := by decide +kernel
theorem dX11_part_82 : decode cX11_part 82 = .ok (.iload 6, 2) := by decide +kernel
theorem dX11_part_84 : decode cX11_part 84 = .ok (.sipush 1000, 3) := by decide +kernel
theorem dX11_part_87 : decode cX11_part 87 = .ok (.if_icmp .ne 6, 3) := by decide +kernel
theorem dX11_part_90 : decode cX11_part 90 = .ok (.bipush (-3), 2) := by decide +kernel
theorem dX11_part_92 : decode cX11_part 92 = .ok (.ireturn, 1) := by decide +kernel
theorem dX11_part_93 : decode cX11_part 93 = .ok (.iinc 6 1, 3) := by decide +kernel
theorem dX11_part_96 : decode cX11_part 96 = .ok (.aload_n 0, 1) := by decide +kernel
theorem dX11_part_97 : decode cX11_part 97 = .ok (.iload 7, 2) := by decide +kernel
theorem dX11_part_99 : decode cX11_part 99 = .ok (.iload_n 3, 1) := by decide +kernel
theorem dX11_part_100 : decode cX11_part 100 = .ok (.iload 9, 2) := by decide +kernel
theorem dX11_part_102 : decode cX11_part 102 = .ok (.invokevirtual 212, 3) := by decide +kernel
theorem dX11_part_105 : decode cX11_part 105 = .ok (.aload_n 0, 1) := by decide +kernel
theorem dX11_part_106 : decode cX11_part 106 = .ok (.aload_n 0, 1) := by decide +kernel
theorem dX11_part_107 : decode cX11_part 107 = .ok (.getfield 17, 3) := by decide +kernel
theorem dX11_part_110 : decode cX11_part 110 = .ok (.iload_n 1, 1) := by decide +kernel
theorem dX11_part_111 : decode cX11_part 111 = .ok (.aaload, 1) := by decide +kernel
theorem dX11_part_112 : decode cX11_part 112 = .ok (.aload_n 0, 1) := by decide +kernel
theorem dX11_part_113 : decode cX11_part 113 = .ok (.getfield 17, 3) := by decide +kernel
theorem dX11_part_116 : decode cX11_part 116 = .ok (.iload_n 2, 1) := by decide +kernel
theorem dX11_part_117 : decode cX11_part 117 = .ok (.aaload, 1) := by decide +kernel
theorem dX11_part_118 : decode cX11_part 118 = .ok (.invokevirtual 216, 3) := by decide +kernel
theorem dX11_part_121 : decode cX11_part 121 = .ok (.ifCond .eq 20, 3) := by decide +kernel
theorem dX11_part_124 : decode cX11_part 124 = .ok (.aload_n 0, 1) := by decide +kernel
theorem dX11_part_125 : decode cX11_part 125 = .ok (.getfield 11, 3) := by decide +kernel
theorem dX11_part_128 : decode cX11_part 128 = .ok (.iload 5, 2) := by decide +kernel
theorem dX11_part_130 : decode cX11_part 130 = .ok (.aaload, 1) := by decide +kernel
theorem dX11_part_131 : decode cX11_part 131 = .ok (.aload_n 0, 1) := by decide +kernel
theorem dX11_part_132 : decode cX11_part 132 = .ok (.getfield 69, 3) := by decide +kernel
theorem dX11_part_135 : decode cX11_part 135 = .ok (.invokevirtual 110, 3) := by decide +kernel
theorem dX11_part_138 : decode cX11_part 138 = .ok (.iload 6, 2) := by decide +kernel
theorem dX11_part_140 : decode cX11_part 140 = .ok (.ireturn, 1) := by decide +kernel
theorem dX11_part_141 : decode cX11_part 141 = .ok (.iinc 9 1, 3) := by decide +kernel
theorem dX11_part_144 : decode cX11_part 144 = .ok (.goto (-69), 3) := by decide +kernel
theorem dX11_part_147 : decode cX11_part 147 = .ok (.iinc 7 1, 3) := by decide +kernel
theorem dX11_part_150 : decode cX11_part 150 = .ok (.goto (-94), 3) := by decide +kernel
theorem dX11_part_153 : decode cX11_part 153 = .ok (.iconst (-1), 1) := by decide +kernel
theorem dX11_part_154 : decode cX11_part 154 = .ok (.ireturn, 1) := by decide +kernel
theorem dX11_count_0 : decode cX11_count 0 = .ok (.iload_n 1, 1) := by decide +kernel
theorem dX11_count_1 : decode cX11_count 1 = .ok (.ifCond .ne 8, 3) := by decide +kernel
theorem dX11_count_4 : decode cX11_count 4 = .ok (.aload_n 0, 1) := by decide +kernel
theorem dX11_count_5 : decode cX11_count 5 = .ok (.getfield 25, 3) := by decide +kernel
theorem dX11_count_8 : decode cX11_count 8 = .ok (.ireturn, 1) := by decide +kernel
theorem dX11_count_9 : decode cX11_count 9 = .ok (.iload_n 1, 1) := by decide +kernel
theorem dX11_count_10 : decode cX11_count 10 = .ok (.iconst 1, 1) := by decide +kernel
theorem dX11_count_11 : decode cX11_count 11 = .ok (.if_icmp .ne 10, 3) := by decide +kernel
theorem dX11_count_14 : decode cX11_count 14 = .ok (.aload_n 0, 1) := by decide +kernel
theorem dX11_count_15 : decode cX11_count 15 = .ok (.invokevirtual 220, 3) := by decide +kernel
theorem dX11_count_18 : decode cX11_count 18 = .ok (.goto 4, 3) := by decide +kernel
theorem dX11_count_21 : decode cX11_count 21 = .ok (.iconst (-1), 1) := by decide +kernel
theorem dX11_count_22 : decode cX11_count 22 = .ok (.ireturn, 1) := by decide +kernel
theorem dX11_onShelf_0 : decode cX11_onShelf 0 = .ok (.iload_n 0, 1) := by decide +kernel
theorem dX11_onShelf_1 : decode cX11_onShelf 1 = .ok (.ifCond .lt 13, 3) := by decide +kernel
theorem dX11_onShelf_4 : decode cX11_onShelf 4 = .ok (.iload_n 0, 1) := by decide +kernel
theorem dX11_onShelf_5 : decode cX11_onShelf 5 = .ok (.bipush 8, 2) := by decide +kernel
theorem dX11_onShelf_7 : decode cX11_onShelf 7 = .ok (.if_icmp .ge 7, 3) := by decide +kernel
theorem dX11_onShelf_10 : decode cX11_onShelf 10 = .ok (.iconst 1, 1) := by decide +kernel
theorem dX11_onShelf_11 : decode cX11_onShelf 11 = .ok (.goto 4, 3) := by decide +kernel
theorem dX11_onShelf_14 : decode cX11_onShelf 14 = .ok (.iconst 0, 1) := by decide +kernel
theorem dX11_onShelf_15 : decode cX11_onShelf 15 = .ok (.ireturn, 1) := by decide +kernel
theorem dX11_tapeInt_0 : decode cX11_tapeInt 0 = .ok (.bipush 24, 2) := by decide +kernel
theorem dX11_tapeInt_2 : decode cX11_tapeInt 2 = .ok (.istore_n 2, 1) := by decide +kernel
theorem dX11_tapeInt_3 : decode cX11_tapeInt 3 = .ok (.iload_n 2, 1) := by decide +kernel
theorem dX11_tapeInt_4 : decode cX11_tapeInt 4 = .ok (.ifCond .lt 42, 3) := by decide +kernel
theorem dX11_tapeInt_7 : decode cX11_tapeInt 7 = .ok (.aload_n 0, 1) := by decide +kernel
theorem dX11_tapeInt_8 : decode cX11_tapeInt 8 = .ok (.getfield 25, 3) := by decide +kernel
theorem dX11_tapeInt_11 : decode cX11_tapeInt 11 = .ok (.sipush 1000, 3) := by decide +kernel
theorem dX11_tapeInt_14 : decode cX11_tapeInt 14 = .ok (.if_icmp .ge 32, 3) := by decide +kernel
theorem dX11_tapeInt_17 : decode cX11_tapeInt 17 = .ok (.aload_n 0, 1) := by decide +kernel
theorem dX11_tapeInt_18 : decode cX11_tapeInt 18 = .ok (.getfield 21, 3) := by decide +kernel
theorem dX11_tapeInt_21 : decode cX11_tapeInt 21 = .ok (.aload_n 0, 1) := by decide +kernel
theorem dX11_tapeInt_22 : decode cX11_tapeInt 22 = .ok (.getfield 25, 3) := by decide +kernel
theorem dX11_tapeInt_25 : decode cX11_tapeInt 25 = .ok (.iload_n 1, 1) := by decide +kernel
theorem dX11_tapeInt_26 : decode cX11_tapeInt 26 = .ok (.iload_n 2, 1) := by decide +kernel
theorem dX11_tapeInt_27 : decode cX11_tapeInt 27 = .ok (.ishr, 1) := by decide +kernel
theorem dX11_tapeInt_28 : decode cX11_tapeInt 28 = .ok (.i2b, 1) := by decide +kernel
theorem dX11_tapeInt_29 : decode cX11_tapeInt 29 = .ok (.bastore, 1) := by decide +kernel
theorem dX11_tapeInt_30 : decode cX11_tapeInt 30 = .ok (.aload_n 0, 1) := by decide +kernel
theorem dX11_tapeInt_31 : decode cX11_tapeInt 31 = .ok (.dup, 1) := by decide +kernel
theorem dX11_tapeInt_32 : decode cX11_tapeInt 32 = .ok (.getfield 25, 3) := by decide +kernel
theorem dX11_tapeInt_35 : decode cX11_tapeInt 35 = .ok (.iconst 1, 1) := by decide +kernel
theorem dX11_tapeInt_36 : decode cX11_tapeInt 36 = .ok (.iadd, 1) := by decide +kernel
theorem dX11_tapeInt_37 : decode cX11_tapeInt 37 = .ok (.putfield 25, 3) := by decide +kernel
theorem dX11_tapeInt_40 : decode cX11_tapeInt 40 = .ok (.iinc 2 (-8), 3) := by decide +kernel
theorem dX11_tapeInt_43 : decode cX11_tapeInt 43 = .ok (.goto (-40), 3) := by decide +kernel
theorem dX11_tapeInt_46 : decode cX11_tapeInt 46 = .ok (.return_, 1) := by decide +kernel
theorem dX11_emptyTape_0 : decode cX11_emptyTape 0 = .ok (.aload_n 0, 1) := by decide +kernel
theorem dX11_emptyTape_1 : decode cX11_emptyTape 1 = .ok (.getfield 25, 3) := by decide +kernel
theorem dX11_emptyTape_4 : decode cX11_emptyTape 4 = .ok (.istore_n 1, 1) := by decide +kernel
theorem dX11_emptyTape_5 : decode cX11_emptyTape 5 = .ok (.aload_n 0, 1) := by decide +kernel
theorem dX11_emptyTape_6 : decode cX11_emptyTape 6 = .ok (.iconst 0, 1) := by decide +kernel
theorem dX11_emptyTape_7 : decode cX11_emptyTape 7 = .ok (.putfield 25, 3) := by decide +kernel
theorem dX11_emptyTape_10 : decode cX11_emptyTape 10 = .ok (.iload_n 1, 1) := by decide +kernel
theorem dX11_emptyTape_11 : decode cX11_emptyTape 11 = .ok (.ireturn, 1) := by decide +kernel
theorem dX11_stepsOfAllWays_0 : decode cX11_stepsOfAllWays 0 = .ok (.iconst 0, 1) := by decide +kernel
theorem dX11_stepsOfAllWays_1 : decode cX11_stepsOfAllWays 1 = .ok (.istore_n 1, 1) := by decide +kernel
theorem dX11_stepsOfAllWays_2 : decode cX11_stepsOfAllWays 2 = .ok (.iconst 0, 1) := by decide +kernel
theorem dX11_stepsOfAllWays_3 : decode cX11_stepsOfAllWays 3 = .ok (.istore_n 2, 1) := by decide +kernel
theorem dX11_stepsOfAllWays_4 : decode cX11_stepsOfAllWays 4 = .ok (.iload_n 2, 1) := by decide +kernel
theorem dX11_stepsOfAllWays_5 : decode cX11_stepsOfAllWays 5 = .ok (.bipush 8, 2) := by decide +kernel
theorem dX11_stepsOfAllWays_7 : decode cX11_stepsOfAllWays 7 = .ok (.if_icmp .ge 21, 3) := by decide +kernel
theorem dX11_stepsOfAllWays_10 : decode cX11_stepsOfAllWays 10 = .ok (.iload_n 1, 1) := by decide +kernel
theorem dX11_stepsOfAllWays_11 : decode cX11_stepsOfAllWays 11 = .ok (.aload_n 0, 1) := by decide +kernel
theorem dX11_stepsOfAllWays_12 : decode cX11_stepsOfAllWays 12 = .ok (.getfield 17, 3) := by decide +kernel
theorem dX11_stepsOfAllWays_15 : decode cX11_stepsOfAllWays 15 = .ok (.iload_n 2, 1) := by decide +kernel
theorem dX11_stepsOfAllWays_16 : decode cX11_stepsOfAllWays 16 = .ok (.aaload, 1) := by decide +kernel
theorem dX11_stepsOfAllWays_17 : decode cX11_stepsOfAllWays 17 = .ok (.getfield 125, 3) := by decide +kernel
theorem dX11_stepsOfAllWays_20 : decode cX11_stepsOfAllWays 20 = .ok (.iadd, 1) := by decide +kernel
theorem dX11_stepsOfAllWays_21 : decode cX11_stepsOfAllWays 21 = .ok (.istore_n 1, 1) := by decide +kernel
theorem dX11_stepsOfAllWays_22 : decode cX11_stepsOfAllWays 22 = .ok (.iinc 2 1, 3) := by decide +kernel
theorem dX11_stepsOfAllWays_25 : decode cX11_stepsOfAllWays 25 = .ok (.goto (-21), 3) := by decide +kernel
theorem dX11_stepsOfAllWays_28 : decode cX11_stepsOfAllWays 28 = .ok (.iload_n 1, 1) := by decide +kernel
theorem dX11_stepsOfAllWays_29 : decode cX11_stepsOfAllWays 29 = .ok (.ireturn, 1) := by decide +kernel
theorem dX11_listedTables_0 : decode cX11_listedTables 0 = .ok (.iconst 1, 1) := by decide +kernel
theorem dX11_listedTables_1 : decode cX11_listedTables 1 = .ok (.istore_n 1, 1) := by decide +kernel
theorem dX11_listedTables_2 : decode cX11_listedTables 2 = .ok (.iconst 0, 1) := by decide +kernel
theorem dX11_listedTables_3 : decode cX11_listedTables 3 = .ok (.istore_n 2, 1) := by decide +kernel
theorem dX11_listedTables_4 : decode cX11_listedTables 4 = .ok (.iload_n 2, 1) := by decide +kernel
theorem dX11_listedTables_5 : decode cX11_listedTables 5 = .ok (.iload_n 0, 1) := by decide +kernel
theorem dX11_listedTables_6 : decode cX11_listedTables 6 = .ok (.if_icmp .ge 14, 3) := by decide +kernel
theorem dX11_listedTables_9 : decode cX11_listedTables 9 = .ok (.iload_n 1, 1) := by decide +kernel
theorem dX11_listedTables_10 : decode cX11_listedTables 10 = .ok (.bipush 6, 2) := by decide +kernel
theorem dX11_listedTables_12 : decode cX11_listedTables 12 = .ok (.imul, 1) := by decide +kernel
theorem dX11_listedTables_13 : decode cX11_listedTables 13 = .ok (.istore_n 1, 1) := by decide +kernel
theorem dX11_listedTables_14 : decode cX11_listedTables 14 = .ok (.iinc 2 1, 3) := by decide +kernel
theorem dX11_listedTables_17 : decode cX11_listedTables 17 = .ok (.goto (-13), 3) := by decide +kernel
theorem dX11_listedTables_20 : decode cX11_listedTables 20 = .ok (.iload_n 1, 1) := by decide +kernel
theorem dX11_listedTables_21 : decode cX11_listedTables 21 = .ok (.ireturn, 1) := by decide +kernel
theorem dX11_writeListed_0 : decode cX11_writeListed 0 = .ok (.aload_n 0, 1) := by decide +kernel
theorem dX11_writeListed_1 : decode cX11_writeListed 1 = .ok (.getfield 69, 3) := by decide +kernel
theorem dX11_writeListed_4 : decode cX11_writeListed 4 = .ok (.iload_n 1, 1) := by decide +kernel
theorem dX11_writeListed_5 : decode cX11_writeListed 5 = .ok (.iload_n 2, 1) := by decide +kernel
theorem dX11_writeListed_6 : decode cX11_writeListed 6 = .ok (.invokevirtual 223, 3) := by decide +kernel
theorem dX11_writeListed_9 : decode cX11_writeListed 9 = .ok (.pop, 1) := by decide +kernel
theorem dX11_writeListed_10 : decode cX11_writeListed 10 = .ok (.iload_n 3, 1) := by decide +kernel
theorem dX11_writeListed_11 : decode cX11_writeListed 11 = .ok (.istore 4, 2) := by decide +kernel
theorem dX11_writeListed_13 : decode cX11_writeListed 13 = .ok (.iload_n 1, 1) := by decide +kernel
theorem dX11_writeListed_14 : decode cX11_writeListed 14 = .ok (.iconst 1, 1) := by decide +kernel
theorem dX11_writeListed_15 : decode cX11_writeListed 15 = .ok (.isub, 1) := by decide +kernel
theorem dX11_writeListed_16 : decode cX11_writeListed 16 = .ok (.istore 5, 2) := by decide +kernel
theorem dX11_writeListed_18 : decode cX11_writeListed 18 = .ok (.iload 5, 2) := by decide +kernel
theorem dX11_writeListed_20 : decode cX11_writeListed 20 = .ok (.ifCond .lt 52, 3) := by decide +kernel
theorem dX11_writeListed_23 : decode cX11_writeListed 23 = .ok (.iload_n 2, 1) := by decide +kernel
theorem dX11_writeListed_24 : decode cX11_writeListed 24 = .ok (.iconst 1, 1) := by decide +kernel
theorem dX11_writeListed_25 : decode cX11_writeListed 25 = .ok (.isub, 1) := by decide +kernel
theorem dX11_writeListed_26 : decode cX11_writeListed 26 = .ok (.istore 6, 2) := by decide +kernel
theorem dX11_writeListed_28 : decode cX11_writeListed 28 = .ok (.iload 6, 2) := by decide +kernel
theorem dX11_writeListed_30 : decode cX11_writeListed 30 = .ok (.ifCond .lt 36, 3) := by decide +kernel
theorem dX11_writeListed_33 : decode cX11_writeListed 33 = .ok (.aload_n 0, 1) := by decide +kernel
theorem dX11_writeListed_34 : decode cX11_writeListed 34 = .ok (.getfield 69, 3) := by decide +kernel
theorem dX11_writeListed_37 : decode cX11_writeListed 37 = .ok (.iload 5, 2) := by decide +kernel
theorem dX11_writeListed_39 : decode cX11_writeListed 39 = .ok (.iload 6, 2) := by decide +kernel
theorem dX11_writeListed_41 : decode cX11_writeListed 41 = .ok (.getstatic 226, 3) := by decide +kernel
theorem dX11_writeListed_44 : decode cX11_writeListed 44 = .ok (.iload 4, 2) := by decide +kernel
theorem dX11_writeListed_46 : decode cX11_writeListed 46 = .ok (.bipush 6, 2) := by decide +kernel
theorem dX11_writeListed_48 : decode cX11_writeListed 48 = .ok (.irem, 1) := by decide +kernel
theorem dX11_writeListed_49 : decode cX11_writeListed 49 = .ok (.laload, 1) := by decide +kernel
theorem dX11_writeListed_50 : decode cX11_writeListed 50 = .ok (.invokevirtual 230, 3) := by decide +kernel
theorem dX11_writeListed_53 : decode cX11_writeListed 53 = .ok (.iload 4, 2) := by decide +kernel
theorem dX11_writeListed_55 : decode cX11_writeListed 55 = .ok (.bipush 6, 2) := by decide +kernel
theorem dX11_writeListed_57 : decode cX11_writeListed 57 = .ok (.idiv, 1) := by decide +kernel
theorem dX11_writeListed_58 : decode cX11_writeListed 58 = .ok (.istore 4, 2) := by decide +kernel
theorem dX11_writeListed_60 : decode cX11_writeListed 60 = .ok (.iinc 6 (-1), 3) := by decide +kernel
theorem dX11_writeListed_63 : decode cX11_writeListed 63 = .ok (.goto (-35), 3) := by decide +kernel
theorem dX11_writeListed_66 : decode cX11_writeListed 66 = .ok (.iinc 5 (-1), 3) := by decide +kernel
theorem dX11_writeListed_69 : decode cX11_writeListed 69 = .ok (.goto (-51), 3) := by decide +kernel
theorem dX11_writeListed_72 : decode cX11_writeListed 72 = .ok (.return_, 1) := by decide +kernel
theorem dX11_partOnSpare_0 : decode cX11_partOnSpare 0 = .ok (.aload_n 0, 1) := by decide +kernel
theorem dX11_partOnSpare_1 : decode cX11_partOnSpare 1 = .ok (.getfield 61, 3) := by decide +kernel
theorem dX11_partOnSpare_4 : decode cX11_partOnSpare 4 = .ok (.aload_n 1, 1) := by decide +kernel
theorem dX11_partOnSpare_5 : decode cX11_partOnSpare 5 = .ok (.aload_n 0, 1) := by decide +kernel
theorem dX11_partOnSpare_6 : decode cX11_partOnSpare 6 = .ok (.getfield 69, 3) := by decide +kernel
theorem dX11_partOnSpare_9 : decode cX11_partOnSpare 9 = .ok (.invokevirtual 158, 3) := by decide +kernel
theorem dX11_partOnSpare_12 : decode cX11_partOnSpare 12 = .ok (.iconst (-1), 1) := by decide +kernel
theorem dX11_partOnSpare_13 : decode cX11_partOnSpare 13 = .ok (.if_icmp .eq 7, 3) := by decide +kernel
theorem dX11_partOnSpare_16 : decode cX11_partOnSpare 16 = .ok (.iconst 1, 1) := by decide +kernel
theorem dX11_partOnSpare_17 : decode cX11_partOnSpare 17 = .ok (.goto 4, 3) := by decide +kernel
theorem dX11_partOnSpare_20 : decode cX11_partOnSpare 20 = .ok (.iconst 0, 1) := by decide +kernel
theorem dX11_partOnSpare_21 : decode cX11_partOnSpare 21 = .ok (.istore_n 3, 1) := by decide +kernel
theorem dX11_partOnSpare_22 : decode cX11_partOnSpare 22 = .ok (.aload_n 0, 1) := by decide +kernel
theorem dX11_partOnSpare_23 : decode cX11_partOnSpare 23 = .ok (.getfield 65, 3) := by decide +kernel
theorem dX11_partOnSpare_26 : decode cX11_partOnSpare 26 = .ok (.aload_n 2, 1) := by decide +kernel
theorem dX11_partOnSpare_27 : decode cX11_partOnSpare 27 = .ok (.aload_n 0, 1) := by decide +kernel
theorem dX11_partOnSpare_28 : decode cX11_partOnSpare 28 = .ok (.getfield 69, 3) := by decide +kernel
theorem dX11_partOnSpare_31 : decode cX11_partOnSpare 31 = .ok (.invokevirtual 158, 3) := by decide +kernel
theorem dX11_partOnSpare_34 : decode cX11_partOnSpare 34 = .ok (.iconst (-1), 1) := by decide +kernel
theorem dX11_partOnSpare_35 : decode cX11_partOnSpare 35 = .ok (.if_icmp .eq 7, 3) := by decide +kernel
theorem dX11_partOnSpare_38 : decode cX11_partOnSpare 38 = .ok (.iconst 1, 1) := by decide +kernel
theorem dX11_partOnSpare_39 : decode cX11_partOnSpare 39 = .ok (.goto 4, 3) := by decide +kernel
theorem dX11_partOnSpare_42 : decode cX11_partOnSpare 42 = .ok (.iconst 0, 1) := by decide +kernel
theorem dX11_partOnSpare_43 : decode cX11_partOnSpare 43 = .ok (.istore 4, 2) := by decide +kernel
theorem dX11_partOnSpare_45 : decode cX11_partOnSpare 45 = .ok (.iload_n 3, 1) := by decide +kernel
theorem dX11_partOnSpare_46 : decode cX11_partOnSpare 46 = .ok (.ifCond .ne 8, 3) := by decide +kernel
theorem dX11_partOnSpare_49 : decode cX11_partOnSpare 49 = .ok (.iload 4, 2) := by decide +kernel
theorem dX11_partOnSpare_51 : decode cX11_partOnSpare 51 = .ok (.ifCond .eq 15, 3) := by decide +kernel
theorem dX11_partOnSpare_54 : decode cX11_partOnSpare 54 = .ok (.iload_n 3, 1) := by decide +kernel
theorem dX11_partOnSpare_55 : decode cX11_partOnSpare 55 = .ok (.iload 4, 2) := by decide +kernel
theorem dX11_partOnSpare_57 : decode cX11_partOnSpare 57 = .ok (.if_icmp .eq 7, 3) := by decide +kernel
theorem dX11_partOnSpare_60 : decode cX11_partOnSpare 60 = .ok (.iconst 1, 1) := by decide +kernel
theorem dX11_partOnSpare_61 : decode cX11_partOnSpare 61 = .ok (.goto 4, 3) := by decide +kernel
theorem dX11_partOnSpare_64 : decode cX11_partOnSpare 64 = .ok (.iconst 0, 1) := by decide +kernel
theorem dX11_partOnSpare_65 : decode cX11_partOnSpare 65 = .ok (.ireturn, 1) := by decide +kernel
theorem dX11_partOnSpare_66 : decode cX11_partOnSpare 66 = .ok (.aload_n 0, 1) := by decide +kernel
theorem dX11_partOnSpare_67 : decode cX11_partOnSpare 67 = .ok (.getfield 61, 3) := by decide +kernel
theorem dX11_partOnSpare_70 : decode cX11_partOnSpare 70 = .ok (.getfield 162, 3) := by decide +kernel
theorem dX11_partOnSpare_73 : decode cX11_partOnSpare 73 = .ok (.aload_n 0, 1) := by decide +kernel
theorem dX11_partOnSpare_74 : decode cX11_partOnSpare 74 = .ok (.getfield 65, 3) := by decide +kernel
theorem dX11_partOnSpare_77 : decode cX11_partOnSpare 77 = .ok (.getfield 162, 3) := by decide +kernel
theorem dX11_partOnSpare_80 : decode cX11_partOnSpare 80 = .ok (.invokevirtual 234, 3) := by decide +kernel
theorem dX11_partOnSpare_83 : decode cX11_partOnSpare 83 = .ok (.ifCond .ne 7, 3) := by decide +kernel
theorem dX11_partOnSpare_86 : decode cX11_partOnSpare 86 = .ok (.iconst 1, 1) := by decide +kernel
theorem dX11_partOnSpare_87 : decode cX11_partOnSpare 87 = .ok (.goto 4, 3) := by decide +kernel
theorem dX11_partOnSpare_90 : decode cX11_partOnSpare 90 = .ok (.iconst 0, 1) := by decide +kernel
theorem dX11_partOnSpare_91 : decode cX11_partOnSpare 91 = .ok (.ireturn, 1) := by decide +kernel
theorem dX12_init_0 : decode cX12_init 0 = .ok (.aload_n 0, 1) := by decide +kernel
theorem dX12_init_1 : decode cX12_init 1 = .ok (.aconst_null, 1) := by decide +kernel
theorem dX12_init_2 : decode cX12_init 2 = .ok (.aconst_null, 1) := by decide +kernel
theorem dX12_init_3 : decode cX12_init 3 = .ok (.iconst 0, 1) := by decide +kernel
theorem dX12_init_4 : decode cX12_init 4 = .ok (.iconst 0, 1) := by decide +kernel
theorem dX12_init_5 : decode cX12_init 5 = .ok (.invokespecial 1, 3) := by decide +kernel
theorem dX12_init_8 : decode cX12_init 8 = .ok (.return_, 1) := by decide +kernel
theorem dX13_in_0 : decode cX13_in 0 = .ok (.lload_n 0, 1) := by decide +kernel
theorem dX13_in_1 : decode cX13_in 1 = .ok (.lload_n 2, 1) := by decide +kernel
theorem dX13_in_2 : decode cX13_in 2 = .ok (.lcmp, 1) := by decide +kernel
theorem dX13_in_3 : decode cX13_in 3 = .ok (.ifCond .lt 14, 3) := by decide +kernel
theorem dX13_in_6 : decode cX13_in 6 = .ok (.lload_n 0, 1) := by decide +kernel
theorem dX13_in_7 : decode cX13_in 7 = .ok (.lload 4, 2) := by decide +kernel
theorem dX13_in_9 : decode cX13_in 9 = .ok (.lcmp, 1) := by decide +kernel
theorem dX13_in_10 : decode cX13_in 10 = .ok (.ifCond .gt 7, 3) := by decide +kernel
theorem dX13_in_13 : decode cX13_in 13 = .ok (.iconst 1, 1) := by decide +kernel
theorem dX13_in_14 : decode cX13_in 14 = .ok (.goto 4, 3) := by decide +kernel
theorem dX13_in_17 : decode cX13_in 17 = .ok (.iconst 0, 1) := by decide +kernel
theorem dX13_in_18 : decode cX13_in 18 = .ok (.ireturn, 1) := by decide +kernel
theorem dX13_init_0 : decode cX13_init 0 = .ok (.aload_n 0, 1) := by decide +kernel
theorem dX13_init_1 : decode cX13_init 1 = .ok (.invokespecial 3, 3) := by decide +kernel
theorem dX13_init_4 : decode cX13_init 4 = .ok (.aload_n 0, 1) := by decide +kernel
theorem dX13_init_5 : decode cX13_init 5 = .ok (.bipush 12, 2) := by decide +kernel
theorem dX13_init_7 : decode cX13_init 7 = .ok (.newarray .int, 2) := by decide +kernel
theorem dX13_init_9 : decode cX13_init 9 = .ok (.putfield 9, 3) := by decide +kernel
theorem dX13_init_12 : decode cX13_init 12 = .ok (.aload_n 0, 1) := by decide +kernel
theorem dX13_init_13 : decode cX13_init 13 = .ok (.bipush 12, 2) := by decide +kernel
theorem dX13_init_15 : decode cX13_init 15 = .ok (.newarray .int, 2) := by decide +kernel
theorem dX13_init_17 : decode cX13_init 17 = .ok (.putfield 13, 3) := by decide +kernel
theorem dX13_init_20 : decode cX13_init 20 = .ok (.aload_n 0, 1) := by decide +kernel
theorem dX13_init_21 : decode cX13_init 21 = .ok (.sipush 864, 3) := by decide +kernel
theorem dX13_init_24 : decode cX13_init 24 = .ok (.newarray .long, 2) := by decide +kernel
theorem dX13_init_26 : decode cX13_init 26 = .ok (.putfield 16, 3) := by decide +kernel
theorem dX13_init_29 : decode cX13_init 29 = .ok (.aload_n 0, 1) := by decide +kernel
theorem dX13_init_30 : decode cX13_init 30 = .ok (.bipush 12, 2) := by decide +kernel
theorem dX13_init_32 : decode cX13_init 32 = .ok (.newarray .int, 2) := by decide +kernel
theorem dX13_init_34 : decode cX13_init 34 = .ok (.putfield 20, 3) := by decide +kernel
theorem dX13_init_37 : decode cX13_init 37 = .ok (.aload_n 0, 1) := by decide +kernel
theorem dX13_init_38 : decode cX13_init 38 = .ok (.bipush 12, 2) := by decide +kernel
theorem dX13_init_40 : decode cX13_init 40 = .ok (.newarray .int, 2) := by decide +kernel
theorem dX13_init_42 : decode cX13_init 42 = .ok (.putfield 23, 3) := by decide +kernel
theorem dX13_init_45 : decode cX13_init 45 = .ok (.aload_n 0, 1) := by decide +kernel
theorem dX13_init_46 : decode cX13_init 46 = .ok (.bipush 12, 2) := by decide +kernel
theorem dX13_init_48 : decode cX13_init 48 = .ok (.newarray .int, 2) := by decide +kernel
theorem dX13_init_50 : decode cX13_init 50 = .ok (.putfield 26, 3) := by decide +kernel
theorem dX13_init_53 : decode cX13_init 53 = .ok (.aload_n 0, 1) := by decide +kernel
theorem dX13_init_54 : decode cX13_init 54 = .ok (.bipush 9, 2) := by decide +kernel
theorem dX13_init_56 : decode cX13_init 56 = .ok (.newarray .int, 2) := by decide +kernel
theorem dX13_init_58 : decode cX13_init 58 = .ok (.putfield 29, 3) := by decide +kernel
theorem dX13_init_61 : decode cX13_init 61 = .ok (.aload_n 0, 1) := by decide +kernel
theorem dX13_init_62 : decode cX13_init 62 = .ok (.bipush 108, 2) := by decide +kernel
theorem dX13_init_64 : decode cX13_init 64 = .ok (.newarray .int, 2) := by decide +kernel
theorem dX13_init_66 : decode cX13_init 66 = .ok (.putfield 32, 3) := by decide +kernel
theorem dX13_init_69 : decode cX13_init 69 = .ok (.aload_n 0, 1) := by decide +kernel
theorem dX13_init_70 : decode cX13_init 70 = .ok (.bipush 108, 2) := by decide +kernel
theorem dX13_init_72 : decode cX13_init 72 = .ok (.newarray .int, 2) := by decide +kernel
theorem dX13_init_74 : decode cX13_init 74 = .ok (.putfield 35, 3) := by decide +kernel
theorem dX13_init_77 : decode cX13_init 77 = .ok (.aload_n 0, 1) := by decide +kernel
theorem dX13_init_78 : decode cX13_init 78 = .ok (.bipush 108, 2) := by decide +kernel
theorem dX13_init_80 : decode cX13_init 80 = .ok (.newarray .int, 2) := by decide +kernel
theorem dX13_init_82 : decode cX13_init 82 = .ok (.putfield 38, 3) := by decide +kernel
theorem dX13_init_85 : decode cX13_init 85 = .ok (.aload_n 0, 1) := by decide +kernel
theorem dX13_init_86 : decode cX13_init 86 = .ok (.new 41, 3) := by decide +kernel
theorem dX13_init_89 : decode cX13_init 89 = .ok (.dup, 1) := by decide +kernel
theorem dX13_init_90 : decode cX13_init 90 = .ok (.invokespecial 43, 3) := by decide +kernel
theorem dX13_init_93 : decode cX13_init 93 = .ok (.putfield 44, 3) := by decide +kernel
theorem dX13_init_96 : decode cX13_init 96 = .ok (.aload_n 0, 1) := by decide +kernel
theorem dX13_init_97 : decode cX13_init 97 = .ok (.sipush 1000, 3) := by decide +kernel
theorem dX13_init_100 : decode cX13_init 100 = .ok (.newarray .byte, 2) := by decide +kernel
theorem dX13_init_102 : decode cX13_init 102 = .ok (.putfield 48, 3) := by decide +kernel
theorem dX13_init_105 : decode cX13_init 105 = .ok (.aload_n 0, 1) := by decide +kernel
theorem dX13_init_106 : decode cX13_init 106 = .ok (.iconst (-1), 1) := by decide +kernel
theorem dX13_init_107 : decode cX13_init 107 = .ok (.putfield 52, 3) := by decide +kernel
theorem dX13_init_110 : decode cX13_init 110 = .ok (.aload_n 0, 1) := by decide +kernel
theorem dX13_init_111 : decode cX13_init 111 = .ok (.ldc 56, 2) := by decide +kernel
theorem dX13_init_113 : decode cX13_init 113 = .ok (.newarray .long, 2) := by decide +kernel
theorem dX13_init_115 : decode cX13_init 115 = .ok (.putfield 57, 3) := by decide +kernel
theorem dX13_init_118 : decode cX13_init 118 = .ok (.aload_n 0, 1) := by decide +kernel
theorem dX13_init_119 : decode cX13_init 119 = .ok (.sipush 1500, 3) := by decide +kernel
theorem dX13_init_122 : decode cX13_init 122 = .ok (.newarray .int, 2) := by decide +kernel
theorem dX13_init_124 : decode cX13_init 124 = .ok (.putfield 60, 3) := by decide +kernel
theorem dX13_init_127 : decode cX13_init 127 = .ok (.aload_n 0, 1) := by decide +kernel
theorem dX13_init_128 : decode cX13_init 128 = .ok (.sipush 1500, 3) := by decide +kernel
theorem dX13_init_131 : decode cX13_init 131 = .ok (.newarray .int, 2) := by decide +kernel
theorem dX13_init_133 : decode cX13_init 133 = .ok (.putfield 63, 3) := by decide +kernel
theorem dX13_init_136 : decode cX13_init 136 = .ok (.aload_n 0, 1) := by decide +kernel
theorem dX13_init_137 : decode cX13_init 137 = .ok (.sipush 4096, 3) := by decide +kernel
theorem dX13_init_140 : decode cX13_init 140 = .ok (.newarray .int, 2) := by decide +kernel
theorem dX13_init_142 : decode cX13_init 142 = .ok (.putfield 66, 3) := by decide +kernel
theorem dX13_init_145 : decode cX13_init 145 = .ok (.aload_n 0, 1) := by decide +kernel
theorem dX13_init_146 : decode cX13_init 146 = .ok (.sipush 1500, 3) := by decide +kernel
theorem dX13_init_149 : decode cX13_init 149 = .ok (.newarray .int, 2) := by decide +kernel
theorem dX13_init_151 : decode cX13_init 151 = .ok (.putfield 69, 3) := by decide +kernel
theorem dX13_init_154 : decode cX13_init 154 = .ok (.aload_n 0, 1) := by decide +kernel
theorem dX13_init_155 : decode cX13_init 155 = .ok (.bipush 6, 2) := by decide +kernel
theorem dX13_init_157 : decode cX13_init 157 = .ok (.newarray .int, 2) := by decide +kernel
theorem dX13_init_159 : decode cX13_init 159 = .ok (.putfield 72, 3) := by decide +kernel
theorem dX13_init_162 : decode cX13_init 162 = .ok (.aload_n 0, 1) := by decide +kernel
theorem dX13_init_163 : decode cX13_init 163 = .ok (.sipush 1500, 3) := by decide +kernel
theorem dX13_init_166 : decode cX13_init 166 = .ok (.newarray .boolean, 2) := by decide +kernel
theorem dX13_init_168 : decode cX13_init 168 = .ok (.putfield 75, 3) := by decide +kernel
theorem dX13_init_171 : decode cX13_init 171 = .ok (.aload_n 0, 1) := by decide +kernel
theorem dX13_init_172 : decode cX13_init 172 = .ok (.iconst 4, 1) := by decide +kernel
theorem dX13_init_173 : decode cX13_init 173 = .ok (.newarray .int, 2) := by decide +kernel
theorem dX13_init_175 : decode cX13_init 175 = .ok (.putfield 79, 3) := by decide +kernel
theorem dX13_init_178 : decode cX13_init 178 = .ok (.aload_n 0, 1) := by decide +kernel
theorem dX13_init_179 : decode cX13_init 179 = .ok (.iconst 4, 1) := by decide +kernel
theorem dX13_init_180 : decode cX13_init 180 = .ok (.newarray .int, 2) := by decide +kernel
theorem dX13_init_182 : decode cX13_init 182 = .ok (.putfield 82, 3) := by decide +kernel
theorem dX13_init_185 : decode cX13_init 185 = .ok (.aload_n 0, 1) := by decide +kernel
theorem dX13_init_186 : decode cX13_init 186 = .ok (.iconst 4, 1) := by decide +kernel
theorem dX13_init_187 : decode cX13_init 187 = .ok (.newarray .int, 2) := by decide +kernel
theorem dX13_init_189 : decode cX13_init 189 = .ok (.putfield 85, 3) := by decide +kernel
theorem dX13_init_192 : decode cX13_init 192 = .ok (.aload_n 0, 1) := by decide +kernel
theorem dX13_init_193 : decode cX13_init 193 = .ok (.sipush 240, 3) := by decide +kernel
theorem dX13_init_196 : decode cX13_init 196 = .ok (.newarray .int, 2) := by decide +kernel
theorem dX13_init_198 : decode cX13_init 198 = .ok (.putfield 88, 3) := by decide +kernel
theorem dX13_init_201 : decode cX13_init 201 = .ok (.aload_n 0, 1) := by decide +kernel
theorem dX13_init_202 : decode cX13_init 202 = .ok (.sipush 240, 3) := by decide +kernel
theorem dX13_init_205 : decode cX13_init 205 = .ok (.newarray .int, 2) := by decide +kernel
theorem dX13_init_207 : decode cX13_init 207 = .ok (.putfield 91, 3) := by decide +kernel
theorem dX13_init_210 : decode cX13_init 210 = .ok (.aload_n 0, 1) := by decide +kernel
theorem dX13_init_211 : decode cX13_init 211 = .ok (.sipush 240, 3) := by decide +kernel
theorem dX13_init_214 : decode cX13_init 214 = .ok (.newarray .int, 2) := by decide +kernel
theorem dX13_init_216 : decode cX13_init 216 = .ok (.putfield 94, 3) := by decide +kernel
theorem dX13_init_219 : decode cX13_init 219 = .ok (.iconst 0, 1) := by decide +kernel
theorem dX13_init_220 : decode cX13_init 220 = .ok (.istore_n 1, 1) := by decide +kernel
theorem dX13_init_221 : decode cX13_init 221 = .ok (.iload_n 1, 1) := by decide +kernel
theorem dX13_init_222 : decode cX13_init 222 = .ok (.bipush 12, 2) := by decide +kernel
theorem dX13_init_224 : decode cX13_init 224 = .ok (.if_icmp .ge 23, 3) := by decide +kernel
theorem dX13_init_227 : decode cX13_init 227 = .ok (.aload_n 0, 1) := by decide +kernel
theorem dX13_init_228 : decode cX13_init 228 = .ok (.getfield 9, 3) := by decide +kernel
theorem dX13_init_231 : decode cX13_init 231 = .ok (.iload_n 1, 1) := by decide +kernel
theorem dX13_init_232 : decode cX13_init 232 = .ok (.iconst 1, 1) := by decide +kernel
theorem dX13_init_233 : decode cX13_init 233 = .ok (.iastore, 1) := by decide +kernel
theorem dX13_init_234 : decode cX13_init 234 = .ok (.aload_n 0, 1) := by decide +kernel
theorem dX13_init_235 : decode cX13_init 235 = .ok (.getfield 13, 3) := by decide +kernel
theorem dX13_init_238 : decode cX13_init 238 = .ok (.iload_n 1, 1) := by decide +kernel
theorem dX13_init_239 : decode cX13_init 239 = .ok (.iconst 1, 1) := by decide +kernel
theorem dX13_init_240 : decode cX13_init 240 = .ok (.iastore, 1) := by decide +kernel
theorem dX13_init_241 : decode cX13_init 241 = .ok (.iinc 1 1, 3) := by decide +kernel
theorem dX13_init_244 : decode cX13_init 244 = .ok (.goto (-23), 3) := by decide +kernel
theorem dX13_init_247 : decode cX13_init 247 = .ok (.return_, 1) := by decide +kernel
theorem dX13_at_0 : decode cX13_at 0 = .ok (.bipush 72, 2) := by decide +kernel
theorem dX13_at_2 : decode cX13_at 2 = .ok (.iload_n 0, 1) := by decide +kernel
theorem dX13_at_3 : decode cX13_at 3 = .ok (.imul, 1) := by decide +kernel
theorem dX13_at_4 : decode cX13_at 4 = .ok (.bipush 6, 2) := by decide +kernel
theorem dX13_at_6 : decode cX13_at 6 = .ok (.iload_n 1, 1) := by decide +kernel
theorem dX13_at_7 : decode cX13_at 7 = .ok (.imul, 1) := by decide +kernel
theorem dX13_at_8 : decode cX13_at 8 = .ok (.iadd, 1) := by decide +kernel
theorem dX13_at_9 : decode cX13_at 9 = .ok (.iload_n 2, 1) := by decide +kernel
theorem dX13_at_10 : decode cX13_at 10 = .ok (.iadd, 1) := by decide +kernel
theorem dX13_at_11 : decode cX13_at 11 = .ok (.ireturn, 1) := by decide +kernel
theorem dX13_become_0 : decode cX13_become 0 = .ok (.aload_n 0, 1) := by decide +kernel
theorem dX13_become_1 : decode cX13_become 1 = .ok (.getfield 9, 3) := by decide +kernel
theorem dX13_become_4 : decode cX13_become 4 = .ok (.iload_n 1, 1) := by decide +kernel
theorem dX13_become_5 : decode cX13_become 5 = .ok (.aload_n 0, 1) := by decide +kernel
theorem dX13_become_6 : decode cX13_become 6 = .ok (.getfield 9, 3) := by decide +kernel
theorem dX13_become_9 : decode cX13_become 9 = .ok (.iload_n 2, 1) := by decide +kernel
theorem dX13_become_10 : decode cX13_become 10 = .ok (.iaload, 1) := by decide +kernel
theorem dX13_become_11 : decode cX13_become 11 = .ok (.iastore, 1) := by decide +kernel
theorem dX13_become_12 : decode cX13_become 12 = .ok (.aload_n 0, 1) := by decide +kernel
theorem dX13_become_13 : decode cX13_become 13 = .ok (.getfield 13, 3) := by decide +kernel
theorem dX13_become_16 : decode cX13_become 16 = .ok (.iload_n 1, 1) := by decide +kernel
theorem dX13_become_17 : decode cX13_become 17 = .ok (.aload_n 0, 1) := by decide +kernel
theorem dX13_become_18 : decode cX13_become 18 = .ok (.getfield 13, 3) := by decide +kernel
theorem dX13_become_21 : decode cX13_become 21 = .ok (.iload_n 2, 1) := by decide +kernel
theorem dX13_become_22 : decode cX13_become 22 = .ok (.iaload, 1) := by decide +kernel
theorem dX13_become_23 : decode cX13_become 23 = .ok (.iastore, 1) := by decide +kernel
theorem dX13_become_24 : decode cX13_become 24 = .ok (.iconst 0, 1) := by decide +kernel
theorem dX13_become_25 : decode cX13_become 25 = .ok (.istore_n 3, 1) := by decide +kernel
theorem dX13_become_26 : decode cX13_become 26 = .ok (.iload_n 3, 1) := by decide +kernel
theorem dX13_become_27 : decode cX13_become 27 = .ok (.bipush 72, 2) := by decide +kernel
theorem dX13_become_29 : decode cX13_become 29 = .ok (.if_icmp .ge 31, 3) := by decide +kernel
theorem dX13_become_32 : decode cX13_become 32 = .ok (.aload_n 0, 1) := by decide +kernel
theorem dX13_become_33 : decode cX13_become 33 = .ok (.getfield 16, 3) := by decide +kernel
theorem dX13_become_36 : decode cX13_become 36 = .ok (.bipush 72, 2) := by decide +kernel
theorem dX13_become_38 : decode cX13_become 38 = .ok (.iload_n 1, 1) := by decide +kernel
theorem dX13_become_39 : decode cX13_become 39 = .ok (.imul, 1) := by decide +kernel
theorem dX13_become_40 : decode cX13_become 40 = .ok (.iload_n 3, 1) := by decide +kernel
theorem dX13_become_41 : decode cX13_become 41 = .ok (.iadd, 1) := by decide +kernel
theorem dX13_become_42 : decode cX13_become 42 = .ok (.aload_n 0, 1) := by decide +kernel
theorem dX13_become_43 : decode cX13_become 43 = .ok (.getfield 16, 3) := by decide +kernel
theorem dX13_become_46 : decode cX13_become 46 = .ok (.bipush 72, 2) := by decide +kernel
theorem dX13_become_48 : decode cX13_become 48 = .ok (.iload_n 2, 1) := by decide +kernel
theorem dX13_become_49 : decode cX13_become 49 = .ok (.imul, 1) := by decide +kernel
theorem dX13_become_50 : decode cX13_become 50 = .ok (.iload_n 3, 1) := by decide +kernel
theorem dX13_become_51 : decode cX13_become 51 = .ok (.iadd, 1) := by decide +kernel
theorem dX13_become_52 : decode cX13_become 52 = .ok (.laload, 1) := by decide +kernel
theorem dX13_become_53 : decode cX13_become 53 = .ok (.lastore, 1) := by decide +kernel
theorem dX13_become_54 : decode cX13_become 54 = .ok (.iinc 3 1, 3) := by decide +kernel
theorem dX13_become_57 : decode cX13_become 57 = .ok (.goto (-31), 3) := by decide +kernel
theorem dX13_become_60 : decode cX13_become 60 = .ok (.return_, 1) := by decide +kernel
theorem dX13_shape_0 : decode cX13_shape 0 = .ok (.aload_n 0, 1) := by decide +kernel
theorem dX13_shape_1 : decode cX13_shape 1 = .ok (.getfield 9, 3) := by decide +kernel
theorem dX13_shape_4 : decode cX13_shape 4 = .ok (.iload_n 1, 1) := by decide +kernel
theorem dX13_shape_5 : decode cX13_shape 5 = .ok (.iload_n 2, 1) := by decide +kernel
theorem dX13_shape_6 : decode cX13_shape 6 = .ok (.iastore, 1) := by decide +kernel
theorem dX13_shape_7 : decode cX13_shape 7 = .ok (.aload_n 0, 1) := by decide +kernel
theorem dX13_shape_8 : decode cX13_shape 8 = .ok (.getfield 13, 3) := by decide +kernel
theorem dX13_shape_11 : decode cX13_shape 11 = .ok (.iload_n 1, 1) := by decide +kernel
theorem dX13_shape_12 : decode cX13_shape 12 = .ok (.iload_n 3, 1) := by decide +kernel
theorem dX13_shape_13 : decode cX13_shape 13 = .ok (.iastore, 1) := by decide +kernel
theorem dX13_shape_14 : decode cX13_shape 14 = .ok (.iconst 0, 1) := by decide +kernel
theorem dX13_shape_15 : decode cX13_shape 15 = .ok (.istore 4, 2) := by decide +kernel
theorem dX13_shape_17 : decode cX13_shape 17 = .ok (.iload 4, 2) := by decide +kernel
theorem dX13_shape_19 : decode cX13_shape 19 = .ok (.bipush 72, 2) := by decide +kernel
theorem dX13_shape_21 : decode cX13_shape 21 = .ok (.if_icmp .ge 22, 3) := by decide +kernel
theorem dX13_shape_24 : decode cX13_shape 24 = .ok (.aload_n 0, 1) := by decide +kernel
theorem dX13_shape_25 : decode cX13_shape 25 = .ok (.getfield 16, 3) := by decide +kernel
theorem dX13_shape_28 : decode cX13_shape 28 = .ok (.bipush 72, 2) := by decide +kernel
theorem dX13_shape_30 : decode cX13_shape 30 = .ok (.iload_n 1, 1) := by decide +kernel
theorem dX13_shape_31 : decode cX13_shape 31 = .ok (.imul, 1) := by decide +kernel
theorem dX13_shape_32 : decode cX13_shape 32 = .ok (.iload 4, 2) := by decide +kernel
theorem dX13_shape_34 : decode cX13_shape 34 = .ok (.iadd, 1) := by decide +kernel
theorem dX13_shape_35 : decode cX13_shape 35 = .ok (.lconst 0, 1) := by decide +kernel
theorem dX13_shape_36 : decode cX13_shape 36 = .ok (.lastore, 1) := by decide +kernel
theorem dX13_shape_37 : decode cX13_shape 37 = .ok (.iinc 4 1, 3) := by decide +kernel
theorem dX13_shape_40 : decode cX13_shape 40 = .ok (.goto (-23), 3) := by decide +kernel
theorem dX13_shape_43 : decode cX13_shape 43 = .ok (.return_, 1) := by decide +kernel
theorem dX13_length_0 : decode cX13_length 0 = .ok (.iconst 0, 1) := by decide +kernel
theorem dX13_length_1 : decode cX13_length 1 = .ok (.istore_n 2, 1) := by decide +kernel
theorem dX13_length_2 : decode cX13_length 2 = .ok (.lload_n 0, 1) := by decide +kernel
theorem dX13_length_3 : decode cX13_length 3 = .ok (.lstore_n 3, 1) := by decide +kernel
theorem dX13_length_4 : decode cX13_length 4 = .ok (.lload_n 3, 1) := by decide +kernel
theorem dX13_length_5 : decode cX13_length 5 = .ok (.lconst 0, 1) := by decide +kernel
theorem dX13_length_6 : decode cX13_length 6 = .ok (.lcmp, 1) := by decide +kernel
theorem dX13_length_7 : decode cX13_length 7 = .ok (.ifCond .le 14, 3) := by decide +kernel
theorem dX13_length_10 : decode cX13_length 10 = .ok (.iinc 2 1, 3) := by decide +kernel
theorem dX13_length_13 : decode cX13_length 13 = .ok (.lload_n 3, 1) := by decide +kernel
theorem dX13_length_14 : decode cX13_length 14 = .ok (.bipush 8, 2) := by decide +kernel
theorem dX13_length_16 : decode cX13_length 16 = .ok (.lshr, 1) := by decide +kernel
theorem dX13_length_17 : decode cX13_length 17 = .ok (.lstore_n 3, 1) := by decide +kernel
theorem dX13_length_18 : decode cX13_length 18 = .ok (.goto (-14), 3) := by decide +kernel
theorem dX13_length_21 : decode cX13_length 21 = .ok (.iload_n 2, 1) := by decide +kernel
theorem dX13_length_22 : decode cX13_length 22 = .ok (.ireturn, 1) := by decide +kernel
theorem dX13_byteOf_0 : decode cX13_byteOf 0 = .ok (.lload_n 0, 1) := by decide +kernel
theorem dX13_byteOf_1 : decode cX13_byteOf 1 = .ok (.bipush 8, 2) := by decide +kernel
theorem dX13_byteOf_3 : decode cX13_byteOf 3 = .ok (.iload_n 2, 1) := by decide +kernel
theorem dX13_byteOf_4 : decode cX13_byteOf 4 = .ok (.iconst 1, 1) := by decide +kernel
theorem dX13_byteOf_5 : decode cX13_byteOf 5 = .ok (.isub, 1) := by decide +kernel
theorem dX13_byteOf_6 : decode cX13_byteOf 6 = .ok (.iload_n 3, 1) := by decide +kernel
theorem dX13_byteOf_7 : decode cX13_byteOf 7 = .ok (.isub, 1) := by decide +kernel
theorem dX13_byteOf_8 : decode cX13_byteOf 8 = .ok (.imul, 1) := by decide +kernel
theorem dX13_byteOf_9 : decode cX13_byteOf 9 = .ok (.lshr, 1) := by decide +kernel
theorem dX13_byteOf_10 : decode cX13_byteOf 10 = .ok (.ldc2_w 97, 3) := by decide +kernel
theorem dX13_byteOf_13 : decode cX13_byteOf 13 = .ok (.land, 1) := by decide +kernel
theorem dX13_byteOf_14 : decode cX13_byteOf 14 = .ok (.l2i, 1) := by decide +kernel
theorem dX13_byteOf_15 : decode cX13_byteOf 15 = .ok (.ireturn, 1) := by decide +kernel
theorem dX13_isDigit_0 : decode cX13_isDigit 0 = .ok (.iload_n 0, 1) := by decide +kernel
theorem dX13_isDigit_1 : decode cX13_isDigit 1 = .ok (.bipush 48, 2) := by decide +kernel
theorem dX13_isDigit_3 : decode cX13_isDigit 3 = .ok (.if_icmp .lt 13, 3) := by decide +kernel
theorem dX13_isDigit_6 : decode cX13_isDigit 6 = .ok (.iload_n 0, 1) := by decide +kernel
theorem dX13_isDigit_7 : decode cX13_isDigit 7 = .ok (.bipush 57, 2) := by decide +kernel
theorem dX13_isDigit_9 : decode cX13_isDigit 9 = .ok (.if_icmp .gt 7, 3) := by decide +kernel
theorem dX13_isDigit_12 : decode cX13_isDigit 12 = .ok (.iconst 1, 1) := by decide +kernel
theorem dX13_isDigit_13 : decode cX13_isDigit 13 = .ok (.goto 4, 3) := by decide +kernel
theorem dX13_isDigit_16 : decode cX13_isDigit 16 = .ok (.iconst 0, 1) := by decide +kernel
theorem dX13_isDigit_17 : decode cX13_isDigit 17 = .ok (.ireturn, 1) := by decide +kernel
theorem dX13_isNumber_0 : decode cX13_isNumber 0 = .ok (.lload_n 0, 1) := by decide +kernel
theorem dX13_isNumber_1 : decode cX13_isNumber 1 = .ok (.invokestatic 99, 3) := by decide +kernel
theorem dX13_isNumber_4 : decode cX13_isNumber 4 = .ok (.istore_n 2, 1) := by decide +kernel
theorem dX13_isNumber_5 : decode cX13_isNumber 5 = .ok (.lload_n 0, 1) := by decide +kernel
theorem dX13_isNumber_6 : decode cX13_isNumber 6 = .ok (.lconst 0, 1) := by decide +kernel
theorem dX13_isNumber_7 : decode cX13_isNumber 7 = .ok (.lcmp, 1) := by decide +kernel
theorem dX13_isNumber_8 : decode cX13_isNumber 8 = .ok (.ifCond .le 13, 3) := by decide +kernel
theorem dX13_isNumber_11 : decode cX13_isNumber 11 = .ok (.iload_n 2, 1) := by decide +kernel
theorem dX13_isNumber_12 : decode cX13_isNumber 12 = .ok (.bipush 6, 2) := by decide +kernel
theorem dX13_isNumber_14 : decode cX13_isNumber 14 = .ok (.if_icmp .gt 7, 3) := by decide +kernel
theorem dX13_isNumber_17 : decode cX13_isNumber 17 = .ok (.iconst 1, 1) := by decide +kernel
theorem dX13_isNumber_18 : decode cX13_isNumber 18 = .ok (.goto 4, 3) := by decide +kernel
theorem dX13_isNumber_21 : decode cX13_isNumber 21 = .ok (.iconst 0, 1) := by decide +kernel
theorem dX13_isNumber_22 : decode cX13_isNumber 22 = .ok (.istore_n 3, 1) := by decide +kernel
theorem dX13_isNumber_23 : decode cX13_isNumber 23 = .ok (.iconst 0, 1) := by decide +kernel
theorem dX13_isNumber_24 : decode cX13_isNumber 24 = .ok (.istore 4, 2) := by decide +kernel
theorem dX13_isNumber_26 : decode cX13_isNumber 26 = .ok (.iload 4, 2) := by decide +kernel
theorem dX13_isNumber_28 : decode cX13_isNumber 28 = .ok (.iload_n 2, 1) := by decide +kernel
theorem dX13_isNumber_29 : decode cX13_isNumber 29 = .ok (.if_icmp .ge 24, 3) := by decide +kernel
theorem dX13_isNumber_32 : decode cX13_isNumber 32 = .ok (.iload_n 3, 1) := by decide +kernel
theorem dX13_isNumber_33 : decode cX13_isNumber 33 = .ok (.ifCond .eq 20, 3) := by decide +kernel
theorem dX13_isNumber_36 : decode cX13_isNumber 36 = .ok (.lload_n 0, 1) := by decide +kernel
theorem dX13_isNumber_37 : decode cX13_isNumber 37 = .ok (.iload_n 2, 1) := by decide +kernel
theorem dX13_isNumber_38 : decode cX13_isNumber 38 = .ok (.iload 4, 2) := by decide +kernel
theorem dX13_isNumber_40 : decode cX13_isNumber 40 = .ok (.invokestatic 103, 3) := by decide +kernel
theorem dX13_isNumber_43 : decode cX13_isNumber 43 = .ok (.invokestatic 107, 3) := by decide +kernel
theorem dX13_isNumber_46 : decode cX13_isNumber 46 = .ok (.istore_n 3, 1) := by decide +kernel
theorem dX13_isNumber_47 : decode cX13_isNumber 47 = .ok (.iinc 4 1, 3) := by decide +kernel
theorem dX13_isNumber_50 : decode cX13_isNumber 50 = .ok (.goto (-24), 3) := by decide +kernel
theorem dX13_isNumber_53 : decode cX13_isNumber 53 = .ok (.iload_n 3, 1) := by decide +kernel
theorem dX13_isNumber_54 : decode cX13_isNumber 54 = .ok (.ireturn, 1) := by decide +kernel
theorem dX13_numberOf_0 : decode cX13_numberOf 0 = .ok (.lload_n 0, 1) := by decide +kernel
theorem dX13_numberOf_1 : decode cX13_numberOf 1 = .ok (.invokestatic 99, 3) := by decide +kernel
theorem dX13_numberOf_4 : decode cX13_numberOf 4 = .ok (.istore_n 2, 1) := by decide +kernel
theorem dX13_numberOf_5 : decode cX13_numberOf 5 = .ok (.iconst 0, 1) := by decide +kernel
theorem dX13_numberOf_6 : decode cX13_numberOf 6 = .ok (.istore_n 3, 1) := by decide +kernel
theorem dX13_numberOf_7 : decode cX13_numberOf 7 = .ok (.iconst 0, 1) := by decide +kernel
theorem dX13_numberOf_8 : decode cX13_numberOf 8 = .ok (.istore 4, 2) := by decide +kernel
theorem dX13_numberOf_10 : decode cX13_numberOf 10 = .ok (.iload 4, 2) := by decide +kernel
theorem dX13_numberOf_12 : decode cX13_numberOf 12 = .ok (.iload_n 2, 1) := by decide +kernel
theorem dX13_numberOf_13 : decode cX13_numberOf 13 = .ok (.if_icmp .ge 25, 3) := by decide +kernel
theorem dX13_numberOf_16 : decode cX13_numberOf 16 = .ok (.bipush 10, 2) := by decide +kernel
theorem dX13_numberOf_18 : decode cX13_numberOf 18 = .ok (.iload_n 3, 1) := by decide +kernel
theorem dX13_numberOf_19 : decode cX13_numberOf 19 = .ok (.imul, 1) := by decide +kernel
theorem dX13_numberOf_20 : decode cX13_numberOf 20 = .ok (.lload_n 0, 1) := by decide +kernel
theorem dX13_numberOf_21 : decode cX13_numberOf 21 = .ok (.iload_n 2, 1) := by decide +kernel
theorem dX13_numberOf_22 : decode cX13_numberOf 22 = .ok (.iload 4, 2) := by decide +kernel
theorem dX13_numberOf_24 : decode cX13_numberOf 24 = .ok (.invokestatic 103, 3) := by decide +kernel
theorem dX13_numberOf_27 : decode cX13_numberOf 27 = .ok (.iadd, 1) := by decide +kernel
theorem dX13_numberOf_28 : decode cX13_numberOf 28 = .ok (.bipush 48, 2) := by decide +kernel
theorem dX13_numberOf_30 : decode cX13_numberOf 30 = .ok (.isub, 1) := by decide +kernel
theorem dX13_numberOf_31 : decode cX13_numberOf 31 = .ok (.istore_n 3, 1) := by decide +kernel
theorem dX13_numberOf_32 : decode cX13_numberOf 32 = .ok (.iinc 4 1, 3) := by decide +kernel
theorem dX13_numberOf_35 : decode cX13_numberOf 35 = .ok (.goto (-25), 3) := by decide +kernel
theorem dX13_numberOf_38 : decode cX13_numberOf 38 = .ok (.iload_n 3, 1) := by decide +kernel
theorem dX13_numberOf_39 : decode cX13_numberOf 39 = .ok (.ireturn, 1) := by decide +kernel
theorem dX13_textOf_0 : decode cX13_textOf 0 = .ok (.lconst 0, 1) := by decide +kernel
theorem dX13_textOf_1 : decode cX13_textOf 1 = .ok (.lstore_n 1, 1) := by decide +kernel
theorem dX13_textOf_2 : decode cX13_textOf 2 = .ok (.iconst 0, 1) := by decide +kernel
theorem dX13_textOf_3 : decode cX13_textOf 3 = .ok (.istore_n 3, 1) := by decide +kernel
theorem dX13_textOf_4 : decode cX13_textOf 4 = .ok (.iload_n 0, 1) := by decide +kernel
theorem dX13_textOf_5 : decode cX13_textOf 5 = .ok (.istore 4, 2) := by decide +kernel
theorem dX13_textOf_7 : decode cX13_textOf 7 = .ok (.lload_n 1, 1) := by decide +kernel
theorem dX13_textOf_8 : decode cX13_textOf 8 = .ok (.bipush 48, 2) := by decide +kernel
theorem dX13_textOf_10 : decode cX13_textOf 10 = .ok (.iload 4, 2) := by decide +kernel
theorem dX13_textOf_12 : decode cX13_textOf 12 = .ok (.bipush 10, 2) := by decide +kernel
theorem dX13_textOf_14 : decode cX13_textOf 14 = .ok (.irem, 1) := by decide +kernel
theorem dX13_textOf_15 : decode cX13_textOf 15 = .ok (.iadd, 1) := by decide +kernel
theorem dX13_textOf_16 : decode cX13_textOf 16 = .ok (.i2l, 1) := by decide +kernel
theorem dX13_textOf_17 : decode cX13_textOf 17 = .ok (.iload_n 3, 1) := by decide +kernel
theorem dX13_textOf_18 : decode cX13_textOf 18 = .ok (.lshl, 1) := by decide +kernel
theorem dX13_textOf_19 : decode cX13_textOf 19 = .ok (.lor, 1) := by decide +kernel
theorem dX13_textOf_20 : decode cX13_textOf 20 = .ok (.lstore_n 1, 1) := by decide +kernel
theorem dX13_textOf_21 : decode cX13_textOf 21 = .ok (.iinc 3 8, 3) := by decide +kernel
theorem dX13_textOf_24 : decode cX13_textOf 24 = .ok (.iload 4, 2) := by decide +kernel
theorem dX13_textOf_26 : decode cX13_textOf 26 = .ok (.bipush 10, 2) := by decide +kernel
theorem dX13_textOf_28 : decode cX13_textOf 28 = .ok (.idiv, 1) := by decide +kernel
theorem dX13_textOf_29 : decode cX13_textOf 29 = .ok (.istore 4, 2) := by decide +kernel
theorem dX13_textOf_31 : decode cX13_textOf 31 = .ok (.iload 4, 2) := by decide +kernel
theorem dX13_textOf_33 : decode cX13_textOf 33 = .ok (.ifCond .gt (-26), 3) := by decide +kernel
theorem dX13_textOf_36 : decode cX13_textOf 36 = .ok (.lload_n 1, 1) := by decide +kernel
theorem dX13_textOf_37 : decode cX13_textOf 37 = .ok (.lreturn, 1) := by decide +kernel
theorem dX13_order_0 : decode cX13_order 0 = .ok (.lload_n 0, 1) := by decide +kernel
theorem dX13_order_1 : decode cX13_order 1 = .ok (.bipush 8, 2) := by decide +kernel
theorem dX13_order_3 : decode cX13_order 3 = .ok (.bipush 7, 2) := by decide +kernel
theorem dX13_order_5 : decode cX13_order 5 = .ok (.lload_n 0, 1) := by decide +kernel
theorem dX13_order_6 : decode cX13_order 6 = .ok (.invokestatic 99, 3) := by decide +kernel
theorem dX13_order_9 : decode cX13_order 9 = .ok (.isub, 1) := by decide +kernel
theorem dX13_order_10 : decode cX13_order 10 = .ok (.imul, 1) := by decide +kernel
theorem dX13_order_11 : decode cX13_order 11 = .ok (.lshl, 1) := by decide +kernel
theorem dX13_order_12 : decode cX13_order 12 = .ok (.lreturn, 1) := by decide +kernel
theorem dX13_markOf_0 : decode cX13_markOf 0 = .ok (.iload_n 0, 1) := by decide +kernel
theorem dX13_markOf_1 : decode cX13_markOf 1 = .ok (.ifCond .ne 8, 3) := by decide +kernel
theorem dX13_markOf_4 : decode cX13_markOf 4 = .ok (.bipush 45, 2) := by decide +kernel
theorem dX13_markOf_6 : decode cX13_markOf 6 = .ok (.goto 25, 3) := by decide +kernel
theorem dX13_markOf_9 : decode cX13_markOf 9 = .ok (.iload_n 0, 1) := by decide +kernel
theorem dX13_markOf_10 : decode cX13_markOf 10 = .ok (.iconst 1, 1) := by decide +kernel
theorem dX13_markOf_11 : decode cX13_markOf 11 = .ok (.if_icmp .ne 8, 3) := by decide +kernel
theorem dX13_markOf_14 : decode cX13_markOf 14 = .ok (.bipush 58, 2) := by decide +kernel
theorem dX13_markOf_16 : decode cX13_markOf 16 = .ok (.goto 15, 3) := by decide +kernel
theorem dX13_markOf_19 : decode cX13_markOf 19 = .ok (.iload_n 0, 1) := by decide +kernel
theorem dX13_markOf_20 : decode cX13_markOf 20 = .ok (.iconst 2, 1) := by decide +kernel
theorem dX13_markOf_21 : decode cX13_markOf 21 = .ok (.if_icmp .ne 8, 3) := by decide +kernel
theorem dX13_markOf_24 : decode cX13_markOf 24 = .ok (.bipush 47, 2) := by decide +kernel
theorem dX13_markOf_26 : decode cX13_markOf 26 = .ok (.goto 5, 3) := by decide +kernel
theorem dX13_markOf_29 : decode cX13_markOf 29 = .ok (.bipush 46, 2) := by decide +kernel
theorem dX13_markOf_31 : decode cX13_markOf 31 = .ok (.ireturn, 1) := by decide +kernel
theorem dX13_isTable_0 : decode cX13_isTable 0 = .ok (.iload_n 0, 1) := by decide +kernel
theorem dX13_isTable_1 : decode cX13_isTable 1 = .ok (.i2l, 1) := by decide +kernel
theorem dX13_isTable_2 : decode cX13_isTable 2 = .ok (.lconst 0, 1) := by decide +kernel
theorem dX13_isTable_3 : decode cX13_isTable 3 = .ok (.ldc2_w 111, 3) := by decide +kernel
theorem dX13_isTable_6 : decode cX13_isTable 6 = .ok (.invokestatic 113, 3) := by decide +kernel
theorem dX13_isTable_9 : decode cX13_isTable 9 = .ok (.ireturn, 1) := by decide +kernel
theorem dX13_cellAt_0 : decode cX13_cellAt 0 = .ok (.aload_n 0, 1) := by decide +kernel
theorem dX13_cellAt_1 : decode cX13_cellAt 1 = .ok (.getfield 16, 3) := by decide +kernel
theorem dX13_cellAt_4 : decode cX13_cellAt 4 = .ok (.aload_n 0, 1) := by decide +kernel
theorem dX13_cellAt_5 : decode cX13_cellAt 5 = .ok (.getfield 117, 3) := by decide +kernel
theorem dX13_cellAt_8 : decode cX13_cellAt 8 = .ok (.iload_n 1, 1) := by decide +kernel
theorem dX13_cellAt_9 : decode cX13_cellAt 9 = .ok (.iload_n 2, 1) := by decide +kernel
theorem dX13_cellAt_10 : decode cX13_cellAt 10 = .ok (.invokestatic 120, 3) := by decide +kernel
theorem dX13_cellAt_13 : decode cX13_cellAt 13 = .ok (.laload, 1) := by decide +kernel
theorem dX13_cellAt_14 : decode cX13_cellAt 14 = .ok (.lreturn, 1) := by decide +kernel
theorem dX13_put_0 : decode cX13_put 0 = .ok (.aload_n 0, 1) := by decide +kernel
theorem dX13_put_1 : decode cX13_put 1 = .ok (.getfield 16, 3) := by decide +kernel
theorem dX13_put_4 : decode cX13_put 4 = .ok (.bipush 10, 2) := by decide +kernel
theorem dX13_put_6 : decode cX13_put 6 = .ok (.iload_n 1, 1) := by decide +kernel
theorem dX13_put_7 : decode cX13_put 7 = .ok (.iload_n 2, 1) := by decide +kernel
theorem dX13_put_8 : decode cX13_put 8 = .ok (.invokestatic 120, 3) := by decide +kernel
theorem dX13_put_11 : decode cX13_put 11 = .ok (.lload_n 3, 1) := by decide +kernel
theorem dX13_put_12 : decode cX13_put 12 = .ok (.lastore, 1) := by decide +kernel
theorem dX13_put_13 : decode cX13_put 13 = .ok (.return_, 1) := by decide +kernel
theorem dX13_hasAny_0 : decode cX13_hasAny 0 = .ok (.iconst 0, 1) := by decide +kernel
theorem dX13_hasAny_1 : decode cX13_hasAny 1 = .ok (.istore_n 2, 1) := by decide +kernel
theorem dX13_hasAny_2 : decode cX13_hasAny 2 = .ok (.iload_n 2, 1) := by decide +kernel
theorem dX13_hasAny_3 : decode cX13_hasAny 3 = .ok (.aload_n 0, 1) := by decide +kernel
theorem dX13_hasAny_4 : decode cX13_hasAny 4 = .ok (.getfield 9, 3) := by decide +kernel
theorem dX13_hasAny_7 : decode cX13_hasAny 7 = .ok (.iload_n 1, 1) := by decide +kernel
theorem dX13_hasAny_8 : decode cX13_hasAny 8 = .ok (.iaload, 1) := by decide +kernel
theorem dX13_hasAny_9 : decode cX13_hasAny 9 = .ok (.if_icmp .ge 47, 3) := by decide +kernel
theorem dX13_hasAny_12 : decode cX13_hasAny 12 = .ok (.iconst 0, 1) := by decide +kernel
theorem dX13_hasAny_13 : decode cX13_hasAny 13 = .ok (.istore_n 3, 1) := by decide +kernel
theorem dX13_hasAny_14 : decode cX13_hasAny 14 = .ok (.iload_n 3, 1) := by decide +kernel
theorem dX13_hasAny_15 : decode cX13_hasAny 15 = .ok (.aload_n 0, 1) := by decide +kernel
theorem dX13_hasAny_16 : decode cX13_hasAny 16 = .ok (.getfield 13, 3) := by decide +kernel
theorem dX13_hasAny_19 : decode cX13_hasAny 19 = .ok (.iload_n 1, 1) := by decide +kernel
theorem dX13_hasAny_20 : decode cX13_hasAny 20 = .ok (.iaload, 1) := by decide +kernel
theorem dX13_hasAny_21 : decode cX13_hasAny 21 = .ok (.if_icmp .ge 29, 3) := by decide +kernel
theorem dX13_hasAny_24 : decode cX13_hasAny 24 = .ok (.aload_n 0, 1) := by decide +kernel
theorem dX13_hasAny_25 : decode cX13_hasAny 25 = .ok (.getfield 16, 3) := by decide +kernel
theorem dX13_hasAny_28 : decode cX13_hasAny 28 = .ok (.iload_n 1, 1) := by decide +kernel
theorem dX13_hasAny_29 : decode cX13_hasAny 29 = .ok (.iload_n 2, 1) := by decide +kernel
theorem dX13_hasAny_30 : decode cX13_hasAny 30 = .ok (.iload_n 3, 1) := by decide +kernel
theorem dX13_hasAny_31 : decode cX13_hasAny 31 = .ok (.invokestatic 120, 3) := by decide +kernel
theorem dX13_hasAny_34 : decode cX13_hasAny 34 = .ok (.laload, 1) := by decide +kernel
theorem dX13_hasAny_35 : decode cX13_hasAny 35 = .ok (.ldc2_w 124, 3) := by decide +kernel
theorem dX13_hasAny_38 : decode cX13_hasAny 38 = .ok (.lcmp, 1) := by decide +kernel
theorem dX13_hasAny_39 : decode cX13_hasAny 39 = .ok (.ifCond .ne 5, 3) := by decide +kernel
theorem dX13_hasAny_42 : decode cX13_hasAny 42 = .ok (.iconst 1, 1) := by decide +kernel
theorem dX13_hasAny_43 : decode cX13_hasAny 43 = .ok (.ireturn, 1) := by decide +kernel
theorem dX13_hasAny_44 : decode cX13_hasAny 44 = .ok (.iinc 3 1, 3) := by decide +kernel
theorem dX13_hasAny_47 : decode cX13_hasAny 47 = .ok (.goto (-33), 3) := by decide +kernel
theorem dX13_hasAny_50 : decode cX13_hasAny 50 = .ok (.iinc 2 1, 3) := by decide +kernel
theorem dX13_hasAny_53 : decode cX13_hasAny 53 = .ok (.goto (-51), 3) := by decide +kernel
theorem dX13_hasAny_56 : decode cX13_hasAny 56 = .ok (.iconst 0, 1) := by decide +kernel
theorem dX13_hasAny_57 : decode cX13_hasAny 57 = .ok (.ireturn, 1) := by decide +kernel
theorem dX13_makes_0 : decode cX13_makes 0 = .ok (.aload_n 0, 1) := by decide +kernel
theorem dX13_makes_1 : decode cX13_makes 1 = .ok (.iload_n 1, 1) := by decide +kernel
theorem dX13_makes_2 : decode cX13_makes 2 = .ok (.putfield 117, 3) := by decide +kernel
theorem dX13_makes_5 : decode cX13_makes 5 = .ok (.aload_n 0, 1) := by decide +kernel
theorem dX13_makes_6 : decode cX13_makes 6 = .ok (.aload_n 0, 1) := by decide +kernel
theorem dX13_makes_7 : decode cX13_makes 7 = .ok (.getfield 9, 3) := by decide +kernel
theorem dX13_makes_10 : decode cX13_makes 10 = .ok (.iload_n 1, 1) := by decide +kernel
theorem dX13_makes_11 : decode cX13_makes 11 = .ok (.iaload, 1) := by decide +kernel
theorem dX13_makes_12 : decode cX13_makes 12 = .ok (.putfield 126, 3) := by decide +kernel
theorem dX13_makes_15 : decode cX13_makes 15 = .ok (.aload_n 0, 1) := by decide +kernel
theorem dX13_makes_16 : decode cX13_makes 16 = .ok (.getfield 13, 3) := by decide +kernel
theorem dX13_makes_19 : decode cX13_makes 19 = .ok (.iload_n 1, 1) := by decide +kernel
theorem dX13_makes_20 : decode cX13_makes 20 = .ok (.iaload, 1) := by decide +kernel
theorem dX13_makes_21 : decode cX13_makes 21 = .ok (.istore 5, 2) := by decide +kernel
theorem dX13_makes_23 : decode cX13_makes 23 = .ok (.aload_n 0, 1) := by decide +kernel
theorem dX13_makes_24 : decode cX13_makes 24 = .ok (.iload_n 1, 1) := by decide +kernel
theorem dX13_makes_25 : decode cX13_makes 25 = .ok (.invokevirtual 129, 3) := by decide +kernel
theorem dX13_makes_28 : decode cX13_makes 28 = .ok (.ifCond .ne 12, 3) := by decide +kernel
theorem dX13_makes_31 : decode cX13_makes 31 = .ok (.iload_n 3, 1) := by decide +kernel
theorem dX13_makes_32 : decode cX13_makes 32 = .ok (.ifCond .lt 8, 3) := by decide +kernel
theorem dX13_makes_35 : decode cX13_makes 35 = .ok (.iload 4, 2) := by decide +kernel
theorem dX13_makes_37 : decode cX13_makes 37 = .ok (.ifCond .ge 5, 3) := by decide +kernel
theorem dX13_makes_40 : decode cX13_makes 40 = .ok (.iconst 0, 1) := by decide +kernel
theorem dX13_makes_41 : decode cX13_makes 41 = .ok (.ireturn, 1) := by decide +kernel
theorem dX13_makes_42 : decode cX13_makes 42 = .ok (.iload_n 2, 1) := by decide +kernel
theorem dX13_makes_43 : decode cX13_makes 43 = .ok (.iconst 1, 1) := by decide +kernel
theorem dX13_makes_44 : decode cX13_makes 44 = .ok (.if_icmp .eq 21, 3) := by decide +kernel
theorem dX13_makes_47 : decode cX13_makes 47 = .ok (.iload_n 2, 1) := by decide +kernel
theorem dX13_makes_48 : decode cX13_makes 48 = .ok (.bipush 7, 2) := by decide +kernel
theorem dX13_makes_50 : decode cX13_makes 50 = .ok (.if_icmp .eq 15, 3) := by decide +kernel
theorem dX13_makes_53 : decode cX13_makes 53 = .ok (.iload_n 2, 1) := by decide +kernel
theorem dX13_makes_54 : decode cX13_makes 54 = .ok (.bipush 9, 2) := by decide +kernel
theorem dX13_makes_56 : decode cX13_makes 56 = .ok (.if_icmp .eq 9, 3) := by decide +kernel
theorem dX13_makes_59 : decode cX13_makes 59 = .ok (.iload_n 2, 1) := by decide +kernel
theorem dX13_makes_60 : decode cX13_makes 60 = .ok (.bipush 13, 2) := by decide +kernel
theorem dX13_makes_62 : decode cX13_makes 62 = .ok (.if_icmp .ne 7, 3) := by decide +kernel
theorem dX13_makes_65 : decode cX13_makes 65 = .ok (.iconst 1, 1) := by decide +kernel
theorem dX13_makes_66 : decode cX13_makes 66 = .ok (.goto 4, 3) := by decide +kernel
theorem dX13_makes_69 : decode cX13_makes 69 = .ok (.iconst 0, 1) := by decide +kernel
theorem dX13_makes_70 : decode cX13_makes 70 = .ok (.istore 6, 2) := by decide +kernel
theorem dX13_makes_72 : decode cX13_makes 72 = .ok (.iload_n 2, 1) := by decide +kernel
theorem dX13_makes_73 : decode cX13_makes 73 = .ok (.iconst 3, 1) := by decide +kernel
theorem dX13_makes_74 : decode cX13_makes 74 = .ok (.if_icmp .eq 14, 3) := by decide +kernel
theorem dX13_makes_77 : decode cX13_makes 77 = .ok (.iload_n 2, 1) := by decide +kernel
theorem dX13_makes_78 : decode cX13_makes 78 = .ok (.iconst 5, 1) := by decide +kernel
theorem dX13_makes_79 : decode cX13_makes 79 = .ok (.if_icmp .eq 9, 3) := by decide +kernel
theorem dX13_makes_82 : decode cX13_makes 82 = .ok (.iload_n 2, 1) := by decide +kernel
theorem dX13_makes_83 : decode cX13_makes 83 = .ok (.bipush 11, 2) := by decide +kernel
theorem dX13_makes_85 : decode cX13_makes 85 = .ok (.if_icmp .ne 7, 3) := by decide +kernel
theorem dX13_makes_88 : decode cX13_makes 88 = .ok (.iconst 1, 1) := by decide +kernel
theorem dX13_makes_89 : decode cX13_makes 89 = .ok (.goto 4, 3) := by decide +kernel
theorem dX13_makes_92 : decode cX13_makes 92 = .ok (.iconst 0, 1) := by decide +kernel
