theorem dX6_foundOf_6 : decode cX6_foundOf 6 = .ok (.imul, 1) := by decide +kernel
theorem dX6_foundOf_7 : decode cX6_foundOf 7 = .ok (.iconst 3, 1) := by decide +kernel
theorem dX6_foundOf_8 : decode cX6_foundOf 8 = .ok (.iadd, 1) := by decide +kernel
theorem dX6_foundOf_9 : decode cX6_foundOf 9 = .ok (.iaload, 1) := by decide +kernel
theorem dX6_foundOf_10 : decode cX6_foundOf 10 = .ok (.istore_n 2, 1) := by decide +kernel
theorem dX6_foundOf_11 : decode cX6_foundOf 11 = .ok (.aload_n 0, 1) := by decide +kernel
theorem dX6_foundOf_12 : decode cX6_foundOf 12 = .ok (.iload_n 1, 1) := by decide +kernel
theorem dX6_foundOf_13 : decode cX6_foundOf 13 = .ok (.invokevirtual 130, 3) := by decide +kernel
theorem dX6_foundOf_16 : decode cX6_foundOf 16 = .ok (.istore_n 3, 1) := by decide +kernel
theorem dX6_foundOf_17 : decode cX6_foundOf 17 = .ok (.aload_n 0, 1) := by decide +kernel
theorem dX6_foundOf_18 : decode cX6_foundOf 18 = .ok (.getfield 23, 3) := by decide +kernel
theorem dX6_foundOf_21 : decode cX6_foundOf 21 = .ok (.iconst 4, 1) := by decide +kernel
theorem dX6_foundOf_22 : decode cX6_foundOf 22 = .ok (.iload_n 1, 1) := by decide +kernel
theorem dX6_foundOf_23 : decode cX6_foundOf 23 = .ok (.imul, 1) := by decide +kernel
theorem dX6_foundOf_24 : decode cX6_foundOf 24 = .ok (.iconst 2, 1) := by decide +kernel
theorem dX6_foundOf_25 : decode cX6_foundOf 25 = .ok (.iadd, 1) := by decide +kernel
theorem dX6_foundOf_26 : decode cX6_foundOf 26 = .ok (.iaload, 1) := by decide +kernel
theorem dX6_foundOf_27 : decode cX6_foundOf 27 = .ok (.istore 4, 2) := by decide +kernel
theorem dX6_foundOf_29 : decode cX6_foundOf 29 = .ok (.aload_n 0, 1) := by decide +kernel
theorem dX6_foundOf_30 : decode cX6_foundOf 30 = .ok (.getfield 106, 3) := by decide +kernel
theorem dX6_foundOf_33 : decode cX6_foundOf 33 = .ok (.iload_n 3, 1) := by decide +kernel
theorem dX6_foundOf_34 : decode cX6_foundOf 34 = .ok (.invokestatic 91, 3) := by decide +kernel
theorem dX6_foundOf_37 : decode cX6_foundOf 37 = .ok (.ifCond .ne 15, 3) := by decide +kernel
theorem dX6_foundOf_40 : decode cX6_foundOf 40 = .ok (.iload_n 2, 1) := by decide +kernel
theorem dX6_foundOf_41 : decode cX6_foundOf 41 = .ok (.iconst 5, 1) := by decide +kernel
theorem dX6_foundOf_42 : decode cX6_foundOf 42 = .ok (.if_icmp .ne 12, 3) := by decide +kernel
theorem dX6_foundOf_45 : decode cX6_foundOf 45 = .ok (.iload 4, 2) := by decide +kernel
theorem dX6_foundOf_47 : decode cX6_foundOf 47 = .ok (.bipush 49, 2) := by decide +kernel
theorem dX6_foundOf_49 : decode cX6_foundOf 49 = .ok (.if_icmp .le 5, 3) := by decide +kernel
theorem dX6_foundOf_52 : decode cX6_foundOf 52 = .ok (.iconst 2, 1) := by decide +kernel
theorem dX6_foundOf_53 : decode cX6_foundOf 53 = .ok (.ireturn, 1) := by decide +kernel
theorem dX6_foundOf_54 : decode cX6_foundOf 54 = .ok (.iload_n 2, 1) := by decide +kernel
theorem dX6_foundOf_55 : decode cX6_foundOf 55 = .ok (.iconst 4, 1) := by decide +kernel
theorem dX6_foundOf_56 : decode cX6_foundOf 56 = .ok (.if_icmp .ne 5, 3) := by decide +kernel
theorem dX6_foundOf_59 : decode cX6_foundOf 59 = .ok (.iconst 0, 1) := by decide +kernel
theorem dX6_foundOf_60 : decode cX6_foundOf 60 = .ok (.ireturn, 1) := by decide +kernel
theorem dX6_foundOf_61 : decode cX6_foundOf 61 = .ok (.iload_n 2, 1) := by decide +kernel
theorem dX6_foundOf_62 : decode cX6_foundOf 62 = .ok (.iconst 1, 1) := by decide +kernel
theorem dX6_foundOf_63 : decode cX6_foundOf 63 = .ok (.if_icmp .eq 8, 3) := by decide +kernel
theorem dX6_foundOf_66 : decode cX6_foundOf 66 = .ok (.iload_n 2, 1) := by decide +kernel
theorem dX6_foundOf_67 : decode cX6_foundOf 67 = .ok (.iconst 3, 1) := by decide +kernel
theorem dX6_foundOf_68 : decode cX6_foundOf 68 = .ok (.if_icmp .ne 13, 3) := by decide +kernel
theorem dX6_foundOf_71 : decode cX6_foundOf 71 = .ok (.iload 4, 2) := by decide +kernel
theorem dX6_foundOf_73 : decode cX6_foundOf 73 = .ok (.iconst 5, 1) := by decide +kernel
theorem dX6_foundOf_74 : decode cX6_foundOf 74 = .ok (.if_icmp .ge 7, 3) := by decide +kernel
theorem dX6_foundOf_77 : decode cX6_foundOf 77 = .ok (.iconst 1, 1) := by decide +kernel
theorem dX6_foundOf_78 : decode cX6_foundOf 78 = .ok (.goto 4, 3) := by decide +kernel
theorem dX6_foundOf_81 : decode cX6_foundOf 81 = .ok (.iconst 0, 1) := by decide +kernel
theorem dX6_foundOf_82 : decode cX6_foundOf 82 = .ok (.istore 5, 2) := by decide +kernel
theorem dX6_foundOf_84 : decode cX6_foundOf 84 = .ok (.iload 5, 2) := by decide +kernel
theorem dX6_foundOf_86 : decode cX6_foundOf 86 = .ok (.ifCond .ne 10, 3) := by decide +kernel
theorem dX6_foundOf_89 : decode cX6_foundOf 89 = .ok (.iload_n 3, 1) := by decide +kernel
theorem dX6_foundOf_90 : decode cX6_foundOf 90 = .ok (.invokestatic 359, 3) := by decide +kernel
theorem dX6_foundOf_93 : decode cX6_foundOf 93 = .ok (.ifCond .eq 7, 3) := by decide +kernel
theorem dX6_foundOf_96 : decode cX6_foundOf 96 = .ok (.iconst 1, 1) := by decide +kernel
theorem dX6_foundOf_97 : decode cX6_foundOf 97 = .ok (.goto 4, 3) := by decide +kernel
theorem dX6_foundOf_100 : decode cX6_foundOf 100 = .ok (.iconst 0, 1) := by decide +kernel
theorem dX6_foundOf_101 : decode cX6_foundOf 101 = .ok (.ireturn, 1) := by decide +kernel
theorem dX6_isBlack_0 : decode cX6_isBlack 0 = .ok (.iload_n 0, 1) := by decide +kernel
theorem dX6_isBlack_1 : decode cX6_isBlack 1 = .ok (.bipush 8, 2) := by decide +kernel
theorem dX6_isBlack_3 : decode cX6_isBlack 3 = .ok (.irem, 1) := by decide +kernel
theorem dX6_isBlack_4 : decode cX6_isBlack 4 = .ok (.iload_n 0, 1) := by decide +kernel
theorem dX6_isBlack_5 : decode cX6_isBlack 5 = .ok (.bipush 8, 2) := by decide +kernel
theorem dX6_isBlack_7 : decode cX6_isBlack 7 = .ok (.idiv, 1) := by decide +kernel
theorem dX6_isBlack_8 : decode cX6_isBlack 8 = .ok (.iadd, 1) := by decide +kernel
theorem dX6_isBlack_9 : decode cX6_isBlack 9 = .ok (.iconst 2, 1) := by decide +kernel
theorem dX6_isBlack_10 : decode cX6_isBlack 10 = .ok (.irem, 1) := by decide +kernel
theorem dX6_isBlack_11 : decode cX6_isBlack 11 = .ok (.iconst 1, 1) := by decide +kernel
theorem dX6_isBlack_12 : decode cX6_isBlack 12 = .ok (.if_icmp .ne 7, 3) := by decide +kernel
theorem dX6_isBlack_15 : decode cX6_isBlack 15 = .ok (.iconst 1, 1) := by decide +kernel
theorem dX6_isBlack_16 : decode cX6_isBlack 16 = .ok (.goto 4, 3) := by decide +kernel
theorem dX6_isBlack_19 : decode cX6_isBlack 19 = .ok (.iconst 0, 1) := by decide +kernel
theorem dX6_isBlack_20 : decode cX6_isBlack 20 = .ok (.ireturn, 1) := by decide +kernel
theorem dX6_columnsBy_0 : decode cX6_columnsBy 0 = .ok (.iload_n 0, 1) := by decide +kernel
theorem dX6_columnsBy_1 : decode cX6_columnsBy 1 = .ok (.ifCond .eq 8, 3) := by decide +kernel
theorem dX6_columnsBy_4 : decode cX6_columnsBy 4 = .ok (.iload_n 0, 1) := by decide +kernel
theorem dX6_columnsBy_5 : decode cX6_columnsBy 5 = .ok (.iconst 3, 1) := by decide +kernel
theorem dX6_columnsBy_6 : decode cX6_columnsBy 6 = .ok (.if_icmp .ne 7, 3) := by decide +kernel
theorem dX6_columnsBy_9 : decode cX6_columnsBy 9 = .ok (.iconst 1, 1) := by decide +kernel
theorem dX6_columnsBy_10 : decode cX6_columnsBy 10 = .ok (.goto 34, 3) := by decide +kernel
theorem dX6_columnsBy_13 : decode cX6_columnsBy 13 = .ok (.iload_n 0, 1) := by decide +kernel
theorem dX6_columnsBy_14 : decode cX6_columnsBy 14 = .ok (.iconst 1, 1) := by decide +kernel
theorem dX6_columnsBy_15 : decode cX6_columnsBy 15 = .ok (.if_icmp .eq 8, 3) := by decide +kernel
theorem dX6_columnsBy_18 : decode cX6_columnsBy 18 = .ok (.iload_n 0, 1) := by decide +kernel
theorem dX6_columnsBy_19 : decode cX6_columnsBy 19 = .ok (.iconst 2, 1) := by decide +kernel
theorem dX6_columnsBy_20 : decode cX6_columnsBy 20 = .ok (.if_icmp .ne 7, 3) := by decide +kernel
theorem dX6_columnsBy_23 : decode cX6_columnsBy 23 = .ok (.iconst 2, 1) := by decide +kernel
theorem dX6_columnsBy_24 : decode cX6_columnsBy 24 = .ok (.goto 20, 3) := by decide +kernel
theorem dX6_columnsBy_27 : decode cX6_columnsBy 27 = .ok (.iload_n 0, 1) := by decide +kernel
theorem dX6_columnsBy_28 : decode cX6_columnsBy 28 = .ok (.iconst 4, 1) := by decide +kernel
theorem dX6_columnsBy_29 : decode cX6_columnsBy 29 = .ok (.if_icmp .eq 9, 3) := by decide +kernel
theorem dX6_columnsBy_32 : decode cX6_columnsBy 32 = .ok (.iload_n 0, 1) := by decide +kernel
theorem dX6_columnsBy_33 : decode cX6_columnsBy 33 = .ok (.bipush 7, 2) := by decide +kernel
theorem dX6_columnsBy_35 : decode cX6_columnsBy 35 = .ok (.if_icmp .ne 7, 3) := by decide +kernel
theorem dX6_columnsBy_38 : decode cX6_columnsBy 38 = .ok (.iconst (-1), 1) := by decide +kernel
theorem dX6_columnsBy_39 : decode cX6_columnsBy 39 = .ok (.goto 5, 3) := by decide +kernel
theorem dX6_columnsBy_42 : decode cX6_columnsBy 42 = .ok (.bipush (-2), 2) := by decide +kernel
theorem dX6_columnsBy_44 : decode cX6_columnsBy 44 = .ok (.ireturn, 1) := by decide +kernel
theorem dX6_rowsBy_0 : decode cX6_rowsBy 0 = .ok (.iload_n 0, 1) := by decide +kernel
theorem dX6_rowsBy_1 : decode cX6_rowsBy 1 = .ok (.ifCond .eq 9, 3) := by decide +kernel
theorem dX6_rowsBy_4 : decode cX6_rowsBy 4 = .ok (.iload_n 0, 1) := by decide +kernel
theorem dX6_rowsBy_5 : decode cX6_rowsBy 5 = .ok (.bipush 7, 2) := by decide +kernel
theorem dX6_rowsBy_7 : decode cX6_rowsBy 7 = .ok (.if_icmp .ne 7, 3) := by decide +kernel
theorem dX6_rowsBy_10 : decode cX6_rowsBy 10 = .ok (.iconst 2, 1) := by decide +kernel
theorem dX6_rowsBy_11 : decode cX6_rowsBy 11 = .ok (.goto 34, 3) := by decide +kernel
theorem dX6_rowsBy_14 : decode cX6_rowsBy 14 = .ok (.iload_n 0, 1) := by decide +kernel
theorem dX6_rowsBy_15 : decode cX6_rowsBy 15 = .ok (.iconst 1, 1) := by decide +kernel
theorem dX6_rowsBy_16 : decode cX6_rowsBy 16 = .ok (.if_icmp .eq 9, 3) := by decide +kernel
theorem dX6_rowsBy_19 : decode cX6_rowsBy 19 = .ok (.iload_n 0, 1) := by decide +kernel
theorem dX6_rowsBy_20 : decode cX6_rowsBy 20 = .ok (.bipush 6, 2) := by decide +kernel
theorem dX6_rowsBy_22 : decode cX6_rowsBy 22 = .ok (.if_icmp .ne 7, 3) := by decide +kernel
theorem dX6_rowsBy_25 : decode cX6_rowsBy 25 = .ok (.iconst 1, 1) := by decide +kernel
theorem dX6_rowsBy_26 : decode cX6_rowsBy 26 = .ok (.goto 19, 3) := by decide +kernel
theorem dX6_rowsBy_29 : decode cX6_rowsBy 29 = .ok (.iload_n 0, 1) := by decide +kernel
theorem dX6_rowsBy_30 : decode cX6_rowsBy 30 = .ok (.iconst 2, 1) := by decide +kernel
theorem dX6_rowsBy_31 : decode cX6_rowsBy 31 = .ok (.if_icmp .eq 8, 3) := by decide +kernel
theorem dX6_rowsBy_34 : decode cX6_rowsBy 34 = .ok (.iload_n 0, 1) := by decide +kernel
theorem dX6_rowsBy_35 : decode cX6_rowsBy 35 = .ok (.iconst 5, 1) := by decide +kernel
theorem dX6_rowsBy_36 : decode cX6_rowsBy 36 = .ok (.if_icmp .ne 7, 3) := by decide +kernel
theorem dX6_rowsBy_39 : decode cX6_rowsBy 39 = .ok (.iconst (-1), 1) := by decide +kernel
theorem dX6_rowsBy_40 : decode cX6_rowsBy 40 = .ok (.goto 5, 3) := by decide +kernel
theorem dX6_rowsBy_43 : decode cX6_rowsBy 43 = .ok (.bipush (-2), 2) := by decide +kernel
theorem dX6_rowsBy_45 : decode cX6_rowsBy 45 = .ok (.ireturn, 1) := by decide +kernel
set_option maxRecDepth 20000 in
theorem dX6_leapFrom_0 : decode cX6_leapFrom 0 = .ok (.aload_n 0, 1) := by decide +kernel
theorem dX6_leapFrom_1 : decode cX6_leapFrom 1 = .ok (.getfield 23, 3) := by decide +kernel
theorem dX6_leapFrom_4 : decode cX6_leapFrom 4 = .ok (.iconst 4, 1) := by decide +kernel
theorem dX6_leapFrom_5 : decode cX6_leapFrom 5 = .ok (.iload_n 1, 1) := by decide +kernel
theorem dX6_leapFrom_6 : decode cX6_leapFrom 6 = .ok (.imul, 1) := by decide +kernel
theorem dX6_leapFrom_7 : decode cX6_leapFrom 7 = .ok (.iconst 3, 1) := by decide +kernel
theorem dX6_leapFrom_8 : decode cX6_leapFrom 8 = .ok (.iadd, 1) := by decide +kernel
theorem dX6_leapFrom_9 : decode cX6_leapFrom 9 = .ok (.iaload, 1) := by decide +kernel
theorem dX6_leapFrom_10 : decode cX6_leapFrom 10 = .ok (.istore 4, 2) := by decide +kernel
theorem dX6_leapFrom_12 : decode cX6_leapFrom 12 = .ok (.iload 4, 2) := by decide +kernel
theorem dX6_leapFrom_14 : decode cX6_leapFrom 14 = .ok (.iconst 2, 1) := by decide +kernel
theorem dX6_leapFrom_15 : decode cX6_leapFrom 15 = .ok (.if_icmp .eq 9, 3) := by decide +kernel
theorem dX6_leapFrom_18 : decode cX6_leapFrom 18 = .ok (.iload 4, 2) := by decide +kernel
theorem dX6_leapFrom_20 : decode cX6_leapFrom 20 = .ok (.iconst 4, 1) := by decide +kernel
theorem dX6_leapFrom_21 : decode cX6_leapFrom 21 = .ok (.if_icmp .ne 7, 3) := by decide +kernel
theorem dX6_leapFrom_24 : decode cX6_leapFrom 24 = .ok (.iconst 1, 1) := by decide +kernel
theorem dX6_leapFrom_25 : decode cX6_leapFrom 25 = .ok (.goto 4, 3) := by decide +kernel
theorem dX6_leapFrom_28 : decode cX6_leapFrom 28 = .ok (.iconst 0, 1) := by decide +kernel
theorem dX6_leapFrom_29 : decode cX6_leapFrom 29 = .ok (.istore 5, 2) := by decide +kernel
theorem dX6_leapFrom_31 : decode cX6_leapFrom 31 = .ok (.iload 5, 2) := by decide +kernel
theorem dX6_leapFrom_33 : decode cX6_leapFrom 33 = .ok (.ifCond .eq 10, 3) := by decide +kernel
theorem dX6_leapFrom_36 : decode cX6_leapFrom 36 = .ok (.iload_n 3, 1) := by decide +kernel
theorem dX6_leapFrom_37 : decode cX6_leapFrom 37 = .ok (.iconst 2, 1) := by decide +kernel
theorem dX6_leapFrom_38 : decode cX6_leapFrom 38 = .ok (.irem, 1) := by decide +kernel
theorem dX6_leapFrom_39 : decode cX6_leapFrom 39 = .ok (.iconst 1, 1) := by decide +kernel
theorem dX6_leapFrom_40 : decode cX6_leapFrom 40 = .ok (.if_icmp .eq 58, 3) := by decide +kernel
theorem dX6_leapFrom_43 : decode cX6_leapFrom 43 = .ok (.iload 4, 2) := by decide +kernel
theorem dX6_leapFrom_45 : decode cX6_leapFrom 45 = .ok (.iconst 3, 1) := by decide +kernel
theorem dX6_leapFrom_46 : decode cX6_leapFrom 46 = .ok (.if_icmp .ne 15, 3) := by decide +kernel
theorem dX6_leapFrom_49 : decode cX6_leapFrom 49 = .ok (.iload_n 3, 1) := by decide +kernel
theorem dX6_leapFrom_50 : decode cX6_leapFrom 50 = .ok (.aload_n 0, 1) := by decide +kernel
theorem dX6_leapFrom_51 : decode cX6_leapFrom 51 = .ok (.getfield 23, 3) := by decide +kernel
theorem dX6_leapFrom_54 : decode cX6_leapFrom 54 = .ok (.iconst 4, 1) := by decide +kernel
theorem dX6_leapFrom_55 : decode cX6_leapFrom 55 = .ok (.iload_n 1, 1) := by decide +kernel
theorem dX6_leapFrom_56 : decode cX6_leapFrom 56 = .ok (.imul, 1) := by decide +kernel
theorem dX6_leapFrom_57 : decode cX6_leapFrom 57 = .ok (.iaload, 1) := by decide +kernel
theorem dX6_leapFrom_58 : decode cX6_leapFrom 58 = .ok (.if_icmp .eq 40, 3) := by decide +kernel
theorem dX6_leapFrom_61 : decode cX6_leapFrom 61 = .ok (.iload 4, 2) := by decide +kernel
theorem dX6_leapFrom_63 : decode cX6_leapFrom 63 = .ok (.iconst 4, 1) := by decide +kernel
theorem dX6_leapFrom_64 : decode cX6_leapFrom 64 = .ok (.if_icmp .ne 13, 3) := by decide +kernel
theorem dX6_leapFrom_67 : decode cX6_leapFrom 67 = .ok (.aload_n 0, 1) := by decide +kernel
theorem dX6_leapFrom_68 : decode cX6_leapFrom 68 = .ok (.getfield 103, 3) := by decide +kernel
theorem dX6_leapFrom_71 : decode cX6_leapFrom 71 = .ok (.iconst 2, 1) := by decide +kernel
theorem dX6_leapFrom_72 : decode cX6_leapFrom 72 = .ok (.irem, 1) := by decide +kernel
theorem dX6_leapFrom_73 : decode cX6_leapFrom 73 = .ok (.iconst 1, 1) := by decide +kernel
theorem dX6_leapFrom_74 : decode cX6_leapFrom 74 = .ok (.if_icmp .eq 24, 3) := by decide +kernel
theorem dX6_leapFrom_77 : decode cX6_leapFrom 77 = .ok (.iload 4, 2) := by decide +kernel
theorem dX6_leapFrom_79 : decode cX6_leapFrom 79 = .ok (.iconst 5, 1) := by decide +kernel
theorem dX6_leapFrom_80 : decode cX6_leapFrom 80 = .ok (.if_icmp .ne 20, 3) := by decide +kernel
theorem dX6_leapFrom_83 : decode cX6_leapFrom 83 = .ok (.aload_n 0, 1) := by decide +kernel
theorem dX6_leapFrom_84 : decode cX6_leapFrom 84 = .ok (.getfield 23, 3) := by decide +kernel
theorem dX6_leapFrom_87 : decode cX6_leapFrom 87 = .ok (.iconst 4, 1) := by decide +kernel
theorem dX6_leapFrom_88 : decode cX6_leapFrom 88 = .ok (.iload_n 1, 1) := by decide +kernel
theorem dX6_leapFrom_89 : decode cX6_leapFrom 89 = .ok (.imul, 1) := by decide +kernel
theorem dX6_leapFrom_90 : decode cX6_leapFrom 90 = .ok (.iconst 2, 1) := by decide +kernel
theorem dX6_leapFrom_91 : decode cX6_leapFrom 91 = .ok (.iadd, 1) := by decide +kernel
theorem dX6_leapFrom_92 : decode cX6_leapFrom 92 = .ok (.iaload, 1) := by decide +kernel
theorem dX6_leapFrom_93 : decode cX6_leapFrom 93 = .ok (.bipush 49, 2) := by decide +kernel
theorem dX6_leapFrom_95 : decode cX6_leapFrom 95 = .ok (.if_icmp .le 5, 3) := by decide +kernel
theorem dX6_leapFrom_98 : decode cX6_leapFrom 98 = .ok (.iconst (-1), 1) := by decide +kernel
theorem dX6_leapFrom_99 : decode cX6_leapFrom 99 = .ok (.ireturn, 1) := by decide +kernel
theorem dX6_leapFrom_100 : decode cX6_leapFrom 100 = .ok (.iload_n 3, 1) := by decide +kernel
theorem dX6_leapFrom_101 : decode cX6_leapFrom 101 = .ok (.invokestatic 362, 3) := by decide +kernel
theorem dX6_leapFrom_104 : decode cX6_leapFrom 104 = .ok (.istore 6, 2) := by decide +kernel
theorem dX6_leapFrom_106 : decode cX6_leapFrom 106 = .ok (.iload_n 3, 1) := by decide +kernel
theorem dX6_leapFrom_107 : decode cX6_leapFrom 107 = .ok (.invokestatic 365, 3) := by decide +kernel
theorem dX6_leapFrom_110 : decode cX6_leapFrom 110 = .ok (.istore 7, 2) := by decide +kernel
theorem dX6_leapFrom_112 : decode cX6_leapFrom 112 = .ok (.iload 4, 2) := by decide +kernel
theorem dX6_leapFrom_114 : decode cX6_leapFrom 114 = .ok (.iconst 1, 1) := by decide +kernel
theorem dX6_leapFrom_115 : decode cX6_leapFrom 115 = .ok (.if_icmp .eq 9, 3) := by decide +kernel
theorem dX6_leapFrom_118 : decode cX6_leapFrom 118 = .ok (.iload 4, 2) := by decide +kernel
theorem dX6_leapFrom_120 : decode cX6_leapFrom 120 = .ok (.iconst 3, 1) := by decide +kernel
theorem dX6_leapFrom_121 : decode cX6_leapFrom 121 = .ok (.if_icmp .ne 38, 3) := by decide +kernel
theorem dX6_leapFrom_124 : decode cX6_leapFrom 124 = .ok (.iload_n 3, 1) := by decide +kernel
theorem dX6_leapFrom_125 : decode cX6_leapFrom 125 = .ok (.iconst 4, 1) := by decide +kernel
theorem dX6_leapFrom_126 : decode cX6_leapFrom 126 = .ok (.if_icmp .ge 33, 3) := by decide +kernel
theorem dX6_leapFrom_129 : decode cX6_leapFrom 129 = .ok (.iload_n 3, 1) := by decide +kernel
theorem dX6_leapFrom_130 : decode cX6_leapFrom 130 = .ok (.iconst 2, 1) := by decide +kernel
theorem dX6_leapFrom_131 : decode cX6_leapFrom 131 = .ok (.if_icmp .ge 7, 3) := by decide +kernel
theorem dX6_leapFrom_134 : decode cX6_leapFrom 134 = .ok (.iconst 2, 1) := by decide +kernel
theorem dX6_leapFrom_135 : decode cX6_leapFrom 135 = .ok (.goto 5, 3) := by decide +kernel
theorem dX6_leapFrom_138 : decode cX6_leapFrom 138 = .ok (.bipush (-2), 2) := by decide +kernel
theorem dX6_leapFrom_140 : decode cX6_leapFrom 140 = .ok (.istore 6, 2) := by decide +kernel
theorem dX6_leapFrom_142 : decode cX6_leapFrom 142 = .ok (.iload_n 3, 1) := by decide +kernel
theorem dX6_leapFrom_143 : decode cX6_leapFrom 143 = .ok (.ifCond .eq 8, 3) := by decide +kernel
theorem dX6_leapFrom_146 : decode cX6_leapFrom 146 = .ok (.iload_n 3, 1) := by decide +kernel
theorem dX6_leapFrom_147 : decode cX6_leapFrom 147 = .ok (.iconst 3, 1) := by decide +kernel
theorem dX6_leapFrom_148 : decode cX6_leapFrom 148 = .ok (.if_icmp .ne 7, 3) := by decide +kernel
theorem dX6_leapFrom_151 : decode cX6_leapFrom 151 = .ok (.iconst 2, 1) := by decide +kernel
theorem dX6_leapFrom_152 : decode cX6_leapFrom 152 = .ok (.goto 5, 3) := by decide +kernel
theorem dX6_leapFrom_155 : decode cX6_leapFrom 155 = .ok (.bipush (-2), 2) := by decide +kernel
theorem dX6_leapFrom_157 : decode cX6_leapFrom 157 = .ok (.istore 7, 2) := by decide +kernel
theorem dX6_leapFrom_159 : decode cX6_leapFrom 159 = .ok (.iload 5, 2) := by decide +kernel
theorem dX6_leapFrom_161 : decode cX6_leapFrom 161 = .ok (.ifCond .eq 45, 3) := by decide +kernel
theorem dX6_leapFrom_164 : decode cX6_leapFrom 164 = .ok (.iload_n 3, 1) := by decide +kernel
theorem dX6_leapFrom_165 : decode cX6_leapFrom 165 = .ok (.iconst 2, 1) := by decide +kernel
theorem dX6_leapFrom_166 : decode cX6_leapFrom 166 = .ok (.if_icmp .ne 7, 3) := by decide +kernel
theorem dX6_leapFrom_169 : decode cX6_leapFrom 169 = .ok (.iconst 1, 1) := by decide +kernel
theorem dX6_leapFrom_170 : decode cX6_leapFrom 170 = .ok (.goto 14, 3) := by decide +kernel
theorem dX6_leapFrom_173 : decode cX6_leapFrom 173 = .ok (.iload_n 3, 1) := by decide +kernel
theorem dX6_leapFrom_174 : decode cX6_leapFrom 174 = .ok (.bipush 6, 2) := by decide +kernel
theorem dX6_leapFrom_176 : decode cX6_leapFrom 176 = .ok (.if_icmp .ne 7, 3) := by decide +kernel
theorem dX6_leapFrom_179 : decode cX6_leapFrom 179 = .ok (.iconst (-1), 1) := by decide +kernel
theorem dX6_leapFrom_180 : decode cX6_leapFrom 180 = .ok (.goto 4, 3) := by decide +kernel
theorem dX6_leapFrom_183 : decode cX6_leapFrom 183 = .ok (.iconst 0, 1) := by decide +kernel
theorem dX6_leapFrom_184 : decode cX6_leapFrom 184 = .ok (.istore 6, 2) := by decide +kernel
theorem dX6_leapFrom_186 : decode cX6_leapFrom 186 = .ok (.iload_n 3, 1) := by decide +kernel
theorem dX6_leapFrom_187 : decode cX6_leapFrom 187 = .ok (.ifCond .ne 7, 3) := by decide +kernel
theorem dX6_leapFrom_190 : decode cX6_leapFrom 190 = .ok (.iconst 1, 1) := by decide +kernel
theorem dX6_leapFrom_191 : decode cX6_leapFrom 191 = .ok (.goto 13, 3) := by decide +kernel
theorem dX6_leapFrom_194 : decode cX6_leapFrom 194 = .ok (.iload_n 3, 1) := by decide +kernel
theorem dX6_leapFrom_195 : decode cX6_leapFrom 195 = .ok (.iconst 4, 1) := by decide +kernel
theorem dX6_leapFrom_196 : decode cX6_leapFrom 196 = .ok (.if_icmp .ne 7, 3) := by decide +kernel
theorem dX6_leapFrom_199 : decode cX6_leapFrom 199 = .ok (.iconst (-1), 1) := by decide +kernel
theorem dX6_leapFrom_200 : decode cX6_leapFrom 200 = .ok (.goto 4, 3) := by decide +kernel
theorem dX6_leapFrom_203 : decode cX6_leapFrom 203 = .ok (.iconst 0, 1) := by decide +kernel
theorem dX6_leapFrom_204 : decode cX6_leapFrom 204 = .ok (.istore 7, 2) := by decide +kernel
theorem dX6_leapFrom_206 : decode cX6_leapFrom 206 = .ok (.iload_n 2, 1) := by decide +kernel
theorem dX6_leapFrom_207 : decode cX6_leapFrom 207 = .ok (.bipush 8, 2) := by decide +kernel
theorem dX6_leapFrom_209 : decode cX6_leapFrom 209 = .ok (.irem, 1) := by decide +kernel
theorem dX6_leapFrom_210 : decode cX6_leapFrom 210 = .ok (.iload 6, 2) := by decide +kernel
theorem dX6_leapFrom_212 : decode cX6_leapFrom 212 = .ok (.iadd, 1) := by decide +kernel
theorem dX6_leapFrom_213 : decode cX6_leapFrom 213 = .ok (.istore 8, 2) := by decide +kernel
theorem dX6_leapFrom_215 : decode cX6_leapFrom 215 = .ok (.iload_n 2, 1) := by decide +kernel
theorem dX6_leapFrom_216 : decode cX6_leapFrom 216 = .ok (.bipush 8, 2) := by decide +kernel
theorem dX6_leapFrom_218 : decode cX6_leapFrom 218 = .ok (.idiv, 1) := by decide +kernel
theorem dX6_leapFrom_219 : decode cX6_leapFrom 219 = .ok (.iload 7, 2) := by decide +kernel
theorem dX6_leapFrom_221 : decode cX6_leapFrom 221 = .ok (.iadd, 1) := by decide +kernel
theorem dX6_leapFrom_222 : decode cX6_leapFrom 222 = .ok (.istore 9, 2) := by decide +kernel
theorem dX6_leapFrom_224 : decode cX6_leapFrom 224 = .ok (.iload 8, 2) := by decide +kernel
theorem dX6_leapFrom_226 : decode cX6_leapFrom 226 = .ok (.i2l, 1) := by decide +kernel
theorem dX6_leapFrom_227 : decode cX6_leapFrom 227 = .ok (.lconst 0, 1) := by decide +kernel
theorem dX6_leapFrom_228 : decode cX6_leapFrom 228 = .ok (.ldc2_w 368, 3) := by decide +kernel
theorem dX6_leapFrom_231 : decode cX6_leapFrom 231 = .ok (.invokestatic 61, 3) := by decide +kernel
theorem dX6_leapFrom_234 : decode cX6_leapFrom 234 = .ok (.ifCond .eq 34, 3) := by decide +kernel
theorem dX6_leapFrom_237 : decode cX6_leapFrom 237 = .ok (.iload 9, 2) := by decide +kernel
theorem dX6_leapFrom_239 : decode cX6_leapFrom 239 = .ok (.i2l, 1) := by decide +kernel
theorem dX6_leapFrom_240 : decode cX6_leapFrom 240 = .ok (.lconst 0, 1) := by decide +kernel
theorem dX6_leapFrom_241 : decode cX6_leapFrom 241 = .ok (.ldc2_w 368, 3) := by decide +kernel
theorem dX6_leapFrom_244 : decode cX6_leapFrom 244 = .ok (.invokestatic 61, 3) := by decide +kernel
theorem dX6_leapFrom_247 : decode cX6_leapFrom 247 = .ok (.ifCond .eq 21, 3) := by decide +kernel
theorem dX6_leapFrom_250 : decode cX6_leapFrom 250 = .ok (.aload_n 0, 1) := by decide +kernel
theorem dX6_leapFrom_251 : decode cX6_leapFrom 251 = .ok (.getfield 87, 3) := by decide +kernel
theorem dX6_leapFrom_254 : decode cX6_leapFrom 254 = .ok (.bipush 8, 2) := by decide +kernel
theorem dX6_leapFrom_256 : decode cX6_leapFrom 256 = .ok (.iload 9, 2) := by decide +kernel
theorem dX6_leapFrom_258 : decode cX6_leapFrom 258 = .ok (.imul, 1) := by decide +kernel
theorem dX6_leapFrom_259 : decode cX6_leapFrom 259 = .ok (.iload 8, 2) := by decide +kernel
theorem dX6_leapFrom_261 : decode cX6_leapFrom 261 = .ok (.iadd, 1) := by decide +kernel
theorem dX6_leapFrom_262 : decode cX6_leapFrom 262 = .ok (.invokestatic 91, 3) := by decide +kernel
theorem dX6_leapFrom_265 : decode cX6_leapFrom 265 = .ok (.ifCond .eq 5, 3) := by decide +kernel
theorem dX6_leapFrom_268 : decode cX6_leapFrom 268 = .ok (.iconst (-1), 1) := by decide +kernel
theorem dX6_leapFrom_269 : decode cX6_leapFrom 269 = .ok (.ireturn, 1) := by decide +kernel
theorem dX6_leapFrom_270 : decode cX6_leapFrom 270 = .ok (.bipush 8, 2) := by decide +kernel
theorem dX6_leapFrom_272 : decode cX6_leapFrom 272 = .ok (.iload 9, 2) := by decide +kernel
theorem dX6_leapFrom_274 : decode cX6_leapFrom 274 = .ok (.imul, 1) := by decide +kernel
theorem dX6_leapFrom_275 : decode cX6_leapFrom 275 = .ok (.iload 8, 2) := by decide +kernel
theorem dX6_leapFrom_277 : decode cX6_leapFrom 277 = .ok (.iadd, 1) := by decide +kernel
theorem dX6_leapFrom_278 : decode cX6_leapFrom 278 = .ok (.ireturn, 1) := by decide +kernel
set_option maxRecDepth 20000 in
theorem dX6_leap_0 : decode cX6_leap 0 = .ok (.aload_n 0, 1) := by decide +kernel
theorem dX6_leap_1 : decode cX6_leap 1 = .ok (.iload_n 1, 1) := by decide +kernel
theorem dX6_leap_2 : decode cX6_leap 2 = .ok (.invokevirtual 65, 3) := by decide +kernel
theorem dX6_leap_5 : decode cX6_leap 5 = .ok (.ifCond .eq 29, 3) := by decide +kernel
theorem dX6_leap_8 : decode cX6_leap 8 = .ok (.iload_n 2, 1) := by decide +kernel
theorem dX6_leap_9 : decode cX6_leap 9 = .ok (.i2l, 1) := by decide +kernel
theorem dX6_leap_10 : decode cX6_leap 10 = .ok (.lconst 0, 1) := by decide +kernel
theorem dX6_leap_11 : decode cX6_leap 11 = .ok (.ldc2_w 368, 3) := by decide +kernel
theorem dX6_leap_14 : decode cX6_leap 14 = .ok (.invokestatic 61, 3) := by decide +kernel
theorem dX6_leap_17 : decode cX6_leap 17 = .ok (.ifCond .eq 17, 3) := by decide +kernel
theorem dX6_leap_20 : decode cX6_leap 20 = .ok (.aload_n 0, 1) := by decide +kernel
theorem dX6_leap_21 : decode cX6_leap 21 = .ok (.iload_n 1, 1) := by decide +kernel
theorem dX6_leap_22 : decode cX6_leap 22 = .ok (.aload_n 0, 1) := by decide +kernel
theorem dX6_leap_23 : decode cX6_leap 23 = .ok (.iload_n 1, 1) := by decide +kernel
theorem dX6_leap_24 : decode cX6_leap 24 = .ok (.invokevirtual 130, 3) := by decide +kernel
theorem dX6_leap_27 : decode cX6_leap 27 = .ok (.iload_n 2, 1) := by decide +kernel
theorem dX6_leap_28 : decode cX6_leap 28 = .ok (.invokevirtual 370, 3) := by decide +kernel
theorem dX6_leap_31 : decode cX6_leap 31 = .ok (.goto 5, 3) := by decide +kernel
theorem dX6_leap_34 : decode cX6_leap 34 = .ok (.bipush (-2), 2) := by decide +kernel
theorem dX6_leap_36 : decode cX6_leap 36 = .ok (.ireturn, 1) := by decide +kernel
set_option maxRecDepth 20000 in
theorem dX6_passes_0 : decode cX6_passes 0 = .ok (.iconst 0, 1) := by decide +kernel
theorem dX6_passes_1 : decode cX6_passes 1 = .ok (.istore_n 1, 1) := by decide +kernel
theorem dX6_passes_2 : decode cX6_passes 2 = .ok (.iconst 0, 1) := by decide +kernel
theorem dX6_passes_3 : decode cX6_passes 3 = .ok (.istore_n 2, 1) := by decide +kernel
theorem dX6_passes_4 : decode cX6_passes 4 = .ok (.iload_n 2, 1) := by decide +kernel
theorem dX6_passes_5 : decode cX6_passes 5 = .ok (.aload_n 0, 1) := by decide +kernel
theorem dX6_passes_6 : decode cX6_passes 6 = .ok (.getfield 58, 3) := by decide +kernel
theorem dX6_passes_9 : decode cX6_passes 9 = .ok (.if_icmp .ge 144, 3) := by decide +kernel
theorem dX6_passes_12 : decode cX6_passes 12 = .ok (.aload_n 0, 1) := by decide +kernel
theorem dX6_passes_13 : decode cX6_passes 13 = .ok (.iload_n 2, 1) := by decide +kernel
theorem dX6_passes_14 : decode cX6_passes 14 = .ok (.invokevirtual 121, 3) := by decide +kernel
theorem dX6_passes_17 : decode cX6_passes 17 = .ok (.istore_n 3, 1) := by decide +kernel
theorem dX6_passes_18 : decode cX6_passes 18 = .ok (.aload_n 0, 1) := by decide +kernel
theorem dX6_passes_19 : decode cX6_passes 19 = .ok (.iload_n 2, 1) := by decide +kernel
theorem dX6_passes_20 : decode cX6_passes 20 = .ok (.invokevirtual 124, 3) := by decide +kernel
theorem dX6_passes_23 : decode cX6_passes 23 = .ok (.istore 4, 2) := by decide +kernel
theorem dX6_passes_25 : decode cX6_passes 25 = .ok (.iload_n 2, 1) := by decide +kernel
theorem dX6_passes_26 : decode cX6_passes 26 = .ok (.aload_n 0, 1) := by decide +kernel
theorem dX6_passes_27 : decode cX6_passes 27 = .ok (.getfield 26, 3) := by decide +kernel
theorem dX6_passes_30 : decode cX6_passes 30 = .ok (.if_icmp .ne 7, 3) := by decide +kernel
theorem dX6_passes_33 : decode cX6_passes 33 = .ok (.iconst (-1), 1) := by decide +kernel
theorem dX6_passes_34 : decode cX6_passes 34 = .ok (.goto 18, 3) := by decide +kernel
theorem dX6_passes_37 : decode cX6_passes 37 = .ok (.aload_n 0, 1) := by decide +kernel
theorem dX6_passes_38 : decode cX6_passes 38 = .ok (.iload_n 2, 1) := by decide +kernel
theorem dX6_passes_39 : decode cX6_passes 39 = .ok (.aload_n 0, 1) := by decide +kernel
theorem dX6_passes_40 : decode cX6_passes 40 = .ok (.iload_n 2, 1) := by decide +kernel
theorem dX6_passes_41 : decode cX6_passes 41 = .ok (.invokevirtual 130, 3) := by decide +kernel
theorem dX6_passes_44 : decode cX6_passes 44 = .ok (.aload_n 0, 1) := by decide +kernel
theorem dX6_passes_45 : decode cX6_passes 45 = .ok (.iload_n 2, 1) := by decide +kernel
theorem dX6_passes_46 : decode cX6_passes 46 = .ok (.invokevirtual 118, 3) := by decide +kernel
theorem dX6_passes_49 : decode cX6_passes 49 = .ok (.invokevirtual 370, 3) := by decide +kernel
theorem dX6_passes_52 : decode cX6_passes 52 = .ok (.istore 5, 2) := by decide +kernel
theorem dX6_passes_54 : decode cX6_passes 54 = .ok (.aload_n 0, 1) := by decide +kernel
theorem dX6_passes_55 : decode cX6_passes 55 = .ok (.getfield 23, 3) := by decide +kernel
theorem dX6_passes_58 : decode cX6_passes 58 = .ok (.iconst 4, 1) := by decide +kernel
theorem dX6_passes_59 : decode cX6_passes 59 = .ok (.iload_n 2, 1) := by decide +kernel
theorem dX6_passes_60 : decode cX6_passes 60 = .ok (.imul, 1) := by decide +kernel
theorem dX6_passes_61 : decode cX6_passes 61 = .ok (.iconst 2, 1) := by decide +kernel
theorem dX6_passes_62 : decode cX6_passes 62 = .ok (.iadd, 1) := by decide +kernel
theorem dX6_passes_63 : decode cX6_passes 63 = .ok (.iaload, 1) := by decide +kernel
theorem dX6_passes_64 : decode cX6_passes 64 = .ok (.istore 6, 2) := by decide +kernel
theorem dX6_passes_66 : decode cX6_passes 66 = .ok (.aload_n 0, 1) := by decide +kernel
theorem dX6_passes_67 : decode cX6_passes 67 = .ok (.getfield 23, 3) := by decide +kernel
theorem dX6_passes_70 : decode cX6_passes 70 = .ok (.iconst 4, 1) := by decide +kernel
theorem dX6_passes_71 : decode cX6_passes 71 = .ok (.iload_n 2, 1) := by decide +kernel
theorem dX6_passes_72 : decode cX6_passes 72 = .ok (.imul, 1) := by decide +kernel
theorem dX6_passes_73 : decode cX6_passes 73 = .ok (.iconst 2, 1) := by decide +kernel
theorem dX6_passes_74 : decode cX6_passes 74 = .ok (.iadd, 1) := by decide +kernel
theorem dX6_passes_75 : decode cX6_passes 75 = .ok (.iload 5, 2) := by decide +kernel
theorem dX6_passes_77 : decode cX6_passes 77 = .ok (.iconst (-1), 1) := by decide +kernel
theorem dX6_passes_78 : decode cX6_passes 78 = .ok (.if_icmp .ne 11, 3) := by decide +kernel
theorem dX6_passes_81 : decode cX6_passes 81 = .ok (.iload 6, 2) := by decide +kernel
theorem dX6_passes_83 : decode cX6_passes 83 = .ok (.iload 4, 2) := by decide +kernel
theorem dX6_passes_85 : decode cX6_passes 85 = .ok (.isub, 1) := by decide +kernel
theorem dX6_passes_86 : decode cX6_passes 86 = .ok (.goto 7, 3) := by decide +kernel
theorem dX6_passes_89 : decode cX6_passes 89 = .ok (.iload 6, 2) := by decide +kernel
theorem dX6_passes_91 : decode cX6_passes 91 = .ok (.iload_n 3, 1) := by decide +kernel
theorem dX6_passes_92 : decode cX6_passes 92 = .ok (.iadd, 1) := by decide +kernel
theorem dX6_passes_93 : decode cX6_passes 93 = .ok (.iconst 0, 1) := by decide +kernel
theorem dX6_passes_94 : decode cX6_passes 94 = .ok (.bipush 99, 2) := by decide +kernel
theorem dX6_passes_96 : decode cX6_passes 96 = .ok (.invokestatic 352, 3) := by decide +kernel
theorem dX6_passes_99 : decode cX6_passes 99 = .ok (.iastore, 1) := by decide +kernel
theorem dX6_passes_100 : decode cX6_passes 100 = .ok (.aload_n 0, 1) := by decide +kernel
theorem dX6_passes_101 : decode cX6_passes 101 = .ok (.getfield 23, 3) := by decide +kernel
theorem dX6_passes_104 : decode cX6_passes 104 = .ok (.iconst 4, 1) := by decide +kernel
theorem dX6_passes_105 : decode cX6_passes 105 = .ok (.iload_n 2, 1) := by decide +kernel
theorem dX6_passes_106 : decode cX6_passes 106 = .ok (.imul, 1) := by decide +kernel
theorem dX6_passes_107 : decode cX6_passes 107 = .ok (.iconst 1, 1) := by decide +kernel
theorem dX6_passes_108 : decode cX6_passes 108 = .ok (.iadd, 1) := by decide +kernel
theorem dX6_passes_109 : decode cX6_passes 109 = .ok (.iload 5, 2) := by decide +kernel
theorem dX6_passes_111 : decode cX6_passes 111 = .ok (.iconst (-1), 1) := by decide +kernel
theorem dX6_passes_112 : decode cX6_passes 112 = .ok (.if_icmp .ne 16, 3) := by decide +kernel
theorem dX6_passes_115 : decode cX6_passes 115 = .ok (.aload_n 0, 1) := by decide +kernel
theorem dX6_passes_116 : decode cX6_passes 116 = .ok (.getfield 23, 3) := by decide +kernel
theorem dX6_passes_119 : decode cX6_passes 119 = .ok (.iconst 4, 1) := by decide +kernel
theorem dX6_passes_120 : decode cX6_passes 120 = .ok (.iload_n 2, 1) := by decide +kernel
theorem dX6_passes_121 : decode cX6_passes 121 = .ok (.imul, 1) := by decide +kernel
theorem dX6_passes_122 : decode cX6_passes 122 = .ok (.iconst 1, 1) := by decide +kernel
theorem dX6_passes_123 : decode cX6_passes 123 = .ok (.iadd, 1) := by decide +kernel
theorem dX6_passes_124 : decode cX6_passes 124 = .ok (.iaload, 1) := by decide +kernel
theorem dX6_passes_125 : decode cX6_passes 125 = .ok (.goto 5, 3) := by decide +kernel
theorem dX6_passes_128 : decode cX6_passes 128 = .ok (.iload 5, 2) := by decide +kernel
theorem dX6_passes_130 : decode cX6_passes 130 = .ok (.iastore, 1) := by decide +kernel
theorem dX6_passes_131 : decode cX6_passes 131 = .ok (.iload_n 1, 1) := by decide +kernel
theorem dX6_passes_132 : decode cX6_passes 132 = .ok (.iload 5, 2) := by decide +kernel
theorem dX6_passes_134 : decode cX6_passes 134 = .ok (.iconst (-1), 1) := by decide +kernel
theorem dX6_passes_135 : decode cX6_passes 135 = .ok (.if_icmp .ne 7, 3) := by decide +kernel
theorem dX6_passes_138 : decode cX6_passes 138 = .ok (.iconst 0, 1) := by decide +kernel
theorem dX6_passes_139 : decode cX6_passes 139 = .ok (.goto 4, 3) := by decide +kernel
theorem dX6_passes_142 : decode cX6_passes 142 = .ok (.iconst 1, 1) := by decide +kernel
theorem dX6_passes_143 : decode cX6_passes 143 = .ok (.iload_n 2, 1) := by decide +kernel
theorem dX6_passes_144 : decode cX6_passes 144 = .ok (.ishl, 1) := by decide +kernel
theorem dX6_passes_145 : decode cX6_passes 145 = .ok (.ior, 1) := by decide +kernel
theorem dX6_passes_146 : decode cX6_passes 146 = .ok (.istore_n 1, 1) := by decide +kernel
theorem dX6_passes_147 : decode cX6_passes 147 = .ok (.iinc 2 1, 3) := by decide +kernel
theorem dX6_passes_150 : decode cX6_passes 150 = .ok (.goto (-146), 3) := by decide +kernel
theorem dX6_passes_153 : decode cX6_passes 153 = .ok (.aload_n 0, 1) := by decide +kernel
theorem dX6_passes_154 : decode cX6_passes 154 = .ok (.dup, 1) := by decide +kernel
theorem dX6_passes_155 : decode cX6_passes 155 = .ok (.getfield 103, 3) := by decide +kernel
theorem dX6_passes_158 : decode cX6_passes 158 = .ok (.iconst 1, 1) := by decide +kernel
theorem dX6_passes_159 : decode cX6_passes 159 = .ok (.iadd, 1) := by decide +kernel
theorem dX6_passes_160 : decode cX6_passes 160 = .ok (.putfield 103, 3) := by decide +kernel
theorem dX6_passes_163 : decode cX6_passes 163 = .ok (.iload_n 1, 1) := by decide +kernel
theorem dX6_passes_164 : decode cX6_passes 164 = .ok (.ireturn, 1) := by decide +kernel
set_option maxRecDepth 20000 in
theorem dX6_minute_0 : decode cX6_minute 0 = .ok (.aload_n 0, 1) := by decide +kernel
theorem dX6_minute_1 : decode cX6_minute 1 = .ok (.getfield 103, 3) := by decide +kernel
theorem dX6_minute_4 : decode cX6_minute 4 = .ok (.sipush 999, 3) := by decide +kernel
theorem dX6_minute_7 : decode cX6_minute 7 = .ok (.if_icmp .ne 8, 3) := by decide +kernel
theorem dX6_minute_10 : decode cX6_minute 10 = .ok (.bipush (-3), 2) := by decide +kernel
theorem dX6_minute_12 : decode cX6_minute 12 = .ok (.goto 7, 3) := by decide +kernel
theorem dX6_minute_15 : decode cX6_minute 15 = .ok (.aload_n 0, 1) := by decide +kernel
theorem dX6_minute_16 : decode cX6_minute 16 = .ok (.invokevirtual 373, 3) := by decide +kernel
theorem dX6_minute_19 : decode cX6_minute 19 = .ok (.ireturn, 1) := by decide +kernel
theorem dX6_laysAside_0 : decode cX6_laysAside 0 = .ok (.iconst 0, 1) := by decide +kernel
theorem dX6_laysAside_1 : decode cX6_laysAside 1 = .ok (.istore_n 1, 1) := by decide +kernel
theorem dX6_laysAside_2 : decode cX6_laysAside 2 = .ok (.iload_n 1, 1) := by decide +kernel
theorem dX6_laysAside_3 : decode cX6_laysAside 3 = .ok (.bipush 20, 2) := by decide +kernel
theorem dX6_laysAside_5 : decode cX6_laysAside 5 = .ok (.if_icmp .ge 21, 3) := by decide +kernel
theorem dX6_laysAside_8 : decode cX6_laysAside 8 = .ok (.aload_n 0, 1) := by decide +kernel
theorem dX6_laysAside_9 : decode cX6_laysAside 9 = .ok (.getfield 29, 3) := by decide +kernel
theorem dX6_laysAside_12 : decode cX6_laysAside 12 = .ok (.iload_n 1, 1) := by decide +kernel
theorem dX6_laysAside_13 : decode cX6_laysAside 13 = .ok (.aload_n 0, 1) := by decide +kernel
theorem dX6_laysAside_14 : decode cX6_laysAside 14 = .ok (.getfield 23, 3) := by decide +kernel
theorem dX6_laysAside_17 : decode cX6_laysAside 17 = .ok (.iload_n 1, 1) := by decide +kernel
theorem dX6_laysAside_18 : decode cX6_laysAside 18 = .ok (.iaload, 1) := by decide +kernel
theorem dX6_laysAside_19 : decode cX6_laysAside 19 = .ok (.iastore, 1) := by decide +kernel
theorem dX6_laysAside_20 : decode cX6_laysAside 20 = .ok (.iinc 1 1, 3) := by decide +kernel
theorem dX6_laysAside_23 : decode cX6_laysAside 23 = .ok (.goto (-21), 3) := by decide +kernel
theorem dX6_laysAside_26 : decode cX6_laysAside 26 = .ok (.aload_n 0, 1) := by decide +kernel
theorem dX6_laysAside_27 : decode cX6_laysAside 27 = .ok (.getfield 29, 3) := by decide +kernel
theorem dX6_laysAside_30 : decode cX6_laysAside 30 = .ok (.bipush 20, 2) := by decide +kernel
theorem dX6_laysAside_32 : decode cX6_laysAside 32 = .ok (.aload_n 0, 1) := by decide +kernel
theorem dX6_laysAside_33 : decode cX6_laysAside 33 = .ok (.getfield 103, 3) := by decide +kernel
theorem dX6_laysAside_36 : decode cX6_laysAside 36 = .ok (.iastore, 1) := by decide +kernel
theorem dX6_laysAside_37 : decode cX6_laysAside 37 = .ok (.return_, 1) := by decide +kernel
theorem dX6_laysBack_0 : decode cX6_laysBack 0 = .ok (.iconst 0, 1) := by decide +kernel
theorem dX6_laysBack_1 : decode cX6_laysBack 1 = .ok (.istore_n 1, 1) := by decide +kernel
theorem dX6_laysBack_2 : decode cX6_laysBack 2 = .ok (.iload_n 1, 1) := by decide +kernel
theorem dX6_laysBack_3 : decode cX6_laysBack 3 = .ok (.bipush 20, 2) := by decide +kernel
theorem dX6_laysBack_5 : decode cX6_laysBack 5 = .ok (.if_icmp .ge 21, 3) := by decide +kernel
theorem dX6_laysBack_8 : decode cX6_laysBack 8 = .ok (.aload_n 0, 1) := by decide +kernel
theorem dX6_laysBack_9 : decode cX6_laysBack 9 = .ok (.getfield 23, 3) := by decide +kernel
theorem dX6_laysBack_12 : decode cX6_laysBack 12 = .ok (.iload_n 1, 1) := by decide +kernel
theorem dX6_laysBack_13 : decode cX6_laysBack 13 = .ok (.aload_n 0, 1) := by decide +kernel
theorem dX6_laysBack_14 : decode cX6_laysBack 14 = .ok (.getfield 29, 3) := by decide +kernel
theorem dX6_laysBack_17 : decode cX6_laysBack 17 = .ok (.iload_n 1, 1) := by decide +kernel
theorem dX6_laysBack_18 : decode cX6_laysBack 18 = .ok (.iaload, 1) := by decide +kernel
theorem dX6_laysBack_19 : decode cX6_laysBack 19 = .ok (.iastore, 1) := by decide +kernel
theorem dX6_laysBack_20 : decode cX6_laysBack 20 = .ok (.iinc 1 1, 3) := by decide +kernel
theorem dX6_laysBack_23 : decode cX6_laysBack 23 = .ok (.goto (-21), 3) := by decide +kernel
theorem dX6_laysBack_26 : decode cX6_laysBack 26 = .ok (.aload_n 0, 1) := by decide +kernel
theorem dX6_laysBack_27 : decode cX6_laysBack 27 = .ok (.aload_n 0, 1) := by decide +kernel
theorem dX6_laysBack_28 : decode cX6_laysBack 28 = .ok (.getfield 29, 3) := by decide +kernel
theorem dX6_laysBack_31 : decode cX6_laysBack 31 = .ok (.bipush 20, 2) := by decide +kernel
theorem dX6_laysBack_33 : decode cX6_laysBack 33 = .ok (.iaload, 1) := by decide +kernel
theorem dX6_laysBack_34 : decode cX6_laysBack 34 = .ok (.putfield 103, 3) := by decide +kernel
theorem dX6_laysBack_37 : decode cX6_laysBack 37 = .ok (.return_, 1) := by decide +kernel
set_option maxRecDepth 20000 in
theorem dX6_goes_0 : decode cX6_goes 0 = .ok (.iconst 0, 1) := by decide +kernel
theorem dX6_goes_1 : decode cX6_goes 1 = .ok (.istore_n 2, 1) := by decide +kernel
theorem dX6_goes_2 : decode cX6_goes 2 = .ok (.iload_n 2, 1) := by decide +kernel
theorem dX6_goes_3 : decode cX6_goes 3 = .ok (.iload_n 1, 1) := by decide +kernel
theorem dX6_goes_4 : decode cX6_goes 4 = .ok (.if_icmp .ge 14, 3) := by decide +kernel
theorem dX6_goes_7 : decode cX6_goes 7 = .ok (.aload_n 0, 1) := by decide +kernel
theorem dX6_goes_8 : decode cX6_goes 8 = .ok (.invokevirtual 373, 3) := by decide +kernel
theorem dX6_goes_11 : decode cX6_goes 11 = .ok (.pop, 1) := by decide +kernel
theorem dX6_goes_12 : decode cX6_goes 12 = .ok (.iinc 2 1, 3) := by decide +kernel
theorem dX6_goes_15 : decode cX6_goes 15 = .ok (.goto (-13), 3) := by decide +kernel
theorem dX6_goes_18 : decode cX6_goes 18 = .ok (.return_, 1) := by decide +kernel
set_option maxRecDepth 20000 in
theorem dX6_foundMany_0 : decode cX6_foundMany 0 = .ok (.iconst 0, 1) := by decide +kernel
theorem dX6_foundMany_1 : decode cX6_foundMany 1 = .ok (.istore_n 2, 1) := by decide +kernel
theorem dX6_foundMany_2 : decode cX6_foundMany 2 = .ok (.iconst 0, 1) := by decide +kernel
theorem dX6_foundMany_3 : decode cX6_foundMany 3 = .ok (.istore_n 3, 1) := by decide +kernel
theorem dX6_foundMany_4 : decode cX6_foundMany 4 = .ok (.iload_n 3, 1) := by decide +kernel
theorem dX6_foundMany_5 : decode cX6_foundMany 5 = .ok (.aload_n 0, 1) := by decide +kernel
theorem dX6_foundMany_6 : decode cX6_foundMany 6 = .ok (.getfield 58, 3) := by decide +kernel
theorem dX6_foundMany_9 : decode cX6_foundMany 9 = .ok (.if_icmp .ge 26, 3) := by decide +kernel
theorem dX6_foundMany_12 : decode cX6_foundMany 12 = .ok (.iload_n 2, 1) := by decide +kernel
theorem dX6_foundMany_13 : decode cX6_foundMany 13 = .ok (.aload_n 0, 1) := by decide +kernel
theorem dX6_foundMany_14 : decode cX6_foundMany 14 = .ok (.iload_n 3, 1) := by decide +kernel
theorem dX6_foundMany_15 : decode cX6_foundMany 15 = .ok (.invokevirtual 127, 3) := by decide +kernel
theorem dX6_foundMany_18 : decode cX6_foundMany 18 = .ok (.iload_n 1, 1) := by decide +kernel
theorem dX6_foundMany_19 : decode cX6_foundMany 19 = .ok (.if_icmp .ne 7, 3) := by decide +kernel
theorem dX6_foundMany_22 : decode cX6_foundMany 22 = .ok (.iconst 1, 1) := by decide +kernel
theorem dX6_foundMany_23 : decode cX6_foundMany 23 = .ok (.goto 4, 3) := by decide +kernel
theorem dX6_foundMany_26 : decode cX6_foundMany 26 = .ok (.iconst 0, 1) := by decide +kernel
theorem dX6_foundMany_27 : decode cX6_foundMany 27 = .ok (.iadd, 1) := by decide +kernel
theorem dX6_foundMany_28 : decode cX6_foundMany 28 = .ok (.istore_n 2, 1) := by decide +kernel
theorem dX6_foundMany_29 : decode cX6_foundMany 29 = .ok (.iinc 3 1, 3) := by decide +kernel
theorem dX6_foundMany_32 : decode cX6_foundMany 32 = .ok (.goto (-28), 3) := by decide +kernel
theorem dX6_foundMany_35 : decode cX6_foundMany 35 = .ok (.iload_n 2, 1) := by decide +kernel
theorem dX6_foundMany_36 : decode cX6_foundMany 36 = .ok (.ireturn, 1) := by decide +kernel
set_option maxRecDepth 20000 in
theorem dX6_foundBehind_0 : decode cX6_foundBehind 0 = .ok (.aload_n 0, 1) := by decide +kernel
theorem dX6_foundBehind_1 : decode cX6_foundBehind 1 = .ok (.invokevirtual 376, 3) := by decide +kernel
theorem dX6_foundBehind_4 : decode cX6_foundBehind 4 = .ok (.aload_n 0, 1) := by decide +kernel
theorem dX6_foundBehind_5 : decode cX6_foundBehind 5 = .ok (.iload_n 2, 1) := by decide +kernel
theorem dX6_foundBehind_6 : decode cX6_foundBehind 6 = .ok (.invokevirtual 379, 3) := by decide +kernel
theorem dX6_foundBehind_9 : decode cX6_foundBehind 9 = .ok (.aload_n 0, 1) := by decide +kernel
theorem dX6_foundBehind_10 : decode cX6_foundBehind 10 = .ok (.iload_n 1, 1) := by decide +kernel
theorem dX6_foundBehind_11 : decode cX6_foundBehind 11 = .ok (.invokevirtual 383, 3) := by decide +kernel
theorem dX6_foundBehind_14 : decode cX6_foundBehind 14 = .ok (.istore_n 3, 1) := by decide +kernel
theorem dX6_foundBehind_15 : decode cX6_foundBehind 15 = .ok (.aload_n 0, 1) := by decide +kernel
theorem dX6_foundBehind_16 : decode cX6_foundBehind 16 = .ok (.invokevirtual 386, 3) := by decide +kernel
theorem dX6_foundBehind_19 : decode cX6_foundBehind 19 = .ok (.iload_n 3, 1) := by decide +kernel
theorem dX6_foundBehind_20 : decode cX6_foundBehind 20 = .ok (.ireturn, 1) := by decide +kernel
set_option maxRecDepth 20000 in
theorem dX6_run_0 : decode cX6_run 0 = .ok (.aload_n 0, 1) := by decide +kernel
theorem dX6_run_1 : decode cX6_run 1 = .ok (.iload_n 1, 1) := by decide +kernel
theorem dX6_run_2 : decode cX6_run 2 = .ok (.invokevirtual 65, 3) := by decide +kernel
theorem dX6_run_5 : decode cX6_run 5 = .ok (.ifCond .eq 27, 3) := by decide +kernel
theorem dX6_run_8 : decode cX6_run 8 = .ok (.iload_n 2, 1) := by decide +kernel
theorem dX6_run_9 : decode cX6_run 9 = .ok (.i2l, 1) := by decide +kernel
theorem dX6_run_10 : decode cX6_run 10 = .ok (.lconst 0, 1) := by decide +kernel
theorem dX6_run_11 : decode cX6_run 11 = .ok (.ldc2_w 389, 3) := by decide +kernel
theorem dX6_run_14 : decode cX6_run 14 = .ok (.invokestatic 61, 3) := by decide +kernel
theorem dX6_run_17 : decode cX6_run 17 = .ok (.ifCond .eq 15, 3) := by decide +kernel
theorem dX6_run_20 : decode cX6_run 20 = .ok (.iload_n 3, 1) := by decide +kernel
theorem dX6_run_21 : decode cX6_run 21 = .ok (.i2l, 1) := by decide +kernel
theorem dX6_run_22 : decode cX6_run 22 = .ok (.lconst 0, 1) := by decide +kernel
theorem dX6_run_23 : decode cX6_run 23 = .ok (.ldc2_w 391, 3) := by decide +kernel
theorem dX6_run_26 : decode cX6_run 26 = .ok (.invokestatic 61, 3) := by decide +kernel
theorem dX6_run_29 : decode cX6_run 29 = .ok (.ifCond .ne 6, 3) := by decide +kernel
theorem dX6_run_32 : decode cX6_run 32 = .ok (.bipush (-2), 2) := by decide +kernel
theorem dX6_run_34 : decode cX6_run 34 = .ok (.ireturn, 1) := by decide +kernel
theorem dX6_run_35 : decode cX6_run 35 = .ok (.aload_n 0, 1) := by decide +kernel
theorem dX6_run_36 : decode cX6_run 36 = .ok (.invokevirtual 376, 3) := by decide +kernel
theorem dX6_run_39 : decode cX6_run 39 = .ok (.aload_n 0, 1) := by decide +kernel
theorem dX6_run_40 : decode cX6_run 40 = .ok (.iload_n 2, 1) := by decide +kernel
theorem dX6_run_41 : decode cX6_run 41 = .ok (.invokevirtual 379, 3) := by decide +kernel
theorem dX6_run_44 : decode cX6_run 44 = .ok (.iload_n 3, 1) := by decide +kernel
theorem dX6_run_45 : decode cX6_run 45 = .ok (.iconst 2, 1) := by decide +kernel
theorem dX6_run_46 : decode cX6_run 46 = .ok (.if_icmp .ge 18, 3) := by decide +kernel
theorem dX6_run_49 : decode cX6_run 49 = .ok (.aload_n 0, 1) := by decide +kernel
theorem dX6_run_50 : decode cX6_run 50 = .ok (.getfield 23, 3) := by decide +kernel
theorem dX6_run_53 : decode cX6_run 53 = .ok (.iconst 4, 1) := by decide +kernel
theorem dX6_run_54 : decode cX6_run 54 = .ok (.iload_n 1, 1) := by decide +kernel
theorem dX6_run_55 : decode cX6_run 55 = .ok (.imul, 1) := by decide +kernel
theorem dX6_run_56 : decode cX6_run 56 = .ok (.iconst 1, 1) := by decide +kernel
theorem dX6_run_57 : decode cX6_run 57 = .ok (.iadd, 1) := by decide +kernel
theorem dX6_run_58 : decode cX6_run 58 = .ok (.iload_n 3, 1) := by decide +kernel
theorem dX6_run_59 : decode cX6_run 59 = .ok (.iadd, 1) := by decide +kernel
theorem dX6_run_60 : decode cX6_run 60 = .ok (.iaload, 1) := by decide +kernel
theorem dX6_run_61 : decode cX6_run 61 = .ok (.goto 21, 3) := by decide +kernel
theorem dX6_run_64 : decode cX6_run 64 = .ok (.iload_n 3, 1) := by decide +kernel
theorem dX6_run_65 : decode cX6_run 65 = .ok (.iconst 2, 1) := by decide +kernel
theorem dX6_run_66 : decode cX6_run 66 = .ok (.if_icmp .ne 11, 3) := by decide +kernel
theorem dX6_run_69 : decode cX6_run 69 = .ok (.aload_n 0, 1) := by decide +kernel
theorem dX6_run_70 : decode cX6_run 70 = .ok (.iload_n 1, 1) := by decide +kernel
theorem dX6_run_71 : decode cX6_run 71 = .ok (.invokevirtual 127, 3) := by decide +kernel
theorem dX6_run_74 : decode cX6_run 74 = .ok (.goto 8, 3) := by decide +kernel
theorem dX6_run_77 : decode cX6_run 77 = .ok (.aload_n 0, 1) := by decide +kernel
theorem dX6_run_78 : decode cX6_run 78 = .ok (.iconst 1, 1) := by decide +kernel
theorem dX6_run_79 : decode cX6_run 79 = .ok (.invokevirtual 383, 3) := by decide +kernel
theorem dX6_run_82 : decode cX6_run 82 = .ok (.istore 4, 2) := by decide +kernel
theorem dX6_run_84 : decode cX6_run 84 = .ok (.aload_n 0, 1) := by decide +kernel
theorem dX6_run_85 : decode cX6_run 85 = .ok (.invokevirtual 386, 3) := by decide +kernel
theorem dX6_run_88 : decode cX6_run 88 = .ok (.iload 4, 2) := by decide +kernel
theorem dX6_run_90 : decode cX6_run 90 = .ok (.ireturn, 1) := by decide +kernel
set_option maxRecDepth 20000 in
theorem dX6_call_0 : decode cX6_call 0 = .ok (.iload_n 1, 1) := by decide +kernel
theorem dX6_call_1 : decode cX6_call 1 = .ok (.i2l, 1) := by decide +kernel
theorem dX6_call_2 : decode cX6_call 2 = .ok (.lconst 0, 1) := by decide +kernel
theorem dX6_call_3 : decode cX6_call 3 = .ok (.ldc2_w 133, 3) := by decide +kernel
theorem dX6_call_6 : decode cX6_call 6 = .ok (.invokestatic 61, 3) := by decide +kernel
theorem dX6_call_9 : decode cX6_call 9 = .ok (.ifCond .eq 25, 3) := by decide +kernel
theorem dX6_call_12 : decode cX6_call 12 = .ok (.iload_n 2, 1) := by decide +kernel
theorem dX6_call_13 : decode cX6_call 13 = .ok (.i2l, 1) := by decide +kernel
theorem dX6_call_14 : decode cX6_call 14 = .ok (.lconst 0, 1) := by decide +kernel
theorem dX6_call_15 : decode cX6_call 15 = .ok (.ldc2_w 389, 3) := by decide +kernel
theorem dX6_call_18 : decode cX6_call 18 = .ok (.invokestatic 61, 3) := by decide +kernel
theorem dX6_call_21 : decode cX6_call 21 = .ok (.ifCond .eq 13, 3) := by decide +kernel
theorem dX6_call_24 : decode cX6_call 24 = .ok (.iload_n 3, 1) := by decide +kernel
theorem dX6_call_25 : decode cX6_call 25 = .ok (.i2l, 1) := by decide +kernel
theorem dX6_call_26 : decode cX6_call 26 = .ok (.lconst 0, 1) := by decide +kernel
theorem dX6_call_27 : decode cX6_call 27 = .ok (.lconst 1, 1) := by decide +kernel
theorem dX6_call_28 : decode cX6_call 28 = .ok (.invokestatic 61, 3) := by decide +kernel
theorem dX6_call_31 : decode cX6_call 31 = .ok (.ifCond .ne 6, 3) := by decide +kernel
theorem dX6_call_34 : decode cX6_call 34 = .ok (.bipush (-2), 2) := by decide +kernel
theorem dX6_call_36 : decode cX6_call 36 = .ok (.ireturn, 1) := by decide +kernel
theorem dX6_call_37 : decode cX6_call 37 = .ok (.iconst 0, 1) := by decide +kernel
theorem dX6_call_38 : decode cX6_call 38 = .ok (.istore 4, 2) := by decide +kernel
theorem dX6_call_40 : decode cX6_call 40 = .ok (.iconst (-1), 1) := by decide +kernel
theorem dX6_call_41 : decode cX6_call 41 = .ok (.istore 5, 2) := by decide +kernel
theorem dX6_call_43 : decode cX6_call 43 = .ok (.iconst 0, 1) := by decide +kernel
theorem dX6_call_44 : decode cX6_call 44 = .ok (.istore 6, 2) := by decide +kernel
theorem dX6_call_46 : decode cX6_call 46 = .ok (.iload 6, 2) := by decide +kernel
theorem dX6_call_48 : decode cX6_call 48 = .ok (.iload_n 2, 1) := by decide +kernel
theorem dX6_call_49 : decode cX6_call 49 = .ok (.if_icmp .gt 33, 3) := by decide +kernel
theorem dX6_call_52 : decode cX6_call 52 = .ok (.aload_n 0, 1) := by decide +kernel
theorem dX6_call_53 : decode cX6_call 53 = .ok (.iload_n 1, 1) := by decide +kernel
theorem dX6_call_54 : decode cX6_call 54 = .ok (.iload 6, 2) := by decide +kernel
theorem dX6_call_56 : decode cX6_call 56 = .ok (.invokevirtual 393, 3) := by decide +kernel
theorem dX6_call_59 : decode cX6_call 59 = .ok (.istore 7, 2) := by decide +kernel
theorem dX6_call_61 : decode cX6_call 61 = .ok (.iload 7, 2) := by decide +kernel
theorem dX6_call_63 : decode cX6_call 63 = .ok (.iload 5, 2) := by decide +kernel
theorem dX6_call_65 : decode cX6_call 65 = .ok (.if_icmp .le 11, 3) := by decide +kernel
theorem dX6_call_68 : decode cX6_call 68 = .ok (.iload 6, 2) := by decide +kernel
theorem dX6_call_70 : decode cX6_call 70 = .ok (.istore 4, 2) := by decide +kernel
theorem dX6_call_72 : decode cX6_call 72 = .ok (.iload 7, 2) := by decide +kernel
theorem dX6_call_74 : decode cX6_call 74 = .ok (.istore 5, 2) := by decide +kernel
theorem dX6_call_76 : decode cX6_call 76 = .ok (.iinc 6 1, 3) := by decide +kernel
theorem dX6_call_79 : decode cX6_call 79 = .ok (.goto (-33), 3) := by decide +kernel
theorem dX6_call_82 : decode cX6_call 82 = .ok (.iload_n 3, 1) := by decide +kernel
theorem dX6_call_83 : decode cX6_call 83 = .ok (.ifCond .ne 8, 3) := by decide +kernel
theorem dX6_call_86 : decode cX6_call 86 = .ok (.iload 4, 2) := by decide +kernel
theorem dX6_call_88 : decode cX6_call 88 = .ok (.goto 5, 3) := by decide +kernel
theorem dX6_call_91 : decode cX6_call 91 = .ok (.iload 5, 2) := by decide +kernel
theorem dX6_call_93 : decode cX6_call 93 = .ok (.ireturn, 1) := by decide +kernel
set_option maxRecDepth 20000 in
theorem dX6_meet_0 : decode cX6_meet 0 = .ok (.aload_n 0, 1) := by decide +kernel
theorem dX6_meet_1 : decode cX6_meet 1 = .ok (.iload_n 1, 1) := by decide +kernel
theorem dX6_meet_2 : decode cX6_meet 2 = .ok (.iload_n 2, 1) := by decide +kernel
theorem dX6_meet_3 : decode cX6_meet 3 = .ok (.invokevirtual 396, 3) := by decide +kernel
theorem dX6_meet_6 : decode cX6_meet 6 = .ok (.ifCond .ne 6, 3) := by decide +kernel
theorem dX6_meet_9 : decode cX6_meet 9 = .ok (.bipush (-2), 2) := by decide +kernel
theorem dX6_meet_11 : decode cX6_meet 11 = .ok (.ireturn, 1) := by decide +kernel
theorem dX6_meet_12 : decode cX6_meet 12 = .ok (.aload_n 0, 1) := by decide +kernel
theorem dX6_meet_13 : decode cX6_meet 13 = .ok (.invokevirtual 376, 3) := by decide +kernel
theorem dX6_meet_16 : decode cX6_meet 16 = .ok (.iconst 0, 1) := by decide +kernel
theorem dX6_meet_17 : decode cX6_meet 17 = .ok (.istore_n 3, 1) := by decide +kernel
theorem dX6_meet_18 : decode cX6_meet 18 = .ok (.iload_n 3, 1) := by decide +kernel
theorem dX6_meet_19 : decode cX6_meet 19 = .ok (.bipush 60, 2) := by decide +kernel
theorem dX6_meet_21 : decode cX6_meet 21 = .ok (.if_icmp .gt 27, 3) := by decide +kernel
theorem dX6_meet_24 : decode cX6_meet 24 = .ok (.aload_n 0, 1) := by decide +kernel
theorem dX6_meet_25 : decode cX6_meet 25 = .ok (.iload_n 1, 1) := by decide +kernel
theorem dX6_meet_26 : decode cX6_meet 26 = .ok (.invokevirtual 130, 3) := by decide +kernel
theorem dX6_meet_29 : decode cX6_meet 29 = .ok (.aload_n 0, 1) := by decide +kernel
theorem dX6_meet_30 : decode cX6_meet 30 = .ok (.iload_n 2, 1) := by decide +kernel
theorem dX6_meet_31 : decode cX6_meet 31 = .ok (.invokevirtual 130, 3) := by decide +kernel
theorem dX6_meet_34 : decode cX6_meet 34 = .ok (.if_icmp .eq 14, 3) := by decide +kernel
theorem dX6_meet_37 : decode cX6_meet 37 = .ok (.aload_n 0, 1) := by decide +kernel
theorem dX6_meet_38 : decode cX6_meet 38 = .ok (.invokevirtual 373, 3) := by decide +kernel
theorem dX6_meet_41 : decode cX6_meet 41 = .ok (.pop, 1) := by decide +kernel
theorem dX6_meet_42 : decode cX6_meet 42 = .ok (.iinc 3 1, 3) := by decide +kernel
theorem dX6_meet_45 : decode cX6_meet 45 = .ok (.goto (-27), 3) := by decide +kernel
theorem dX6_meet_48 : decode cX6_meet 48 = .ok (.aload_n 0, 1) := by decide +kernel
theorem dX6_meet_49 : decode cX6_meet 49 = .ok (.invokevirtual 386, 3) := by decide +kernel
theorem dX6_meet_52 : decode cX6_meet 52 = .ok (.iload_n 3, 1) := by decide +kernel
theorem dX6_meet_53 : decode cX6_meet 53 = .ok (.bipush 60, 2) := by decide +kernel
theorem dX6_meet_55 : decode cX6_meet 55 = .ok (.if_icmp .le 7, 3) := by decide +kernel
theorem dX6_meet_58 : decode cX6_meet 58 = .ok (.iconst (-1), 1) := by decide +kernel
theorem dX6_meet_59 : decode cX6_meet 59 = .ok (.goto 4, 3) := by decide +kernel
theorem dX6_meet_62 : decode cX6_meet 62 = .ok (.iload_n 3, 1) := by decide +kernel
theorem dX6_meet_63 : decode cX6_meet 63 = .ok (.ireturn, 1) := by decide +kernel
set_option maxRecDepth 20000 in
theorem dX6_reachedBy_0 : decode cX6_reachedBy 0 = .ok (.lconst 1, 1) := by decide +kernel
theorem dX6_reachedBy_1 : decode cX6_reachedBy 1 = .ok (.aload_n 0, 1) := by decide +kernel
theorem dX6_reachedBy_2 : decode cX6_reachedBy 2 = .ok (.iload_n 1, 1) := by decide +kernel
theorem dX6_reachedBy_3 : decode cX6_reachedBy 3 = .ok (.invokevirtual 130, 3) := by decide +kernel
theorem dX6_reachedBy_6 : decode cX6_reachedBy 6 = .ok (.lshl, 1) := by decide +kernel
theorem dX6_reachedBy_7 : decode cX6_reachedBy 7 = .ok (.lstore_n 3, 1) := by decide +kernel
theorem dX6_reachedBy_8 : decode cX6_reachedBy 8 = .ok (.lconst 0, 1) := by decide +kernel
theorem dX6_reachedBy_9 : decode cX6_reachedBy 9 = .ok (.lstore 5, 2) := by decide +kernel
theorem dX6_reachedBy_11 : decode cX6_reachedBy 11 = .ok (.iconst 0, 1) := by decide +kernel
theorem dX6_reachedBy_12 : decode cX6_reachedBy 12 = .ok (.istore 7, 2) := by decide +kernel
theorem dX6_reachedBy_14 : decode cX6_reachedBy 14 = .ok (.iload 7, 2) := by decide +kernel
theorem dX6_reachedBy_16 : decode cX6_reachedBy 16 = .ok (.iload_n 2, 1) := by decide +kernel
theorem dX6_reachedBy_17 : decode cX6_reachedBy 17 = .ok (.if_icmp .ge 87, 3) := by decide +kernel
theorem dX6_reachedBy_20 : decode cX6_reachedBy 20 = .ok (.lload_n 3, 1) := by decide +kernel
theorem dX6_reachedBy_21 : decode cX6_reachedBy 21 = .ok (.lload 5, 2) := by decide +kernel
theorem dX6_reachedBy_23 : decode cX6_reachedBy 23 = .ok (.lcmp, 1) := by decide +kernel
theorem dX6_reachedBy_24 : decode cX6_reachedBy 24 = .ok (.ifCond .eq 80, 3) := by decide +kernel
theorem dX6_reachedBy_27 : decode cX6_reachedBy 27 = .ok (.lload_n 3, 1) := by decide +kernel
theorem dX6_reachedBy_28 : decode cX6_reachedBy 28 = .ok (.lstore 5, 2) := by decide +kernel
theorem dX6_reachedBy_30 : decode cX6_reachedBy 30 = .ok (.iconst 0, 1) := by decide +kernel
theorem dX6_reachedBy_31 : decode cX6_reachedBy 31 = .ok (.istore 8, 2) := by decide +kernel
theorem dX6_reachedBy_33 : decode cX6_reachedBy 33 = .ok (.iload 8, 2) := by decide +kernel
theorem dX6_reachedBy_35 : decode cX6_reachedBy 35 = .ok (.sipush 512, 3) := by decide +kernel
theorem dX6_reachedBy_38 : decode cX6_reachedBy 38 = .ok (.if_icmp .ge 60, 3) := by decide +kernel
theorem dX6_reachedBy_41 : decode cX6_reachedBy 41 = .ok (.lload 5, 2) := by decide +kernel
theorem dX6_reachedBy_43 : decode cX6_reachedBy 43 = .ok (.iload 8, 2) := by decide +kernel
theorem dX6_reachedBy_45 : decode cX6_reachedBy 45 = .ok (.bipush 8, 2) := by decide +kernel
theorem dX6_reachedBy_47 : decode cX6_reachedBy 47 = .ok (.idiv, 1) := by decide +kernel
theorem dX6_reachedBy_48 : decode cX6_reachedBy 48 = .ok (.invokestatic 91, 3) := by decide +kernel
theorem dX6_reachedBy_51 : decode cX6_reachedBy 51 = .ok (.ifCond .eq 21, 3) := by decide +kernel
theorem dX6_reachedBy_54 : decode cX6_reachedBy 54 = .ok (.aload_n 0, 1) := by decide +kernel
theorem dX6_reachedBy_55 : decode cX6_reachedBy 55 = .ok (.iload_n 1, 1) := by decide +kernel
theorem dX6_reachedBy_56 : decode cX6_reachedBy 56 = .ok (.iload 8, 2) := by decide +kernel
theorem dX6_reachedBy_58 : decode cX6_reachedBy 58 = .ok (.bipush 8, 2) := by decide +kernel
theorem dX6_reachedBy_60 : decode cX6_reachedBy 60 = .ok (.idiv, 1) := by decide +kernel
theorem dX6_reachedBy_61 : decode cX6_reachedBy 61 = .ok (.iload 8, 2) := by decide +kernel
theorem dX6_reachedBy_63 : decode cX6_reachedBy 63 = .ok (.bipush 8, 2) := by decide +kernel
theorem dX6_reachedBy_65 : decode cX6_reachedBy 65 = .ok (.irem, 1) := by decide +kernel
theorem dX6_reachedBy_66 : decode cX6_reachedBy 66 = .ok (.invokevirtual 370, 3) := by decide +kernel
theorem dX6_reachedBy_69 : decode cX6_reachedBy 69 = .ok (.goto 4, 3) := by decide +kernel
theorem dX6_reachedBy_72 : decode cX6_reachedBy 72 = .ok (.iconst (-1), 1) := by decide +kernel
theorem dX6_reachedBy_73 : decode cX6_reachedBy 73 = .ok (.istore 9, 2) := by decide +kernel
theorem dX6_reachedBy_75 : decode cX6_reachedBy 75 = .ok (.lload_n 3, 1) := by decide +kernel
theorem dX6_reachedBy_76 : decode cX6_reachedBy 76 = .ok (.iload 9, 2) := by decide +kernel
theorem dX6_reachedBy_78 : decode cX6_reachedBy 78 = .ok (.iconst (-1), 1) := by decide +kernel
theorem dX6_reachedBy_79 : decode cX6_reachedBy 79 = .ok (.if_icmp .ne 7, 3) := by decide +kernel
theorem dX6_reachedBy_82 : decode cX6_reachedBy 82 = .ok (.lconst 0, 1) := by decide +kernel
theorem dX6_reachedBy_83 : decode cX6_reachedBy 83 = .ok (.goto 7, 3) := by decide +kernel
theorem dX6_reachedBy_86 : decode cX6_reachedBy 86 = .ok (.lconst 1, 1) := by decide +kernel
theorem dX6_reachedBy_87 : decode cX6_reachedBy 87 = .ok (.iload 9, 2) := by decide +kernel
theorem dX6_reachedBy_89 : decode cX6_reachedBy 89 = .ok (.lshl, 1) := by decide +kernel
theorem dX6_reachedBy_90 : decode cX6_reachedBy 90 = .ok (.lor, 1) := by decide +kernel
theorem dX6_reachedBy_91 : decode cX6_reachedBy 91 = .ok (.lstore_n 3, 1) := by decide +kernel
theorem dX6_reachedBy_92 : decode cX6_reachedBy 92 = .ok (.iinc 8 1, 3) := by decide +kernel
theorem dX6_reachedBy_95 : decode cX6_reachedBy 95 = .ok (.goto (-62), 3) := by decide +kernel
theorem dX6_reachedBy_98 : decode cX6_reachedBy 98 = .ok (.iinc 7 1, 3) := by decide +kernel
theorem dX6_reachedBy_101 : decode cX6_reachedBy 101 = .ok (.goto (-87), 3) := by decide +kernel
theorem dX6_reachedBy_104 : decode cX6_reachedBy 104 = .ok (.lload_n 3, 1) := by decide +kernel
theorem dX6_reachedBy_105 : decode cX6_reachedBy 105 = .ok (.lreturn, 1) := by decide +kernel
set_option maxRecDepth 20000 in
theorem dX6_reached_0 : decode cX6_reached 0 = .ok (.aload_n 0, 1) := by decide +kernel
theorem dX6_reached_1 : decode cX6_reached 1 = .ok (.iload_n 1, 1) := by decide +kernel
theorem dX6_reached_2 : decode cX6_reached 2 = .ok (.invokevirtual 65, 3) := by decide +kernel
theorem dX6_reached_5 : decode cX6_reached 5 = .ok (.ifCond .eq 24, 3) := by decide +kernel
theorem dX6_reached_8 : decode cX6_reached 8 = .ok (.iload_n 2, 1) := by decide +kernel
theorem dX6_reached_9 : decode cX6_reached 9 = .ok (.i2l, 1) := by decide +kernel
theorem dX6_reached_10 : decode cX6_reached 10 = .ok (.lconst 0, 1) := by decide +kernel
theorem dX6_reached_11 : decode cX6_reached 11 = .ok (.ldc2_w 69, 3) := by decide +kernel
theorem dX6_reached_14 : decode cX6_reached 14 = .ok (.invokestatic 61, 3) := by decide +kernel
theorem dX6_reached_17 : decode cX6_reached 17 = .ok (.ifCond .eq 12, 3) := by decide +kernel
theorem dX6_reached_20 : decode cX6_reached 20 = .ok (.aload_n 0, 1) := by decide +kernel
theorem dX6_reached_21 : decode cX6_reached 21 = .ok (.iload_n 1, 1) := by decide +kernel
theorem dX6_reached_22 : decode cX6_reached 22 = .ok (.iload_n 2, 1) := by decide +kernel
theorem dX6_reached_23 : decode cX6_reached 23 = .ok (.invokevirtual 399, 3) := by decide +kernel
theorem dX6_reached_26 : decode cX6_reached 26 = .ok (.goto 6, 3) := by decide +kernel
theorem dX6_reached_29 : decode cX6_reached 29 = .ok (.ldc2_w 135, 3) := by decide +kernel
theorem dX6_reached_32 : decode cX6_reached 32 = .ok (.lreturn, 1) := by decide +kernel
set_option maxRecDepth 20000 in
theorem dX6_fewest_0 : decode cX6_fewest 0 = .ok (.aload_n 0, 1) := by decide +kernel
theorem dX6_fewest_1 : decode cX6_fewest 1 = .ok (.iload_n 1, 1) := by decide +kernel
theorem dX6_fewest_2 : decode cX6_fewest 2 = .ok (.invokevirtual 65, 3) := by decide +kernel
theorem dX6_fewest_5 : decode cX6_fewest 5 = .ok (.ifCond .eq 10, 3) := by decide +kernel
theorem dX6_fewest_8 : decode cX6_fewest 8 = .ok (.iload_n 2, 1) := by decide +kernel
theorem dX6_fewest_9 : decode cX6_fewest 9 = .ok (.invokestatic 71, 3) := by decide +kernel
theorem dX6_fewest_12 : decode cX6_fewest 12 = .ok (.ifCond .ne 6, 3) := by decide +kernel
theorem dX6_fewest_15 : decode cX6_fewest 15 = .ok (.bipush (-2), 2) := by decide +kernel
theorem dX6_fewest_17 : decode cX6_fewest 17 = .ok (.ireturn, 1) := by decide +kernel
theorem dX6_fewest_18 : decode cX6_fewest 18 = .ok (.iconst 0, 1) := by decide +kernel
theorem dX6_fewest_19 : decode cX6_fewest 19 = .ok (.istore_n 3, 1) := by decide +kernel
theorem dX6_fewest_20 : decode cX6_fewest 20 = .ok (.iload_n 3, 1) := by decide +kernel
theorem dX6_fewest_21 : decode cX6_fewest 21 = .ok (.bipush 64, 2) := by decide +kernel
theorem dX6_fewest_23 : decode cX6_fewest 23 = .ok (.if_icmp .ge 22, 3) := by decide +kernel
theorem dX6_fewest_26 : decode cX6_fewest 26 = .ok (.aload_n 0, 1) := by decide +kernel
theorem dX6_fewest_27 : decode cX6_fewest 27 = .ok (.iload_n 1, 1) := by decide +kernel
theorem dX6_fewest_28 : decode cX6_fewest 28 = .ok (.iload_n 3, 1) := by decide +kernel
theorem dX6_fewest_29 : decode cX6_fewest 29 = .ok (.invokevirtual 399, 3) := by decide +kernel
theorem dX6_fewest_32 : decode cX6_fewest 32 = .ok (.iload_n 2, 1) := by decide +kernel
theorem dX6_fewest_33 : decode cX6_fewest 33 = .ok (.invokestatic 91, 3) := by decide +kernel
theorem dX6_fewest_36 : decode cX6_fewest 36 = .ok (.ifCond .ne 9, 3) := by decide +kernel
theorem dX6_fewest_39 : decode cX6_fewest 39 = .ok (.iinc 3 1, 3) := by decide +kernel
theorem dX6_fewest_42 : decode cX6_fewest 42 = .ok (.goto (-22), 3) := by decide +kernel
theorem dX6_fewest_45 : decode cX6_fewest 45 = .ok (.iload_n 3, 1) := by decide +kernel
theorem dX6_fewest_46 : decode cX6_fewest 46 = .ok (.bipush 64, 2) := by decide +kernel
theorem dX6_fewest_48 : decode cX6_fewest 48 = .ok (.if_icmp .ne 7, 3) := by decide +kernel
theorem dX6_fewest_51 : decode cX6_fewest 51 = .ok (.iconst (-1), 1) := by decide +kernel
theorem dX6_fewest_52 : decode cX6_fewest 52 = .ok (.goto 4, 3) := by decide +kernel
theorem dX6_fewest_55 : decode cX6_fewest 55 = .ok (.iload_n 3, 1) := by decide +kernel
theorem dX6_fewest_56 : decode cX6_fewest 56 = .ok (.ireturn, 1) := by decide +kernel
theorem dX6_tries_0 : decode cX6_tries 0 = .ok (.iload_n 2, 1) := by decide +kernel
theorem dX6_tries_1 : decode cX6_tries 1 = .ok (.aload_n 0, 1) := by decide +kernel
theorem dX6_tries_2 : decode cX6_tries 2 = .ok (.getfield 403, 3) := by decide +kernel
theorem dX6_tries_5 : decode cX6_tries 5 = .ok (.if_icmp .le 13, 3) := by decide +kernel
theorem dX6_tries_8 : decode cX6_tries 8 = .ok (.aload_n 0, 1) := by decide +kernel
theorem dX6_tries_9 : decode cX6_tries 9 = .ok (.iload_n 1, 1) := by decide +kernel
theorem dX6_tries_10 : decode cX6_tries 10 = .ok (.putfield 406, 3) := by decide +kernel
theorem dX6_tries_13 : decode cX6_tries 13 = .ok (.aload_n 0, 1) := by decide +kernel
theorem dX6_tries_14 : decode cX6_tries 14 = .ok (.iload_n 2, 1) := by decide +kernel
theorem dX6_tries_15 : decode cX6_tries 15 = .ok (.putfield 403, 3) := by decide +kernel
theorem dX6_tries_18 : decode cX6_tries 18 = .ok (.return_, 1) := by decide +kernel
set_option maxRecDepth 20000 in
theorem dX6_triesTile_0 : decode cX6_triesTile 0 = .ok (.aload_n 0, 1) := by decide +kernel
theorem dX6_triesTile_1 : decode cX6_triesTile 1 = .ok (.getfield 106, 3) := by decide +kernel
theorem dX6_triesTile_4 : decode cX6_triesTile 4 = .ok (.lstore 5, 2) := by decide +kernel
theorem dX6_triesTile_6 : decode cX6_triesTile 6 = .ok (.aload_n 0, 1) := by decide +kernel
theorem dX6_triesTile_7 : decode cX6_triesTile 7 = .ok (.getfield 87, 3) := by decide +kernel
theorem dX6_triesTile_10 : decode cX6_triesTile 10 = .ok (.lstore 7, 2) := by decide +kernel
theorem dX6_triesTile_12 : decode cX6_triesTile 12 = .ok (.aload_n 0, 1) := by decide +kernel
theorem dX6_triesTile_13 : decode cX6_triesTile 13 = .ok (.getfield 87, 3) := by decide +kernel
theorem dX6_triesTile_16 : decode cX6_triesTile 16 = .ok (.iload_n 2, 1) := by decide +kernel
theorem dX6_triesTile_17 : decode cX6_triesTile 17 = .ok (.invokestatic 91, 3) := by decide +kernel
theorem dX6_triesTile_20 : decode cX6_triesTile 20 = .ok (.ifCond .ne 34, 3) := by decide +kernel
theorem dX6_triesTile_23 : decode cX6_triesTile 23 = .ok (.iload_n 1, 1) := by decide +kernel
theorem dX6_triesTile_24 : decode cX6_triesTile 24 = .ok (.iconst 1, 1) := by decide +kernel
theorem dX6_triesTile_25 : decode cX6_triesTile 25 = .ok (.if_icmp .ne 17, 3) := by decide +kernel
theorem dX6_triesTile_28 : decode cX6_triesTile 28 = .ok (.aload_n 0, 1) := by decide +kernel
theorem dX6_triesTile_29 : decode cX6_triesTile 29 = .ok (.getfield 106, 3) := by decide +kernel
theorem dX6_triesTile_32 : decode cX6_triesTile 32 = .ok (.iload_n 2, 1) := by decide +kernel
theorem dX6_triesTile_33 : decode cX6_triesTile 33 = .ok (.invokestatic 91, 3) := by decide +kernel
theorem dX6_triesTile_36 : decode cX6_triesTile 36 = .ok (.ifCond .ne 18, 3) := by decide +kernel
theorem dX6_triesTile_39 : decode cX6_triesTile 39 = .ok (.goto 11, 3) := by decide +kernel
theorem dX6_triesTile_42 : decode cX6_triesTile 42 = .ok (.aload_n 0, 1) := by decide +kernel
theorem dX6_triesTile_43 : decode cX6_triesTile 43 = .ok (.iload_n 2, 1) := by decide +kernel
theorem dX6_triesTile_44 : decode cX6_triesTile 44 = .ok (.invokevirtual 84, 3) := by decide +kernel
theorem dX6_triesTile_47 : decode cX6_triesTile 47 = .ok (.ifCond .ne 7, 3) := by decide +kernel
theorem dX6_triesTile_50 : decode cX6_triesTile 50 = .ok (.iconst 1, 1) := by decide +kernel
theorem dX6_triesTile_51 : decode cX6_triesTile 51 = .ok (.goto 4, 3) := by decide +kernel
theorem dX6_triesTile_54 : decode cX6_triesTile 54 = .ok (.iconst 0, 1) := by decide +kernel
theorem dX6_triesTile_55 : decode cX6_triesTile 55 = .ok (.istore 9, 2) := by decide +kernel
theorem dX6_triesTile_57 : decode cX6_triesTile 57 = .ok (.iload 9, 2) := by decide +kernel
theorem dX6_triesTile_59 : decode cX6_triesTile 59 = .ok (.ifCond .eq 73, 3) := by decide +kernel
theorem dX6_triesTile_62 : decode cX6_triesTile 62 = .ok (.aload_n 0, 1) := by decide +kernel
theorem dX6_triesTile_63 : decode cX6_triesTile 63 = .ok (.dup, 1) := by decide +kernel
theorem dX6_triesTile_64 : decode cX6_triesTile 64 = .ok (.getfield 106, 3) := by decide +kernel
theorem dX6_triesTile_67 : decode cX6_triesTile 67 = .ok (.iload_n 1, 1) := by decide +kernel
theorem dX6_triesTile_68 : decode cX6_triesTile 68 = .ok (.iconst 1, 1) := by decide +kernel
theorem dX6_triesTile_69 : decode cX6_triesTile 69 = .ok (.if_icmp .ne 9, 3) := by decide +kernel
theorem dX6_triesTile_72 : decode cX6_triesTile 72 = .ok (.lconst 1, 1) := by decide +kernel
theorem dX6_triesTile_73 : decode cX6_triesTile 73 = .ok (.iload_n 2, 1) := by decide +kernel
theorem dX6_triesTile_74 : decode cX6_triesTile 74 = .ok (.lshl, 1) := by decide +kernel
theorem dX6_triesTile_75 : decode cX6_triesTile 75 = .ok (.goto 4, 3) := by decide +kernel
theorem dX6_triesTile_78 : decode cX6_triesTile 78 = .ok (.lconst 0, 1) := by decide +kernel
theorem dX6_triesTile_79 : decode cX6_triesTile 79 = .ok (.lor, 1) := by decide +kernel
theorem dX6_triesTile_80 : decode cX6_triesTile 80 = .ok (.putfield 106, 3) := by decide +kernel
theorem dX6_triesTile_83 : decode cX6_triesTile 83 = .ok (.aload_n 0, 1) := by decide +kernel
theorem dX6_triesTile_84 : decode cX6_triesTile 84 = .ok (.dup, 1) := by decide +kernel
theorem dX6_triesTile_85 : decode cX6_triesTile 85 = .ok (.getfield 87, 3) := by decide +kernel
theorem dX6_triesTile_88 : decode cX6_triesTile 88 = .ok (.iload_n 1, 1) := by decide +kernel
theorem dX6_triesTile_89 : decode cX6_triesTile 89 = .ok (.iconst 2, 1) := by decide +kernel
theorem dX6_triesTile_90 : decode cX6_triesTile 90 = .ok (.if_icmp .ne 9, 3) := by decide +kernel
theorem dX6_triesTile_93 : decode cX6_triesTile 93 = .ok (.lconst 1, 1) := by decide +kernel
theorem dX6_triesTile_94 : decode cX6_triesTile 94 = .ok (.iload_n 2, 1) := by decide +kernel
theorem dX6_triesTile_95 : decode cX6_triesTile 95 = .ok (.lshl, 1) := by decide +kernel
theorem dX6_triesTile_96 : decode cX6_triesTile 96 = .ok (.goto 4, 3) := by decide +kernel
theorem dX6_triesTile_99 : decode cX6_triesTile 99 = .ok (.lconst 0, 1) := by decide +kernel
theorem dX6_triesTile_100 : decode cX6_triesTile 100 = .ok (.lor, 1) := by decide +kernel
theorem dX6_triesTile_101 : decode cX6_triesTile 101 = .ok (.putfield 87, 3) := by decide +kernel
theorem dX6_triesTile_104 : decode cX6_triesTile 104 = .ok (.aload_n 0, 1) := by decide +kernel
theorem dX6_triesTile_105 : decode cX6_triesTile 105 = .ok (.iload_n 3, 1) := by decide +kernel
theorem dX6_triesTile_106 : decode cX6_triesTile 106 = .ok (.iload 4, 2) := by decide +kernel
theorem dX6_triesTile_108 : decode cX6_triesTile 108 = .ok (.invokevirtual 393, 3) := by decide +kernel
theorem dX6_triesTile_111 : decode cX6_triesTile 111 = .ok (.istore 10, 2) := by decide +kernel
theorem dX6_triesTile_113 : decode cX6_triesTile 113 = .ok (.aload_n 0, 1) := by decide +kernel
theorem dX6_triesTile_114 : decode cX6_triesTile 114 = .ok (.lload 5, 2) := by decide +kernel
theorem dX6_triesTile_116 : decode cX6_triesTile 116 = .ok (.putfield 106, 3) := by decide +kernel
theorem dX6_triesTile_119 : decode cX6_triesTile 119 = .ok (.aload_n 0, 1) := by decide +kernel
theorem dX6_triesTile_120 : decode cX6_triesTile 120 = .ok (.lload 7, 2) := by decide +kernel
theorem dX6_triesTile_122 : decode cX6_triesTile 122 = .ok (.putfield 87, 3) := by decide +kernel
theorem dX6_triesTile_125 : decode cX6_triesTile 125 = .ok (.aload_n 0, 1) := by decide +kernel
theorem dX6_triesTile_126 : decode cX6_triesTile 126 = .ok (.iload_n 2, 1) := by decide +kernel
theorem dX6_triesTile_127 : decode cX6_triesTile 127 = .ok (.iload 10, 2) := by decide +kernel
theorem dX6_triesTile_129 : decode cX6_triesTile 129 = .ok (.invokevirtual 409, 3) := by decide +kernel
theorem dX6_triesTile_132 : decode cX6_triesTile 132 = .ok (.return_, 1) := by decide +kernel
set_option maxRecDepth 20000 in
theorem dX6_best_0 : decode cX6_best 0 = .ok (.iload_n 1, 1) := by decide +kernel
theorem dX6_best_1 : decode cX6_best 1 = .ok (.i2l, 1) := by decide +kernel
theorem dX6_best_2 : decode cX6_best 2 = .ok (.lconst 0, 1) := by decide +kernel
theorem dX6_best_3 : decode cX6_best 3 = .ok (.ldc2_w 133, 3) := by decide +kernel
theorem dX6_best_6 : decode cX6_best 6 = .ok (.invokestatic 61, 3) := by decide +kernel
theorem dX6_best_9 : decode cX6_best 9 = .ok (.ifCond .eq 27, 3) := by decide +kernel
theorem dX6_best_12 : decode cX6_best 12 = .ok (.iload_n 2, 1) := by decide +kernel
theorem dX6_best_13 : decode cX6_best 13 = .ok (.i2l, 1) := by decide +kernel
theorem dX6_best_14 : decode cX6_best 14 = .ok (.lconst 1, 1) := by decide +kernel
theorem dX6_best_15 : decode cX6_best 15 = .ok (.ldc2_w 413, 3) := by decide +kernel
theorem dX6_best_18 : decode cX6_best 18 = .ok (.invokestatic 61, 3) := by decide +kernel
theorem dX6_best_21 : decode cX6_best 21 = .ok (.ifCond .eq 15, 3) := by decide +kernel
theorem dX6_best_24 : decode cX6_best 24 = .ok (.iload_n 3, 1) := by decide +kernel
theorem dX6_best_25 : decode cX6_best 25 = .ok (.i2l, 1) := by decide +kernel
theorem dX6_best_26 : decode cX6_best 26 = .ok (.lconst 0, 1) := by decide +kernel
theorem dX6_best_27 : decode cX6_best 27 = .ok (.ldc2_w 74, 3) := by decide +kernel
theorem dX6_best_30 : decode cX6_best 30 = .ok (.invokestatic 61, 3) := by decide +kernel
theorem dX6_best_33 : decode cX6_best 33 = .ok (.ifCond .ne 6, 3) := by decide +kernel
theorem dX6_best_36 : decode cX6_best 36 = .ok (.bipush (-2), 2) := by decide +kernel
theorem dX6_best_38 : decode cX6_best 38 = .ok (.ireturn, 1) := by decide +kernel
theorem dX6_best_39 : decode cX6_best 39 = .ok (.aload_n 0, 1) := by decide +kernel
theorem dX6_best_40 : decode cX6_best 40 = .ok (.iconst (-1), 1) := by decide +kernel
theorem dX6_best_41 : decode cX6_best 41 = .ok (.putfield 406, 3) := by decide +kernel
theorem dX6_best_44 : decode cX6_best 44 = .ok (.aload_n 0, 1) := by decide +kernel
theorem dX6_best_45 : decode cX6_best 45 = .ok (.aload_n 0, 1) := by decide +kernel
theorem dX6_best_46 : decode cX6_best 46 = .ok (.iload_n 1, 1) := by decide +kernel
theorem dX6_best_47 : decode cX6_best 47 = .ok (.iload_n 2, 1) := by decide +kernel
theorem dX6_best_48 : decode cX6_best 48 = .ok (.invokevirtual 393, 3) := by decide +kernel
theorem dX6_best_51 : decode cX6_best 51 = .ok (.putfield 403, 3) := by decide +kernel
theorem dX6_best_54 : decode cX6_best 54 = .ok (.iconst 0, 1) := by decide +kernel
theorem dX6_best_55 : decode cX6_best 55 = .ok (.istore 4, 2) := by decide +kernel
theorem dX6_best_57 : decode cX6_best 57 = .ok (.iload 4, 2) := by decide +kernel
theorem dX6_best_59 : decode cX6_best 59 = .ok (.aload_n 0, 1) := by decide +kernel
theorem dX6_best_60 : decode cX6_best 60 = .ok (.getfield 58, 3) := by decide +kernel
theorem dX6_best_63 : decode cX6_best 63 = .ok (.if_icmp .ge 41, 3) := by decide +kernel
theorem dX6_best_66 : decode cX6_best 66 = .ok (.iload_n 3, 1) := by decide +kernel
theorem dX6_best_67 : decode cX6_best 67 = .ok (.iconst 2, 1) := by decide +kernel
theorem dX6_best_68 : decode cX6_best 68 = .ok (.if_icmp .ge 36, 3) := by decide +kernel
theorem dX6_best_71 : decode cX6_best 71 = .ok (.aload_n 0, 1) := by decide +kernel
theorem dX6_best_72 : decode cX6_best 72 = .ok (.iload 4, 2) := by decide +kernel
theorem dX6_best_74 : decode cX6_best 74 = .ok (.putfield 26, 3) := by decide +kernel
theorem dX6_best_77 : decode cX6_best 77 = .ok (.aload_n 0, 1) := by decide +kernel
theorem dX6_best_78 : decode cX6_best 78 = .ok (.iload_n 1, 1) := by decide +kernel
theorem dX6_best_79 : decode cX6_best 79 = .ok (.iload_n 2, 1) := by decide +kernel
theorem dX6_best_80 : decode cX6_best 80 = .ok (.invokevirtual 393, 3) := by decide +kernel
theorem dX6_best_83 : decode cX6_best 83 = .ok (.istore 5, 2) := by decide +kernel
theorem dX6_best_85 : decode cX6_best 85 = .ok (.aload_n 0, 1) := by decide +kernel
theorem dX6_best_86 : decode cX6_best 86 = .ok (.iconst (-1), 1) := by decide +kernel
theorem dX6_best_87 : decode cX6_best 87 = .ok (.putfield 26, 3) := by decide +kernel
theorem dX6_best_90 : decode cX6_best 90 = .ok (.aload_n 0, 1) := by decide +kernel
theorem dX6_best_91 : decode cX6_best 91 = .ok (.iload 4, 2) := by decide +kernel
theorem dX6_best_93 : decode cX6_best 93 = .ok (.iload 5, 2) := by decide +kernel
theorem dX6_best_95 : decode cX6_best 95 = .ok (.invokevirtual 409, 3) := by decide +kernel
theorem dX6_best_98 : decode cX6_best 98 = .ok (.iinc 4 1, 3) := by decide +kernel
theorem dX6_best_101 : decode cX6_best 101 = .ok (.goto (-44), 3) := by decide +kernel
theorem dX6_best_104 : decode cX6_best 104 = .ok (.iconst 0, 1) := by decide +kernel
theorem dX6_best_105 : decode cX6_best 105 = .ok (.istore 4, 2) := by decide +kernel
theorem dX6_best_107 : decode cX6_best 107 = .ok (.iload 4, 2) := by decide +kernel
theorem dX6_best_109 : decode cX6_best 109 = .ok (.bipush 64, 2) := by decide +kernel
theorem dX6_best_111 : decode cX6_best 111 = .ok (.if_icmp .ge 25, 3) := by decide +kernel
theorem dX6_best_114 : decode cX6_best 114 = .ok (.iload_n 3, 1) := by decide +kernel
theorem dX6_best_115 : decode cX6_best 115 = .ok (.iconst 1, 1) := by decide +kernel
theorem dX6_best_116 : decode cX6_best 116 = .ok (.if_icmp .le 20, 3) := by decide +kernel
theorem dX6_best_119 : decode cX6_best 119 = .ok (.aload_n 0, 1) := by decide +kernel
theorem dX6_best_120 : decode cX6_best 120 = .ok (.iload_n 3, 1) := by decide +kernel
theorem dX6_best_121 : decode cX6_best 121 = .ok (.iconst 2, 1) := by decide +kernel
theorem dX6_best_122 : decode cX6_best 122 = .ok (.idiv, 1) := by decide +kernel
theorem dX6_best_123 : decode cX6_best 123 = .ok (.iload 4, 2) := by decide +kernel
theorem dX6_best_125 : decode cX6_best 125 = .ok (.iload_n 1, 1) := by decide +kernel
theorem dX6_best_126 : decode cX6_best 126 = .ok (.iload_n 2, 1) := by decide +kernel
theorem dX6_best_127 : decode cX6_best 127 = .ok (.invokevirtual 415, 3) := by decide +kernel
theorem dX6_best_130 : decode cX6_best 130 = .ok (.iinc 4 1, 3) := by decide +kernel
theorem dX6_best_133 : decode cX6_best 133 = .ok (.goto (-26), 3) := by decide +kernel
theorem dX6_best_136 : decode cX6_best 136 = .ok (.iload_n 3, 1) := by decide +kernel
theorem dX6_best_137 : decode cX6_best 137 = .ok (.iconst 2, 1) := by decide +kernel
theorem dX6_best_138 : decode cX6_best 138 = .ok (.irem, 1) := by decide +kernel
theorem dX6_best_139 : decode cX6_best 139 = .ok (.ifCond .ne 10, 3) := by decide +kernel
theorem dX6_best_142 : decode cX6_best 142 = .ok (.aload_n 0, 1) := by decide +kernel
theorem dX6_best_143 : decode cX6_best 143 = .ok (.getfield 406, 3) := by decide +kernel
theorem dX6_best_146 : decode cX6_best 146 = .ok (.goto 7, 3) := by decide +kernel
theorem dX6_best_149 : decode cX6_best 149 = .ok (.aload_n 0, 1) := by decide +kernel
theorem dX6_best_150 : decode cX6_best 150 = .ok (.getfield 403, 3) := by decide +kernel
theorem dX6_best_153 : decode cX6_best 153 = .ok (.ireturn, 1) := by decide +kernel
theorem dX6_lowest_0 : decode cX6_lowest 0 = .ok (.lload_n 0, 1) := by decide +kernel
theorem dX6_lowest_1 : decode cX6_lowest 1 = .ok (.lstore 5, 2) := by decide +kernel
theorem dX6_lowest_3 : decode cX6_lowest 3 = .ok (.lload_n 2, 1) := by decide +kernel
theorem dX6_lowest_4 : decode cX6_lowest 4 = .ok (.lstore 7, 2) := by decide +kernel
theorem dX6_lowest_6 : decode cX6_lowest 6 = .ok (.lload 7, 2) := by decide +kernel
theorem dX6_lowest_8 : decode cX6_lowest 8 = .ok (.lconst 0, 1) := by decide +kernel
theorem dX6_lowest_9 : decode cX6_lowest 9 = .ok (.lcmp, 1) := by decide +kernel
theorem dX6_lowest_10 : decode cX6_lowest 10 = .ok (.ifCond .eq 21, 3) := by decide +kernel
theorem dX6_lowest_13 : decode cX6_lowest 13 = .ok (.lload 5, 2) := by decide +kernel
theorem dX6_lowest_15 : decode cX6_lowest 15 = .ok (.lload 7, 2) := by decide +kernel
theorem dX6_lowest_17 : decode cX6_lowest 17 = .ok (.lrem, 1) := by decide +kernel
theorem dX6_lowest_18 : decode cX6_lowest 18 = .ok (.lstore 9, 2) := by decide +kernel
theorem dX6_lowest_20 : decode cX6_lowest 20 = .ok (.lload 7, 2) := by decide +kernel
theorem dX6_lowest_22 : decode cX6_lowest 22 = .ok (.lstore 5, 2) := by decide +kernel
theorem dX6_lowest_24 : decode cX6_lowest 24 = .ok (.lload 9, 2) := by decide +kernel
theorem dX6_lowest_26 : decode cX6_lowest 26 = .ok (.lstore 7, 2) := by decide +kernel
theorem dX6_lowest_28 : decode cX6_lowest 28 = .ok (.goto (-22), 3) := by decide +kernel
theorem dX6_lowest_31 : decode cX6_lowest 31 = .ok (.iload 4, 2) := by decide +kernel
theorem dX6_lowest_33 : decode cX6_lowest 33 = .ok (.ifCond .ne 10, 3) := by decide +kernel
theorem dX6_lowest_36 : decode cX6_lowest 36 = .ok (.lload_n 0, 1) := by decide +kernel
theorem dX6_lowest_37 : decode cX6_lowest 37 = .ok (.lload 5, 2) := by decide +kernel
theorem dX6_lowest_39 : decode cX6_lowest 39 = .ok (.ldiv, 1) := by decide +kernel
theorem dX6_lowest_40 : decode cX6_lowest 40 = .ok (.goto 7, 3) := by decide +kernel
theorem dX6_lowest_43 : decode cX6_lowest 43 = .ok (.lload_n 2, 1) := by decide +kernel
theorem dX6_lowest_44 : decode cX6_lowest 44 = .ok (.lload 5, 2) := by decide +kernel
theorem dX6_lowest_46 : decode cX6_lowest 46 = .ok (.ldiv, 1) := by decide +kernel
theorem dX6_lowest_47 : decode cX6_lowest 47 = .ok (.lreturn, 1) := by decide +kernel
set_option maxRecDepth 20000 in
theorem dX6_mean_0 : decode cX6_mean 0 = .ok (.iload_n 1, 1) := by decide +kernel
theorem dX6_mean_1 : decode cX6_mean 1 = .ok (.i2l, 1) := by decide +kernel
theorem dX6_mean_2 : decode cX6_mean 2 = .ok (.lconst 0, 1) := by decide +kernel
theorem dX6_mean_3 : decode cX6_mean 3 = .ok (.lconst 1, 1) := by decide +kernel
theorem dX6_mean_4 : decode cX6_mean 4 = .ok (.invokestatic 61, 3) := by decide +kernel
theorem dX6_mean_7 : decode cX6_mean 7 = .ok (.ifCond .eq 10, 3) := by decide +kernel
theorem dX6_mean_10 : decode cX6_mean 10 = .ok (.aload_n 0, 1) := by decide +kernel
theorem dX6_mean_11 : decode cX6_mean 11 = .ok (.getfield 58, 3) := by decide +kernel
theorem dX6_mean_14 : decode cX6_mean 14 = .ok (.ifCond .ne 7, 3) := by decide +kernel
theorem dX6_mean_17 : decode cX6_mean 17 = .ok (.ldc2_w 135, 3) := by decide +kernel
theorem dX6_mean_20 : decode cX6_mean 20 = .ok (.lreturn, 1) := by decide +kernel
theorem dX6_mean_21 : decode cX6_mean 21 = .ok (.iconst 0, 1) := by decide +kernel
theorem dX6_mean_22 : decode cX6_mean 22 = .ok (.istore_n 2, 1) := by decide +kernel
theorem dX6_mean_23 : decode cX6_mean 23 = .ok (.iconst 0, 1) := by decide +kernel
theorem dX6_mean_24 : decode cX6_mean 24 = .ok (.istore_n 3, 1) := by decide +kernel
theorem dX6_mean_25 : decode cX6_mean 25 = .ok (.iload_n 3, 1) := by decide +kernel
theorem dX6_mean_26 : decode cX6_mean 26 = .ok (.aload_n 0, 1) := by decide +kernel
theorem dX6_mean_27 : decode cX6_mean 27 = .ok (.getfield 58, 3) := by decide +kernel
theorem dX6_mean_30 : decode cX6_mean 30 = .ok (.if_icmp .ge 22, 3) := by decide +kernel
theorem dX6_mean_33 : decode cX6_mean 33 = .ok (.iload_n 2, 1) := by decide +kernel
theorem dX6_mean_34 : decode cX6_mean 34 = .ok (.aload_n 0, 1) := by decide +kernel
theorem dX6_mean_35 : decode cX6_mean 35 = .ok (.getfield 23, 3) := by decide +kernel
theorem dX6_mean_38 : decode cX6_mean 38 = .ok (.iconst 4, 1) := by decide +kernel
theorem dX6_mean_39 : decode cX6_mean 39 = .ok (.iload_n 3, 1) := by decide +kernel
theorem dX6_mean_40 : decode cX6_mean 40 = .ok (.imul, 1) := by decide +kernel
theorem dX6_mean_41 : decode cX6_mean 41 = .ok (.iconst 2, 1) := by decide +kernel
theorem dX6_mean_42 : decode cX6_mean 42 = .ok (.iadd, 1) := by decide +kernel
theorem dX6_mean_43 : decode cX6_mean 43 = .ok (.iaload, 1) := by decide +kernel
theorem dX6_mean_44 : decode cX6_mean 44 = .ok (.iadd, 1) := by decide +kernel
theorem dX6_mean_45 : decode cX6_mean 45 = .ok (.istore_n 2, 1) := by decide +kernel
theorem dX6_mean_46 : decode cX6_mean 46 = .ok (.iinc 3 1, 3) := by decide +kernel
theorem dX6_mean_49 : decode cX6_mean 49 = .ok (.goto (-24), 3) := by decide +kernel
theorem dX6_mean_52 : decode cX6_mean 52 = .ok (.iload_n 2, 1) := by decide +kernel
theorem dX6_mean_53 : decode cX6_mean 53 = .ok (.i2l, 1) := by decide +kernel
theorem dX6_mean_54 : decode cX6_mean 54 = .ok (.aload_n 0, 1) := by decide +kernel
theorem dX6_mean_55 : decode cX6_mean 55 = .ok (.getfield 58, 3) := by decide +kernel
theorem dX6_mean_58 : decode cX6_mean 58 = .ok (.i2l, 1) := by decide +kernel
theorem dX6_mean_59 : decode cX6_mean 59 = .ok (.iload_n 1, 1) := by decide +kernel
theorem dX6_mean_60 : decode cX6_mean 60 = .ok (.invokestatic 419, 3) := by decide +kernel
theorem dX6_mean_63 : decode cX6_mean 63 = .ok (.lreturn, 1) := by decide +kernel
set_option maxRecDepth 20000 in
theorem dX6_firstOther_0 : decode cX6_firstOther 0 = .ok (.aload_n 0, 1) := by decide +kernel
theorem dX6_firstOther_1 : decode cX6_firstOther 1 = .ok (.invokevirtual 376, 3) := by decide +kernel
theorem dX6_firstOther_4 : decode cX6_firstOther 4 = .ok (.iconst (-1), 1) := by decide +kernel
theorem dX6_firstOther_5 : decode cX6_firstOther 5 = .ok (.istore_n 3, 1) := by decide +kernel
theorem dX6_firstOther_6 : decode cX6_firstOther 6 = .ok (.iconst 0, 1) := by decide +kernel
theorem dX6_firstOther_7 : decode cX6_firstOther 7 = .ok (.istore 4, 2) := by decide +kernel
theorem dX6_firstOther_9 : decode cX6_firstOther 9 = .ok (.iload 4, 2) := by decide +kernel
theorem dX6_firstOther_11 : decode cX6_firstOther 11 = .ok (.aload_n 0, 1) := by decide +kernel
theorem dX6_firstOther_12 : decode cX6_firstOther 12 = .ok (.getfield 45, 3) := by decide +kernel
theorem dX6_firstOther_15 : decode cX6_firstOther 15 = .ok (.iload_n 1, 1) := by decide +kernel
theorem dX6_firstOther_16 : decode cX6_firstOther 16 = .ok (.iaload, 1) := by decide +kernel
theorem dX6_firstOther_17 : decode cX6_firstOther 17 = .ok (.if_icmp .ge 46, 3) := by decide +kernel
theorem dX6_firstOther_20 : decode cX6_firstOther 20 = .ok (.iload_n 3, 1) := by decide +kernel
theorem dX6_firstOther_21 : decode cX6_firstOther 21 = .ok (.iconst (-1), 1) := by decide +kernel
theorem dX6_firstOther_22 : decode cX6_firstOther 22 = .ok (.if_icmp .ne 41, 3) := by decide +kernel
theorem dX6_firstOther_25 : decode cX6_firstOther 25 = .ok (.aload_n 0, 1) := by decide +kernel
theorem dX6_firstOther_26 : decode cX6_firstOther 26 = .ok (.invokevirtual 373, 3) := by decide +kernel
theorem dX6_firstOther_29 : decode cX6_firstOther 29 = .ok (.pop, 1) := by decide +kernel
theorem dX6_firstOther_30 : decode cX6_firstOther 30 = .ok (.aload_n 0, 1) := by decide +kernel
theorem dX6_firstOther_31 : decode cX6_firstOther 31 = .ok (.iload_n 2, 1) := by decide +kernel
theorem dX6_firstOther_32 : decode cX6_firstOther 32 = .ok (.invokevirtual 130, 3) := by decide +kernel
theorem dX6_firstOther_35 : decode cX6_firstOther 35 = .ok (.aload_n 0, 1) := by decide +kernel
theorem dX6_firstOther_36 : decode cX6_firstOther 36 = .ok (.getfield 48, 3) := by decide +kernel
theorem dX6_firstOther_39 : decode cX6_firstOther 39 = .ok (.bipush 40, 2) := by decide +kernel
theorem dX6_firstOther_41 : decode cX6_firstOther 41 = .ok (.iload_n 1, 1) := by decide +kernel
theorem dX6_firstOther_42 : decode cX6_firstOther 42 = .ok (.imul, 1) := by decide +kernel
theorem dX6_firstOther_43 : decode cX6_firstOther 43 = .ok (.iload 4, 2) := by decide +kernel
theorem dX6_firstOther_45 : decode cX6_firstOther 45 = .ok (.iadd, 1) := by decide +kernel
theorem dX6_firstOther_46 : decode cX6_firstOther 46 = .ok (.iaload, 1) := by decide +kernel
theorem dX6_firstOther_47 : decode cX6_firstOther 47 = .ok (.if_icmp .ne 7, 3) := by decide +kernel
theorem dX6_firstOther_50 : decode cX6_firstOther 50 = .ok (.iconst (-1), 1) := by decide +kernel
theorem dX6_firstOther_51 : decode cX6_firstOther 51 = .ok (.goto 5, 3) := by decide +kernel
theorem dX6_firstOther_54 : decode cX6_firstOther 54 = .ok (.iload 4, 2) := by decide +kernel
theorem dX6_firstOther_56 : decode cX6_firstOther 56 = .ok (.istore_n 3, 1) := by decide +kernel
theorem dX6_firstOther_57 : decode cX6_firstOther 57 = .ok (.iinc 4 1, 3) := by decide +kernel
theorem dX6_firstOther_60 : decode cX6_firstOther 60 = .ok (.goto (-51), 3) := by decide +kernel
theorem dX6_firstOther_63 : decode cX6_firstOther 63 = .ok (.aload_n 0, 1) := by decide +kernel
theorem dX6_firstOther_64 : decode cX6_firstOther 64 = .ok (.invokevirtual 386, 3) := by decide +kernel
theorem dX6_firstOther_67 : decode cX6_firstOther 67 = .ok (.iload_n 3, 1) := by decide +kernel
theorem dX6_firstOther_68 : decode cX6_firstOther 68 = .ok (.ireturn, 1) := by decide +kernel
set_option maxRecDepth 20000 in
theorem dX6_likeSet_0 : decode cX6_likeSet 0 = .ok (.iconst 0, 1) := by decide +kernel
theorem dX6_likeSet_1 : decode cX6_likeSet 1 = .ok (.istore_n 2, 1) := by decide +kernel
theorem dX6_likeSet_2 : decode cX6_likeSet 2 = .ok (.iconst 0, 1) := by decide +kernel
theorem dX6_likeSet_3 : decode cX6_likeSet 3 = .ok (.istore_n 3, 1) := by decide +kernel
theorem dX6_likeSet_4 : decode cX6_likeSet 4 = .ok (.iload_n 3, 1) := by decide +kernel
theorem dX6_likeSet_5 : decode cX6_likeSet 5 = .ok (.aload_n 0, 1) := by decide +kernel
theorem dX6_likeSet_6 : decode cX6_likeSet 6 = .ok (.getfield 58, 3) := by decide +kernel
theorem dX6_likeSet_9 : decode cX6_likeSet 9 = .ok (.if_icmp .ge 29, 3) := by decide +kernel
theorem dX6_likeSet_12 : decode cX6_likeSet 12 = .ok (.iload_n 2, 1) := by decide +kernel
theorem dX6_likeSet_13 : decode cX6_likeSet 13 = .ok (.aload_n 0, 1) := by decide +kernel
theorem dX6_likeSet_14 : decode cX6_likeSet 14 = .ok (.iload_n 1, 1) := by decide +kernel
theorem dX6_likeSet_15 : decode cX6_likeSet 15 = .ok (.iload_n 3, 1) := by decide +kernel
theorem dX6_likeSet_16 : decode cX6_likeSet 16 = .ok (.invokevirtual 423, 3) := by decide +kernel
theorem dX6_likeSet_19 : decode cX6_likeSet 19 = .ok (.iconst (-1), 1) := by decide +kernel
theorem dX6_likeSet_20 : decode cX6_likeSet 20 = .ok (.if_icmp .ne 7, 3) := by decide +kernel
theorem dX6_likeSet_23 : decode cX6_likeSet 23 = .ok (.iconst 1, 1) := by decide +kernel
theorem dX6_likeSet_24 : decode cX6_likeSet 24 = .ok (.goto 4, 3) := by decide +kernel
theorem dX6_likeSet_27 : decode cX6_likeSet 27 = .ok (.iconst 0, 1) := by decide +kernel
theorem dX6_likeSet_28 : decode cX6_likeSet 28 = .ok (.iload_n 3, 1) := by decide +kernel
theorem dX6_likeSet_29 : decode cX6_likeSet 29 = .ok (.ishl, 1) := by decide +kernel
theorem dX6_likeSet_30 : decode cX6_likeSet 30 = .ok (.ior, 1) := by decide +kernel
theorem dX6_likeSet_31 : decode cX6_likeSet 31 = .ok (.istore_n 2, 1) := by decide +kernel
theorem dX6_likeSet_32 : decode cX6_likeSet 32 = .ok (.iinc 3 1, 3) := by decide +kernel
theorem dX6_likeSet_35 : decode cX6_likeSet 35 = .ok (.goto (-31), 3) := by decide +kernel
theorem dX6_likeSet_38 : decode cX6_likeSet 38 = .ok (.iload_n 2, 1) := by decide +kernel
theorem dX6_likeSet_39 : decode cX6_likeSet 39 = .ok (.ireturn, 1) := by decide +kernel
set_option maxRecDepth 20000 in
theorem dX6_tells_0 : decode cX6_tells 0 = .ok (.iload_n 1, 1) := by decide +kernel
theorem dX6_tells_1 : decode cX6_tells 1 = .ok (.invokestatic 426, 3) := by decide +kernel
theorem dX6_tells_4 : decode cX6_tells 4 = .ok (.ifCond .eq 23, 3) := by decide +kernel
theorem dX6_tells_7 : decode cX6_tells 7 = .ok (.aload_n 0, 1) := by decide +kernel
theorem dX6_tells_8 : decode cX6_tells 8 = .ok (.iload_n 2, 1) := by decide +kernel
theorem dX6_tells_9 : decode cX6_tells 9 = .ok (.invokevirtual 65, 3) := by decide +kernel
theorem dX6_tells_12 : decode cX6_tells 12 = .ok (.ifCond .eq 15, 3) := by decide +kernel
theorem dX6_tells_15 : decode cX6_tells 15 = .ok (.iload_n 3, 1) := by decide +kernel
theorem dX6_tells_16 : decode cX6_tells 16 = .ok (.i2l, 1) := by decide +kernel
theorem dX6_tells_17 : decode cX6_tells 17 = .ok (.lconst 0, 1) := by decide +kernel
theorem dX6_tells_18 : decode cX6_tells 18 = .ok (.ldc2_w 429, 3) := by decide +kernel
theorem dX6_tells_21 : decode cX6_tells 21 = .ok (.invokestatic 61, 3) := by decide +kernel
theorem dX6_tells_24 : decode cX6_tells 24 = .ok (.ifCond .ne 6, 3) := by decide +kernel
theorem dX6_tells_27 : decode cX6_tells 27 = .ok (.bipush (-2), 2) := by decide +kernel
theorem dX6_tells_29 : decode cX6_tells 29 = .ok (.ireturn, 1) := by decide +kernel
theorem dX6_tells_30 : decode cX6_tells 30 = .ok (.aload_n 0, 1) := by decide +kernel
theorem dX6_tells_31 : decode cX6_tells 31 = .ok (.getfield 38, 3) := by decide +kernel
theorem dX6_tells_34 : decode cX6_tells 34 = .ok (.iload_n 1, 1) := by decide +kernel
theorem dX6_tells_35 : decode cX6_tells 35 = .ok (.baload, 1) := by decide +kernel
theorem dX6_tells_36 : decode cX6_tells 36 = .ok (.ifCond .ne 6, 3) := by decide +kernel
theorem dX6_tells_39 : decode cX6_tells 39 = .ok (.bipush (-11), 2) := by decide +kernel
theorem dX6_tells_41 : decode cX6_tells 41 = .ok (.ireturn, 1) := by decide +kernel
theorem dX6_tells_42 : decode cX6_tells 42 = .ok (.aload_n 0, 1) := by decide +kernel
theorem dX6_tells_43 : decode cX6_tells 43 = .ok (.getfield 45, 3) := by decide +kernel
theorem dX6_tells_46 : decode cX6_tells 46 = .ok (.iload_n 1, 1) := by decide +kernel
theorem dX6_tells_47 : decode cX6_tells 47 = .ok (.iaload, 1) := by decide +kernel
theorem dX6_tells_48 : decode cX6_tells 48 = .ok (.bipush 20, 2) := by decide +kernel
theorem dX6_tells_50 : decode cX6_tells 50 = .ok (.if_icmp .le 6, 3) := by decide +kernel
theorem dX6_tells_53 : decode cX6_tells 53 = .ok (.bipush (-2), 2) := by decide +kernel
theorem dX6_tells_55 : decode cX6_tells 55 = .ok (.ireturn, 1) := by decide +kernel
theorem dX6_tells_56 : decode cX6_tells 56 = .ok (.iload_n 3, 1) := by decide +kernel
theorem dX6_tells_57 : decode cX6_tells 57 = .ok (.ifCond .eq 9, 3) := by decide +kernel
theorem dX6_tells_60 : decode cX6_tells 60 = .ok (.iload_n 3, 1) := by decide +kernel
theorem dX6_tells_61 : decode cX6_tells 61 = .ok (.bipush 6, 2) := by decide +kernel
theorem dX6_tells_63 : decode cX6_tells 63 = .ok (.if_icmp .ne 22, 3) := by decide +kernel
theorem dX6_tells_66 : decode cX6_tells 66 = .ok (.iload_n 3, 1) := by decide +kernel
theorem dX6_tells_67 : decode cX6_tells 67 = .ok (.ifCond .ne 12, 3) := by decide +kernel
theorem dX6_tells_70 : decode cX6_tells 70 = .ok (.aload_n 0, 1) := by decide +kernel
theorem dX6_tells_71 : decode cX6_tells 71 = .ok (.iload_n 1, 1) := by decide +kernel
theorem dX6_tells_72 : decode cX6_tells 72 = .ok (.iload_n 2, 1) := by decide +kernel
theorem dX6_tells_73 : decode cX6_tells 73 = .ok (.invokevirtual 423, 3) := by decide +kernel
theorem dX6_tells_76 : decode cX6_tells 76 = .ok (.goto 8, 3) := by decide +kernel
theorem dX6_tells_79 : decode cX6_tells 79 = .ok (.aload_n 0, 1) := by decide +kernel
theorem dX6_tells_80 : decode cX6_tells 80 = .ok (.iload_n 1, 1) := by decide +kernel
theorem dX6_tells_81 : decode cX6_tells 81 = .ok (.invokevirtual 431, 3) := by decide +kernel
theorem dX6_tells_84 : decode cX6_tells 84 = .ok (.ireturn, 1) := by decide +kernel
theorem dX6_tells_85 : decode cX6_tells 85 = .ok (.iload_n 3, 1) := by decide +kernel
theorem dX6_tells_86 : decode cX6_tells 86 = .ok (.iconst 1, 1) := by decide +kernel
theorem dX6_tells_87 : decode cX6_tells 87 = .ok (.if_icmp .ne 8, 3) := by decide +kernel
theorem dX6_tells_90 : decode cX6_tells 90 = .ok (.bipush 6, 2) := by decide +kernel
theorem dX6_tells_92 : decode cX6_tells 92 = .ok (.goto 23, 3) := by decide +kernel
theorem dX6_tells_95 : decode cX6_tells 95 = .ok (.iload_n 3, 1) := by decide +kernel
theorem dX6_tells_96 : decode cX6_tells 96 = .ok (.iconst 2, 1) := by decide +kernel
theorem dX6_tells_97 : decode cX6_tells 97 = .ok (.if_icmp .ne 7, 3) := by decide +kernel
theorem dX6_tells_100 : decode cX6_tells 100 = .ok (.iconst 3, 1) := by decide +kernel
theorem dX6_tells_101 : decode cX6_tells 101 = .ok (.goto 14, 3) := by decide +kernel
theorem dX6_tells_104 : decode cX6_tells 104 = .ok (.iload_n 3, 1) := by decide +kernel
theorem dX6_tells_105 : decode cX6_tells 105 = .ok (.iconst 5, 1) := by decide +kernel
theorem dX6_tells_106 : decode cX6_tells 106 = .ok (.if_icmp .ne 8, 3) := by decide +kernel
theorem dX6_tells_109 : decode cX6_tells 109 = .ok (.bipush 7, 2) := by decide +kernel
theorem dX6_tells_111 : decode cX6_tells 111 = .ok (.goto 4, 3) := by decide +kernel
theorem dX6_tells_114 : decode cX6_tells 114 = .ok (.iconst 5, 1) := by decide +kernel
theorem dX6_tells_115 : decode cX6_tells 115 = .ok (.istore 4, 2) := by decide +kernel
theorem dX6_tells_117 : decode cX6_tells 117 = .ok (.iload 4, 2) := by decide +kernel
theorem dX6_tells_119 : decode cX6_tells 119 = .ok (.bipush 7, 2) := by decide +kernel
theorem dX6_tells_121 : decode cX6_tells 121 = .ok (.if_icmp .ne 10, 3) := by decide +kernel
theorem dX6_tells_124 : decode cX6_tells 124 = .ok (.aload_n 0, 1) := by decide +kernel
theorem dX6_tells_125 : decode cX6_tells 125 = .ok (.getfield 111, 3) := by decide +kernel
theorem dX6_tells_128 : decode cX6_tells 128 = .ok (.goto 10, 3) := by decide +kernel
theorem dX6_tells_131 : decode cX6_tells 131 = .ok (.aload_n 0, 1) := by decide +kernel
theorem dX6_tells_132 : decode cX6_tells 132 = .ok (.iload_n 2, 1) := by decide +kernel
theorem dX6_tells_133 : decode cX6_tells 133 = .ok (.iload 4, 2) := by decide +kernel
theorem dX6_tells_135 : decode cX6_tells 135 = .ok (.invokevirtual 95, 3) := by decide +kernel
theorem dX6_tells_138 : decode cX6_tells 138 = .ok (.istore 5, 2) := by decide +kernel
theorem dX6_tells_140 : decode cX6_tells 140 = .ok (.iload 4, 2) := by decide +kernel
theorem dX6_tells_142 : decode cX6_tells 142 = .ok (.bipush 7, 2) := by decide +kernel
theorem dX6_tells_144 : decode cX6_tells 144 = .ok (.if_icmp .ne 12, 3) := by decide +kernel
theorem dX6_tells_147 : decode cX6_tells 147 = .ok (.aload_n 0, 1) := by decide +kernel
theorem dX6_tells_148 : decode cX6_tells 148 = .ok (.getfield 55, 3) := by decide +kernel
theorem dX6_tells_151 : decode cX6_tells 151 = .ok (.iconst 1, 1) := by decide +kernel
theorem dX6_tells_152 : decode cX6_tells 152 = .ok (.isub, 1) := by decide +kernel
theorem dX6_tells_153 : decode cX6_tells 153 = .ok (.goto 27, 3) := by decide +kernel
theorem dX6_tells_156 : decode cX6_tells 156 = .ok (.iload 4, 2) := by decide +kernel
theorem dX6_tells_158 : decode cX6_tells 158 = .ok (.bipush 6, 2) := by decide +kernel
theorem dX6_tells_160 : decode cX6_tells 160 = .ok (.if_icmp .ne 7, 3) := by decide +kernel
theorem dX6_tells_163 : decode cX6_tells 163 = .ok (.iconst 5, 1) := by decide +kernel
theorem dX6_tells_164 : decode cX6_tells 164 = .ok (.goto 16, 3) := by decide +kernel
theorem dX6_tells_167 : decode cX6_tells 167 = .ok (.iload 4, 2) := by decide +kernel
theorem dX6_tells_169 : decode cX6_tells 169 = .ok (.iconst 3, 1) := by decide +kernel
theorem dX6_tells_170 : decode cX6_tells 170 = .ok (.if_icmp .ne 8, 3) := by decide +kernel
theorem dX6_tells_173 : decode cX6_tells 173 = .ok (.bipush 9, 2) := by decide +kernel
theorem dX6_tells_175 : decode cX6_tells 175 = .ok (.goto 5, 3) := by decide +kernel
theorem dX6_tells_178 : decode cX6_tells 178 = .ok (.bipush 99, 2) := by decide +kernel
theorem dX6_tells_180 : decode cX6_tells 180 = .ok (.istore 6, 2) := by decide +kernel
theorem dX6_tells_182 : decode cX6_tells 182 = .ok (.iconst 0, 1) := by decide +kernel
theorem dX6_tells_183 : decode cX6_tells 183 = .ok (.istore 7, 2) := by decide +kernel
theorem dX6_tells_185 : decode cX6_tells 185 = .ok (.iconst 0, 1) := by decide +kernel
theorem dX6_tells_186 : decode cX6_tells 186 = .ok (.istore 8, 2) := by decide +kernel
theorem dX6_tells_188 : decode cX6_tells 188 = .ok (.iconst (-1), 1) := by decide +kernel
theorem dX6_tells_189 : decode cX6_tells 189 = .ok (.istore 9, 2) := by decide +kernel
theorem dX6_tells_191 : decode cX6_tells 191 = .ok (.iload 6, 2) := by decide +kernel
theorem dX6_tells_193 : decode cX6_tells 193 = .ok (.istore 10, 2) := by decide +kernel
theorem dX6_tells_195 : decode cX6_tells 195 = .ok (.iload 10, 2) := by decide +kernel
theorem dX6_tells_197 : decode cX6_tells 197 = .ok (.ifCond .lt 55, 3) := by decide +kernel
theorem dX6_tells_200 : decode cX6_tells 200 = .ok (.aload_n 0, 1) := by decide +kernel
theorem dX6_tells_201 : decode cX6_tells 201 = .ok (.iload 4, 2) := by decide +kernel
theorem dX6_tells_203 : decode cX6_tells 203 = .ok (.iload_n 2, 1) := by decide +kernel
theorem dX6_tells_204 : decode cX6_tells 204 = .ok (.iload 10, 2) := by decide +kernel
theorem dX6_tells_206 : decode cX6_tells 206 = .ok (.invokevirtual 99, 3) := by decide +kernel
theorem dX6_tells_209 : decode cX6_tells 209 = .ok (.aload_n 0, 1) := by decide +kernel
theorem dX6_tells_210 : decode cX6_tells 210 = .ok (.iload_n 1, 1) := by decide +kernel
theorem dX6_tells_211 : decode cX6_tells 211 = .ok (.iload_n 2, 1) := by decide +kernel
theorem dX6_tells_212 : decode cX6_tells 212 = .ok (.invokevirtual 423, 3) := by decide +kernel
theorem dX6_tells_215 : decode cX6_tells 215 = .ok (.iconst (-1), 1) := by decide +kernel
theorem dX6_tells_216 : decode cX6_tells 216 = .ok (.if_icmp .ne 30, 3) := by decide +kernel
theorem dX6_tells_219 : decode cX6_tells 219 = .ok (.iload 7, 2) := by decide +kernel
theorem dX6_tells_221 : decode cX6_tells 221 = .ok (.iload 10, 2) := by decide +kernel
theorem dX6_tells_223 : decode cX6_tells 223 = .ok (.bipush 10, 2) := by decide +kernel
theorem dX6_tells_225 : decode cX6_tells 225 = .ok (.if_icmp .ge 10, 3) := by decide +kernel
theorem dX6_tells_228 : decode cX6_tells 228 = .ok (.iconst 1, 1) := by decide +kernel
theorem dX6_tells_229 : decode cX6_tells 229 = .ok (.iload 10, 2) := by decide +kernel
theorem dX6_tells_231 : decode cX6_tells 231 = .ok (.ishl, 1) := by decide +kernel
theorem dX6_tells_232 : decode cX6_tells 232 = .ok (.goto 4, 3) := by decide +kernel
theorem dX6_tells_235 : decode cX6_tells 235 = .ok (.iconst 0, 1) := by decide +kernel
theorem dX6_tells_236 : decode cX6_tells 236 = .ok (.ior, 1) := by decide +kernel
theorem dX6_tells_237 : decode cX6_tells 237 = .ok (.istore 7, 2) := by decide +kernel
theorem dX6_tells_239 : decode cX6_tells 239 = .ok (.iinc 8 1, 3) := by decide +kernel
theorem dX6_tells_242 : decode cX6_tells 242 = .ok (.iload 10, 2) := by decide +kernel
theorem dX6_tells_244 : decode cX6_tells 244 = .ok (.istore 9, 2) := by decide +kernel
theorem dX6_tells_246 : decode cX6_tells 246 = .ok (.iinc 10 (-1), 3) := by decide +kernel
theorem dX6_tells_249 : decode cX6_tells 249 = .ok (.goto (-54), 3) := by decide +kernel
theorem dX6_tells_252 : decode cX6_tells 252 = .ok (.aload_n 0, 1) := by decide +kernel
theorem dX6_tells_253 : decode cX6_tells 253 = .ok (.iload 4, 2) := by decide +kernel
theorem dX6_tells_255 : decode cX6_tells 255 = .ok (.iload_n 2, 1) := by decide +kernel
theorem dX6_tells_256 : decode cX6_tells 256 = .ok (.iload 5, 2) := by decide +kernel
theorem dX6_tells_258 : decode cX6_tells 258 = .ok (.invokevirtual 99, 3) := by decide +kernel
theorem dX6_tells_261 : decode cX6_tells 261 = .ok (.iload_n 3, 1) := by decide +kernel
theorem dX6_tells_262 : decode cX6_tells 262 = .ok (.iconst 3, 1) := by decide +kernel
theorem dX6_tells_263 : decode cX6_tells 263 = .ok (.if_icmp .ne 8, 3) := by decide +kernel
theorem dX6_tells_266 : decode cX6_tells 266 = .ok (.iload 8, 2) := by decide +kernel
theorem dX6_tells_268 : decode cX6_tells 268 = .ok (.goto 15, 3) := by decide +kernel
theorem dX6_tells_271 : decode cX6_tells 271 = .ok (.iload_n 3, 1) := by decide +kernel
theorem dX6_tells_272 : decode cX6_tells 272 = .ok (.iconst 4, 1) := by decide +kernel
theorem dX6_tells_273 : decode cX6_tells 273 = .ok (.if_icmp .ne 8, 3) := by decide +kernel
theorem dX6_tells_276 : decode cX6_tells 276 = .ok (.iload 9, 2) := by decide +kernel
theorem dX6_tells_278 : decode cX6_tells 278 = .ok (.goto 5, 3) := by decide +kernel
theorem dX6_tells_281 : decode cX6_tells 281 = .ok (.iload 7, 2) := by decide +kernel
theorem dX6_tells_283 : decode cX6_tells 283 = .ok (.ireturn, 1) := by decide +kernel
set_option maxRecDepth 20000 in
theorem dX6_stood_0 : decode cX6_stood 0 = .ok (.iload_n 1, 1) := by decide +kernel
theorem dX6_stood_1 : decode cX6_stood 1 = .ok (.invokestatic 426, 3) := by decide +kernel
theorem dX6_stood_4 : decode cX6_stood 4 = .ok (.ifCond .eq 31, 3) := by decide +kernel
theorem dX6_stood_7 : decode cX6_stood 7 = .ok (.aload_n 0, 1) := by decide +kernel
theorem dX6_stood_8 : decode cX6_stood 8 = .ok (.iload_n 2, 1) := by decide +kernel
theorem dX6_stood_9 : decode cX6_stood 9 = .ok (.invokevirtual 65, 3) := by decide +kernel
theorem dX6_stood_12 : decode cX6_stood 12 = .ok (.ifCond .eq 23, 3) := by decide +kernel
theorem dX6_stood_15 : decode cX6_stood 15 = .ok (.aload_n 0, 1) := by decide +kernel
theorem dX6_stood_16 : decode cX6_stood 16 = .ok (.getfield 38, 3) := by decide +kernel
theorem dX6_stood_19 : decode cX6_stood 19 = .ok (.iload_n 1, 1) := by decide +kernel
theorem dX6_stood_20 : decode cX6_stood 20 = .ok (.baload, 1) := by decide +kernel
theorem dX6_stood_21 : decode cX6_stood 21 = .ok (.ifCond .eq 14, 3) := by decide +kernel
theorem dX6_stood_24 : decode cX6_stood 24 = .ok (.aload_n 0, 1) := by decide +kernel
theorem dX6_stood_25 : decode cX6_stood 25 = .ok (.getfield 45, 3) := by decide +kernel
theorem dX6_stood_28 : decode cX6_stood 28 = .ok (.iload_n 1, 1) := by decide +kernel
theorem dX6_stood_29 : decode cX6_stood 29 = .ok (.iaload, 1) := by decide +kernel
theorem dX6_stood_30 : decode cX6_stood 30 = .ok (.bipush 20, 2) := by decide +kernel
theorem dX6_stood_32 : decode cX6_stood 32 = .ok (.if_icmp .le 7, 3) := by decide +kernel
theorem dX6_stood_35 : decode cX6_stood 35 = .ok (.ldc2_w 135, 3) := by decide +kernel
theorem dX6_stood_38 : decode cX6_stood 38 = .ok (.lreturn, 1) := by decide +kernel
theorem dX6_stood_39 : decode cX6_stood 39 = .ok (.aload_n 0, 1) := by decide +kernel
theorem dX6_stood_40 : decode cX6_stood 40 = .ok (.iload_n 2, 1) := by decide +kernel
theorem dX6_stood_41 : decode cX6_stood 41 = .ok (.invokevirtual 130, 3) := by decide +kernel
theorem dX6_stood_44 : decode cX6_stood 44 = .ok (.istore_n 3, 1) := by decide +kernel
theorem dX6_stood_45 : decode cX6_stood 45 = .ok (.lconst 0, 1) := by decide +kernel
theorem dX6_stood_46 : decode cX6_stood 46 = .ok (.lstore 4, 2) := by decide +kernel
theorem dX6_stood_48 : decode cX6_stood 48 = .ok (.iconst 0, 1) := by decide +kernel
theorem dX6_stood_49 : decode cX6_stood 49 = .ok (.istore 6, 2) := by decide +kernel
theorem dX6_stood_51 : decode cX6_stood 51 = .ok (.iload 6, 2) := by decide +kernel
theorem dX6_stood_53 : decode cX6_stood 53 = .ok (.bipush 64, 2) := by decide +kernel
theorem dX6_stood_55 : decode cX6_stood 55 = .ok (.if_icmp .ge 56, 3) := by decide +kernel
theorem dX6_stood_58 : decode cX6_stood 58 = .ok (.aload_n 0, 1) := by decide +kernel
theorem dX6_stood_59 : decode cX6_stood 59 = .ok (.getfield 23, 3) := by decide +kernel
theorem dX6_stood_62 : decode cX6_stood 62 = .ok (.iconst 4, 1) := by decide +kernel
theorem dX6_stood_63 : decode cX6_stood 63 = .ok (.iload_n 2, 1) := by decide +kernel
theorem dX6_stood_64 : decode cX6_stood 64 = .ok (.imul, 1) := by decide +kernel
theorem dX6_stood_65 : decode cX6_stood 65 = .ok (.iconst 1, 1) := by decide +kernel
theorem dX6_stood_66 : decode cX6_stood 66 = .ok (.iadd, 1) := by decide +kernel
theorem dX6_stood_67 : decode cX6_stood 67 = .ok (.iload 6, 2) := by decide +kernel
theorem dX6_stood_69 : decode cX6_stood 69 = .ok (.iastore, 1) := by decide +kernel
theorem dX6_stood_70 : decode cX6_stood 70 = .ok (.lload 4, 2) := by decide +kernel
theorem dX6_stood_72 : decode cX6_stood 72 = .ok (.aload_n 0, 1) := by decide +kernel
theorem dX6_stood_73 : decode cX6_stood 73 = .ok (.getfield 87, 3) := by decide +kernel
theorem dX6_stood_76 : decode cX6_stood 76 = .ok (.iload 6, 2) := by decide +kernel
theorem dX6_stood_78 : decode cX6_stood 78 = .ok (.invokestatic 91, 3) := by decide +kernel
theorem dX6_stood_81 : decode cX6_stood 81 = .ok (.ifCond .ne 20, 3) := by decide +kernel
theorem dX6_stood_84 : decode cX6_stood 84 = .ok (.aload_n 0, 1) := by decide +kernel
theorem dX6_stood_85 : decode cX6_stood 85 = .ok (.iload_n 1, 1) := by decide +kernel
theorem dX6_stood_86 : decode cX6_stood 86 = .ok (.iload_n 2, 1) := by decide +kernel
theorem dX6_stood_87 : decode cX6_stood 87 = .ok (.invokevirtual 423, 3) := by decide +kernel
theorem dX6_stood_90 : decode cX6_stood 90 = .ok (.iconst (-1), 1) := by decide +kernel
theorem dX6_stood_91 : decode cX6_stood 91 = .ok (.if_icmp .ne 10, 3) := by decide +kernel
theorem dX6_stood_94 : decode cX6_stood 94 = .ok (.lconst 1, 1) := by decide +kernel
theorem dX6_stood_95 : decode cX6_stood 95 = .ok (.iload 6, 2) := by decide +kernel
theorem dX6_stood_97 : decode cX6_stood 97 = .ok (.lshl, 1) := by decide +kernel
theorem dX6_stood_98 : decode cX6_stood 98 = .ok (.goto 4, 3) := by decide +kernel
theorem dX6_stood_101 : decode cX6_stood 101 = .ok (.lconst 0, 1) := by decide +kernel
theorem dX6_stood_102 : decode cX6_stood 102 = .ok (.lor, 1) := by decide +kernel
theorem dX6_stood_103 : decode cX6_stood 103 = .ok (.lstore 4, 2) := by decide +kernel
theorem dX6_stood_105 : decode cX6_stood 105 = .ok (.iinc 6 1, 3) := by decide +kernel
theorem dX6_stood_108 : decode cX6_stood 108 = .ok (.goto (-57), 3) := by decide +kernel
theorem dX6_stood_111 : decode cX6_stood 111 = .ok (.aload_n 0, 1) := by decide +kernel
theorem dX6_stood_112 : decode cX6_stood 112 = .ok (.getfield 23, 3) := by decide +kernel
theorem dX6_stood_115 : decode cX6_stood 115 = .ok (.iconst 4, 1) := by decide +kernel
theorem dX6_stood_116 : decode cX6_stood 116 = .ok (.iload_n 2, 1) := by decide +kernel
theorem dX6_stood_117 : decode cX6_stood 117 = .ok (.imul, 1) := by decide +kernel
theorem dX6_stood_118 : decode cX6_stood 118 = .ok (.iconst 1, 1) := by decide +kernel
theorem dX6_stood_119 : decode cX6_stood 119 = .ok (.iadd, 1) := by decide +kernel
theorem dX6_stood_120 : decode cX6_stood 120 = .ok (.iload_n 3, 1) := by decide +kernel
theorem dX6_stood_121 : decode cX6_stood 121 = .ok (.iastore, 1) := by decide +kernel
theorem dX6_stood_122 : decode cX6_stood 122 = .ok (.lload 4, 2) := by decide +kernel
theorem dX6_stood_124 : decode cX6_stood 124 = .ok (.lreturn, 1) := by decide +kernel
set_option maxRecDepth 20000 in
theorem dX6_film_0 : decode cX6_film 0 = .ok (.iload_n 1, 1) := by decide +kernel
theorem dX6_film_1 : decode cX6_film 1 = .ok (.invokestatic 426, 3) := by decide +kernel
theorem dX6_film_4 : decode cX6_film 4 = .ok (.ifCond .eq 23, 3) := by decide +kernel
theorem dX6_film_7 : decode cX6_film 7 = .ok (.aload_n 0, 1) := by decide +kernel
theorem dX6_film_8 : decode cX6_film 8 = .ok (.iload_n 2, 1) := by decide +kernel
theorem dX6_film_9 : decode cX6_film 9 = .ok (.invokevirtual 65, 3) := by decide +kernel
theorem dX6_film_12 : decode cX6_film 12 = .ok (.ifCond .eq 15, 3) := by decide +kernel
theorem dX6_film_15 : decode cX6_film 15 = .ok (.iload_n 3, 1) := by decide +kernel
theorem dX6_film_16 : decode cX6_film 16 = .ok (.i2l, 1) := by decide +kernel
theorem dX6_film_17 : decode cX6_film 17 = .ok (.lconst 0, 1) := by decide +kernel
theorem dX6_film_18 : decode cX6_film 18 = .ok (.ldc2_w 413, 3) := by decide +kernel
theorem dX6_film_21 : decode cX6_film 21 = .ok (.invokestatic 61, 3) := by decide +kernel
theorem dX6_film_24 : decode cX6_film 24 = .ok (.ifCond .ne 6, 3) := by decide +kernel
theorem dX6_film_27 : decode cX6_film 27 = .ok (.bipush (-2), 2) := by decide +kernel
theorem dX6_film_29 : decode cX6_film 29 = .ok (.ireturn, 1) := by decide +kernel
theorem dX6_film_30 : decode cX6_film 30 = .ok (.aload_n 0, 1) := by decide +kernel
theorem dX6_film_31 : decode cX6_film 31 = .ok (.iload_n 1, 1) := by decide +kernel
theorem dX6_film_32 : decode cX6_film 32 = .ok (.iconst 0, 1) := by decide +kernel
theorem dX6_film_33 : decode cX6_film 33 = .ok (.iload_n 3, 1) := by decide +kernel
theorem dX6_film_34 : decode cX6_film 34 = .ok (.invokevirtual 434, 3) := by decide +kernel
theorem dX6_film_37 : decode cX6_film 37 = .ok (.pop, 1) := by decide +kernel
theorem dX6_film_38 : decode cX6_film 38 = .ok (.aload_n 0, 1) := by decide +kernel
theorem dX6_film_39 : decode cX6_film 39 = .ok (.invokevirtual 376, 3) := by decide +kernel
theorem dX6_film_42 : decode cX6_film 42 = .ok (.iconst 0, 1) := by decide +kernel
theorem dX6_film_43 : decode cX6_film 43 = .ok (.istore 4, 2) := by decide +kernel
theorem dX6_film_45 : decode cX6_film 45 = .ok (.iload 4, 2) := by decide +kernel
theorem dX6_film_47 : decode cX6_film 47 = .ok (.iload_n 3, 1) := by decide +kernel
theorem dX6_film_48 : decode cX6_film 48 = .ok (.if_icmp .ge 31, 3) := by decide +kernel
theorem dX6_film_51 : decode cX6_film 51 = .ok (.aload_n 0, 1) := by decide +kernel
theorem dX6_film_52 : decode cX6_film 52 = .ok (.invokevirtual 373, 3) := by decide +kernel
theorem dX6_film_55 : decode cX6_film 55 = .ok (.pop, 1) := by decide +kernel
theorem dX6_film_56 : decode cX6_film 56 = .ok (.aload_n 0, 1) := by decide +kernel
theorem dX6_film_57 : decode cX6_film 57 = .ok (.getfield 48, 3) := by decide +kernel
theorem dX6_film_60 : decode cX6_film 60 = .ok (.bipush 40, 2) := by decide +kernel
theorem dX6_film_62 : decode cX6_film 62 = .ok (.iload_n 1, 1) := by decide +kernel
theorem dX6_film_63 : decode cX6_film 63 = .ok (.imul, 1) := by decide +kernel
theorem dX6_film_64 : decode cX6_film 64 = .ok (.iload 4, 2) := by decide +kernel
theorem dX6_film_66 : decode cX6_film 66 = .ok (.iadd, 1) := by decide +kernel
theorem dX6_film_67 : decode cX6_film 67 = .ok (.aload_n 0, 1) := by decide +kernel
theorem dX6_film_68 : decode cX6_film 68 = .ok (.iload_n 2, 1) := by decide +kernel
theorem dX6_film_69 : decode cX6_film 69 = .ok (.invokevirtual 130, 3) := by decide +kernel
theorem dX6_film_72 : decode cX6_film 72 = .ok (.iastore, 1) := by decide +kernel
theorem dX6_film_73 : decode cX6_film 73 = .ok (.iinc 4 1, 3) := by decide +kernel
theorem dX6_film_76 : decode cX6_film 76 = .ok (.goto (-31), 3) := by decide +kernel
theorem dX6_film_79 : decode cX6_film 79 = .ok (.aload_n 0, 1) := by decide +kernel
theorem dX6_film_80 : decode cX6_film 80 = .ok (.invokevirtual 386, 3) := by decide +kernel
theorem dX6_film_83 : decode cX6_film 83 = .ok (.iload_n 3, 1) := by decide +kernel
theorem dX6_film_84 : decode cX6_film 84 = .ok (.ireturn, 1) := by decide +kernel
set_option maxRecDepth 20000 in
theorem dX6_onDrawn_0 : decode cX6_onDrawn 0 = .ok (.iload_n 1, 1) := by decide +kernel
theorem dX6_onDrawn_1 : decode cX6_onDrawn 1 = .ok (.istore 4, 2) := by decide +kernel
theorem dX6_onDrawn_3 : decode cX6_onDrawn 3 = .ok (.aload_n 0, 1) := by decide +kernel
theorem dX6_onDrawn_4 : decode cX6_onDrawn 4 = .ok (.iload_n 2, 1) := by decide +kernel
theorem dX6_onDrawn_5 : decode cX6_onDrawn 5 = .ok (.invokevirtual 130, 3) := by decide +kernel
theorem dX6_onDrawn_8 : decode cX6_onDrawn 8 = .ok (.istore 5, 2) := by decide +kernel
theorem dX6_onDrawn_10 : decode cX6_onDrawn 10 = .ok (.iconst 0, 1) := by decide +kernel
theorem dX6_onDrawn_11 : decode cX6_onDrawn 11 = .ok (.istore 6, 2) := by decide +kernel
theorem dX6_onDrawn_13 : decode cX6_onDrawn 13 = .ok (.iload 6, 2) := by decide +kernel
theorem dX6_onDrawn_15 : decode cX6_onDrawn 15 = .ok (.iload_n 3, 1) := by decide +kernel
theorem dX6_onDrawn_16 : decode cX6_onDrawn 16 = .ok (.if_icmp .ge 53, 3) := by decide +kernel
theorem dX6_onDrawn_19 : decode cX6_onDrawn 19 = .ok (.iload 4, 2) := by decide +kernel
theorem dX6_onDrawn_21 : decode cX6_onDrawn 21 = .ok (.ldc_w 437, 3) := by decide +kernel
theorem dX6_onDrawn_24 : decode cX6_onDrawn 24 = .ok (.imul, 1) := by decide +kernel
theorem dX6_onDrawn_25 : decode cX6_onDrawn 25 = .ok (.sipush 12345, 3) := by decide +kernel
theorem dX6_onDrawn_28 : decode cX6_onDrawn 28 = .ok (.iadd, 1) := by decide +kernel
theorem dX6_onDrawn_29 : decode cX6_onDrawn 29 = .ok (.istore 4, 2) := by decide +kernel
theorem dX6_onDrawn_31 : decode cX6_onDrawn 31 = .ok (.aload_n 0, 1) := by decide +kernel
theorem dX6_onDrawn_32 : decode cX6_onDrawn 32 = .ok (.iload_n 2, 1) := by decide +kernel
theorem dX6_onDrawn_33 : decode cX6_onDrawn 33 = .ok (.iload 5, 2) := by decide +kernel
theorem dX6_onDrawn_35 : decode cX6_onDrawn 35 = .ok (.iload 4, 2) := by decide +kernel
theorem dX6_onDrawn_37 : decode cX6_onDrawn 37 = .ok (.bipush 9, 2) := by decide +kernel
theorem dX6_onDrawn_39 : decode cX6_onDrawn 39 = .ok (.iushr, 1) := by decide +kernel
theorem dX6_onDrawn_40 : decode cX6_onDrawn 40 = .ok (.bipush 8, 2) := by decide +kernel
theorem dX6_onDrawn_42 : decode cX6_onDrawn 42 = .ok (.irem, 1) := by decide +kernel
theorem dX6_onDrawn_43 : decode cX6_onDrawn 43 = .ok (.invokevirtual 370, 3) := by decide +kernel
theorem dX6_onDrawn_46 : decode cX6_onDrawn 46 = .ok (.istore 7, 2) := by decide +kernel
theorem dX6_onDrawn_48 : decode cX6_onDrawn 48 = .ok (.iload 7, 2) := by decide +kernel
theorem dX6_onDrawn_50 : decode cX6_onDrawn 50 = .ok (.iconst (-1), 1) := by decide +kernel
theorem dX6_onDrawn_51 : decode cX6_onDrawn 51 = .ok (.if_icmp .ne 8, 3) := by decide +kernel
theorem dX6_onDrawn_54 : decode cX6_onDrawn 54 = .ok (.iload 5, 2) := by decide +kernel
theorem dX6_onDrawn_56 : decode cX6_onDrawn 56 = .ok (.goto 5, 3) := by decide +kernel
theorem dX6_onDrawn_59 : decode cX6_onDrawn 59 = .ok (.iload 7, 2) := by decide +kernel
theorem dX6_onDrawn_61 : decode cX6_onDrawn 61 = .ok (.istore 5, 2) := by decide +kernel
theorem dX6_onDrawn_63 : decode cX6_onDrawn 63 = .ok (.iinc 6 1, 3) := by decide +kernel
theorem dX6_onDrawn_66 : decode cX6_onDrawn 66 = .ok (.goto (-53), 3) := by decide +kernel
theorem dX6_onDrawn_69 : decode cX6_onDrawn 69 = .ok (.iload 5, 2) := by decide +kernel
theorem dX6_onDrawn_71 : decode cX6_onDrawn 71 = .ok (.ireturn, 1) := by decide +kernel
set_option maxRecDepth 20000 in
theorem dX6_drawn_0 : decode cX6_drawn 0 = .ok (.aload_n 0, 1) := by decide +kernel
theorem dX6_drawn_1 : decode cX6_drawn 1 = .ok (.iload_n 2, 1) := by decide +kernel
theorem dX6_drawn_2 : decode cX6_drawn 2 = .ok (.invokevirtual 65, 3) := by decide +kernel
theorem dX6_drawn_5 : decode cX6_drawn 5 = .ok (.ifCond .eq 25, 3) := by decide +kernel
theorem dX6_drawn_8 : decode cX6_drawn 8 = .ok (.iload_n 3, 1) := by decide +kernel
theorem dX6_drawn_9 : decode cX6_drawn 9 = .ok (.i2l, 1) := by decide +kernel
theorem dX6_drawn_10 : decode cX6_drawn 10 = .ok (.lconst 0, 1) := by decide +kernel
theorem dX6_drawn_11 : decode cX6_drawn 11 = .ok (.ldc2_w 389, 3) := by decide +kernel
theorem dX6_drawn_14 : decode cX6_drawn 14 = .ok (.invokestatic 61, 3) := by decide +kernel
theorem dX6_drawn_17 : decode cX6_drawn 17 = .ok (.ifCond .eq 13, 3) := by decide +kernel
theorem dX6_drawn_20 : decode cX6_drawn 20 = .ok (.aload_n 0, 1) := by decide +kernel
theorem dX6_drawn_21 : decode cX6_drawn 21 = .ok (.iload_n 1, 1) := by decide +kernel
theorem dX6_drawn_22 : decode cX6_drawn 22 = .ok (.iload_n 2, 1) := by decide +kernel
theorem dX6_drawn_23 : decode cX6_drawn 23 = .ok (.iload_n 3, 1) := by decide +kernel
theorem dX6_drawn_24 : decode cX6_drawn 24 = .ok (.invokevirtual 438, 3) := by decide +kernel
theorem dX6_drawn_27 : decode cX6_drawn 27 = .ok (.goto 5, 3) := by decide +kernel
theorem dX6_drawn_30 : decode cX6_drawn 30 = .ok (.bipush (-2), 2) := by decide +kernel
theorem dX6_drawn_32 : decode cX6_drawn 32 = .ok (.ireturn, 1) := by decide +kernel
set_option maxRecDepth 20000 in
theorem dX6_chance_0 : decode cX6_chance 0 = .ok (.iload_n 2, 1) := by decide +kernel
theorem dX6_chance_1 : decode cX6_chance 1 = .ok (.i2l, 1) := by decide +kernel
theorem dX6_chance_2 : decode cX6_chance 2 = .ok (.lconst 1, 1) := by decide +kernel
theorem dX6_chance_3 : decode cX6_chance 3 = .ok (.ldc2_w 389, 3) := by decide +kernel
theorem dX6_chance_6 : decode cX6_chance 6 = .ok (.invokestatic 61, 3) := by decide +kernel
theorem dX6_chance_9 : decode cX6_chance 9 = .ok (.ifCond .eq 22, 3) := by decide +kernel
theorem dX6_chance_12 : decode cX6_chance 12 = .ok (.aload_n 0, 1) := by decide +kernel
theorem dX6_chance_13 : decode cX6_chance 13 = .ok (.iload_n 3, 1) := by decide +kernel
theorem dX6_chance_14 : decode cX6_chance 14 = .ok (.invokevirtual 65, 3) := by decide +kernel
theorem dX6_chance_17 : decode cX6_chance 17 = .ok (.ifCond .eq 14, 3) := by decide +kernel
theorem dX6_chance_20 : decode cX6_chance 20 = .ok (.iload 4, 2) := by decide +kernel
theorem dX6_chance_22 : decode cX6_chance 22 = .ok (.i2l, 1) := by decide +kernel
theorem dX6_chance_23 : decode cX6_chance 23 = .ok (.lconst 0, 1) := by decide +kernel
theorem dX6_chance_24 : decode cX6_chance 24 = .ok (.lconst 1, 1) := by decide +kernel
theorem dX6_chance_25 : decode cX6_chance 25 = .ok (.invokestatic 61, 3) := by decide +kernel
theorem dX6_chance_28 : decode cX6_chance 28 = .ok (.ifCond .ne 7, 3) := by decide +kernel
theorem dX6_chance_31 : decode cX6_chance 31 = .ok (.ldc2_w 135, 3) := by decide +kernel
theorem dX6_chance_34 : decode cX6_chance 34 = .ok (.lreturn, 1) := by decide +kernel
theorem dX6_chance_35 : decode cX6_chance 35 = .ok (.lconst 0, 1) := by decide +kernel
theorem dX6_chance_36 : decode cX6_chance 36 = .ok (.lstore 5, 2) := by decide +kernel
theorem dX6_chance_38 : decode cX6_chance 38 = .ok (.iconst 0, 1) := by decide +kernel
theorem dX6_chance_39 : decode cX6_chance 39 = .ok (.istore 7, 2) := by decide +kernel
theorem dX6_chance_41 : decode cX6_chance 41 = .ok (.iload 7, 2) := by decide +kernel
theorem dX6_chance_43 : decode cX6_chance 43 = .ok (.iload_n 2, 1) := by decide +kernel
theorem dX6_chance_44 : decode cX6_chance 44 = .ok (.if_icmp .ge 52, 3) := by decide +kernel
theorem dX6_chance_47 : decode cX6_chance 47 = .ok (.aload_n 0, 1) := by decide +kernel
theorem dX6_chance_48 : decode cX6_chance 48 = .ok (.iload_n 1, 1) := by decide +kernel
theorem dX6_chance_49 : decode cX6_chance 49 = .ok (.iload 7, 2) := by decide +kernel
theorem dX6_chance_51 : decode cX6_chance 51 = .ok (.iadd, 1) := by decide +kernel
theorem dX6_chance_52 : decode cX6_chance 52 = .ok (.iload_n 3, 1) := by decide +kernel
theorem dX6_chance_53 : decode cX6_chance 53 = .ok (.bipush 8, 2) := by decide +kernel
theorem dX6_chance_55 : decode cX6_chance 55 = .ok (.invokevirtual 438, 3) := by decide +kernel
theorem dX6_chance_58 : decode cX6_chance 58 = .ok (.istore 8, 2) := by decide +kernel
theorem dX6_chance_60 : decode cX6_chance 60 = .ok (.lload 5, 2) := by decide +kernel
theorem dX6_chance_62 : decode cX6_chance 62 = .ok (.iload 8, 2) := by decide +kernel
theorem dX6_chance_64 : decode cX6_chance 64 = .ok (.invokestatic 359, 3) := by decide +kernel
theorem dX6_chance_67 : decode cX6_chance 67 = .ok (.ifCond .eq 19, 3) := by decide +kernel
theorem dX6_chance_70 : decode cX6_chance 70 = .ok (.aload_n 0, 1) := by decide +kernel
theorem dX6_chance_71 : decode cX6_chance 71 = .ok (.getfield 106, 3) := by decide +kernel
theorem dX6_chance_74 : decode cX6_chance 74 = .ok (.iload 8, 2) := by decide +kernel
theorem dX6_chance_76 : decode cX6_chance 76 = .ok (.invokestatic 91, 3) := by decide +kernel
theorem dX6_chance_79 : decode cX6_chance 79 = .ok (.ifCond .ne 7, 3) := by decide +kernel
theorem dX6_chance_82 : decode cX6_chance 82 = .ok (.lconst 1, 1) := by decide +kernel
theorem dX6_chance_83 : decode cX6_chance 83 = .ok (.goto 4, 3) := by decide +kernel
theorem dX6_chance_86 : decode cX6_chance 86 = .ok (.lconst 0, 1) := by decide +kernel
theorem dX6_chance_87 : decode cX6_chance 87 = .ok (.ladd, 1) := by decide +kernel
theorem dX6_chance_88 : decode cX6_chance 88 = .ok (.lstore 5, 2) := by decide +kernel
theorem dX6_chance_90 : decode cX6_chance 90 = .ok (.iinc 7 1, 3) := by decide +kernel
theorem dX6_chance_93 : decode cX6_chance 93 = .ok (.goto (-52), 3) := by decide +kernel
theorem dX6_chance_96 : decode cX6_chance 96 = .ok (.lload 5, 2) := by decide +kernel
theorem dX6_chance_98 : decode cX6_chance 98 = .ok (.iload_n 2, 1) := by decide +kernel
theorem dX6_chance_99 : decode cX6_chance 99 = .ok (.i2l, 1) := by decide +kernel
theorem dX6_chance_100 : decode cX6_chance 100 = .ok (.iload 4, 2) := by decide +kernel
theorem dX6_chance_102 : decode cX6_chance 102 = .ok (.invokestatic 419, 3) := by decide +kernel
theorem dX6_chance_105 : decode cX6_chance 105 = .ok (.lreturn, 1) := by decide +kernel
theorem dX6_image_0 : decode cX6_image 0 = .ok (.iconst 0, 1) := by decide +kernel
theorem dX6_image_1 : decode cX6_image 1 = .ok (.istore_n 1, 1) := by decide +kernel
theorem dX6_image_2 : decode cX6_image 2 = .ok (.iload_n 1, 1) := by decide +kernel
theorem dX6_image_3 : decode cX6_image 3 = .ok (.bipush 20, 2) := by decide +kernel
theorem dX6_image_5 : decode cX6_image 5 = .ok (.if_icmp .ge 21, 3) := by decide +kernel
theorem dX6_image_8 : decode cX6_image 8 = .ok (.aload_n 0, 1) := by decide +kernel
theorem dX6_image_9 : decode cX6_image 9 = .ok (.getfield 32, 3) := by decide +kernel
theorem dX6_image_12 : decode cX6_image 12 = .ok (.iload_n 1, 1) := by decide +kernel
theorem dX6_image_13 : decode cX6_image 13 = .ok (.aload_n 0, 1) := by decide +kernel
theorem dX6_image_14 : decode cX6_image 14 = .ok (.getfield 23, 3) := by decide +kernel
theorem dX6_image_17 : decode cX6_image 17 = .ok (.iload_n 1, 1) := by decide +kernel
theorem dX6_image_18 : decode cX6_image 18 = .ok (.iaload, 1) := by decide +kernel
theorem dX6_image_19 : decode cX6_image 19 = .ok (.iastore, 1) := by decide +kernel
theorem dX6_image_20 : decode cX6_image 20 = .ok (.iinc 1 1, 3) := by decide +kernel
theorem dX6_image_23 : decode cX6_image 23 = .ok (.goto (-21), 3) := by decide +kernel
theorem dX6_image_26 : decode cX6_image 26 = .ok (.aload_n 0, 1) := by decide +kernel
theorem dX6_image_27 : decode cX6_image 27 = .ok (.aload_n 0, 1) := by decide +kernel
theorem dX6_image_28 : decode cX6_image 28 = .ok (.getfield 58, 3) := by decide +kernel
theorem dX6_image_31 : decode cX6_image 31 = .ok (.putfield 35, 3) := by decide +kernel
theorem dX6_image_34 : decode cX6_image 34 = .ok (.aload_n 0, 1) := by decide +kernel
theorem dX6_image_35 : decode cX6_image 35 = .ok (.aload_n 0, 1) := by decide +kernel
theorem dX6_image_36 : decode cX6_image 36 = .ok (.getfield 103, 3) := by decide +kernel
theorem dX6_image_39 : decode cX6_image 39 = .ok (.putfield 441, 3) := by decide +kernel
theorem dX6_image_42 : decode cX6_image 42 = .ok (.aload_n 0, 1) := by decide +kernel
theorem dX6_image_43 : decode cX6_image 43 = .ok (.aload_n 0, 1) := by decide +kernel
theorem dX6_image_44 : decode cX6_image 44 = .ok (.getfield 111, 3) := by decide +kernel
theorem dX6_image_47 : decode cX6_image 47 = .ok (.putfield 444, 3) := by decide +kernel
theorem dX6_image_50 : decode cX6_image 50 = .ok (.aload_n 0, 1) := by decide +kernel
theorem dX6_image_51 : decode cX6_image 51 = .ok (.aload_n 0, 1) := by decide +kernel
theorem dX6_image_52 : decode cX6_image 52 = .ok (.getfield 106, 3) := by decide +kernel
theorem dX6_image_55 : decode cX6_image 55 = .ok (.putfield 447, 3) := by decide +kernel
theorem dX6_image_58 : decode cX6_image 58 = .ok (.aload_n 0, 1) := by decide +kernel
theorem dX6_image_59 : decode cX6_image 59 = .ok (.aload_n 0, 1) := by decide +kernel
theorem dX6_image_60 : decode cX6_image 60 = .ok (.getfield 87, 3) := by decide +kernel
theorem dX6_image_63 : decode cX6_image 63 = .ok (.putfield 450, 3) := by decide +kernel
theorem dX6_image_66 : decode cX6_image 66 = .ok (.aload_n 0, 1) := by decide +kernel
theorem dX6_image_67 : decode cX6_image 67 = .ok (.getfield 58, 3) := by decide +kernel
theorem dX6_image_70 : decode cX6_image 70 = .ok (.ireturn, 1) := by decide +kernel
theorem dX6_back_0 : decode cX6_back 0 = .ok (.aload_n 0, 1) := by decide +kernel
theorem dX6_back_1 : decode cX6_back 1 = .ok (.getfield 35, 3) := by decide +kernel
theorem dX6_back_4 : decode cX6_back 4 = .ok (.iconst (-1), 1) := by decide +kernel
theorem dX6_back_5 : decode cX6_back 5 = .ok (.if_icmp .ne 6, 3) := by decide +kernel
theorem dX6_back_8 : decode cX6_back 8 = .ok (.bipush (-3), 2) := by decide +kernel
theorem dX6_back_10 : decode cX6_back 10 = .ok (.ireturn, 1) := by decide +kernel
theorem dX6_back_11 : decode cX6_back 11 = .ok (.iconst 0, 1) := by decide +kernel
theorem dX6_back_12 : decode cX6_back 12 = .ok (.istore_n 1, 1) := by decide +kernel
theorem dX6_back_13 : decode cX6_back 13 = .ok (.iload_n 1, 1) := by decide +kernel
theorem dX6_back_14 : decode cX6_back 14 = .ok (.bipush 20, 2) := by decide +kernel
theorem dX6_back_16 : decode cX6_back 16 = .ok (.if_icmp .ge 21, 3) := by decide +kernel
theorem dX6_back_19 : decode cX6_back 19 = .ok (.aload_n 0, 1) := by decide +kernel
theorem dX6_back_20 : decode cX6_back 20 = .ok (.getfield 23, 3) := by decide +kernel
theorem dX6_back_23 : decode cX6_back 23 = .ok (.iload_n 1, 1) := by decide +kernel
theorem dX6_back_24 : decode cX6_back 24 = .ok (.aload_n 0, 1) := by decide +kernel
theorem dX6_back_25 : decode cX6_back 25 = .ok (.getfield 32, 3) := by decide +kernel
theorem dX6_back_28 : decode cX6_back 28 = .ok (.iload_n 1, 1) := by decide +kernel
theorem dX6_back_29 : decode cX6_back 29 = .ok (.iaload, 1) := by decide +kernel
theorem dX6_back_30 : decode cX6_back 30 = .ok (.iastore, 1) := by decide +kernel
theorem dX6_back_31 : decode cX6_back 31 = .ok (.iinc 1 1, 3) := by decide +kernel
theorem dX6_back_34 : decode cX6_back 34 = .ok (.goto (-21), 3) := by decide +kernel
theorem dX6_back_37 : decode cX6_back 37 = .ok (.aload_n 0, 1) := by decide +kernel
theorem dX6_back_38 : decode cX6_back 38 = .ok (.aload_n 0, 1) := by decide +kernel
theorem dX6_back_39 : decode cX6_back 39 = .ok (.getfield 35, 3) := by decide +kernel
theorem dX6_back_42 : decode cX6_back 42 = .ok (.putfield 58, 3) := by decide +kernel
theorem dX6_back_45 : decode cX6_back 45 = .ok (.aload_n 0, 1) := by decide +kernel
theorem dX6_back_46 : decode cX6_back 46 = .ok (.aload_n 0, 1) := by decide +kernel
theorem dX6_back_47 : decode cX6_back 47 = .ok (.getfield 441, 3) := by decide +kernel
theorem dX6_back_50 : decode cX6_back 50 = .ok (.putfield 103, 3) := by decide +kernel
theorem dX6_back_53 : decode cX6_back 53 = .ok (.aload_n 0, 1) := by decide +kernel
theorem dX6_back_54 : decode cX6_back 54 = .ok (.aload_n 0, 1) := by decide +kernel
theorem dX6_back_55 : decode cX6_back 55 = .ok (.getfield 444, 3) := by decide +kernel
theorem dX6_back_58 : decode cX6_back 58 = .ok (.putfield 111, 3) := by decide +kernel
theorem dX6_back_61 : decode cX6_back 61 = .ok (.aload_n 0, 1) := by decide +kernel
theorem dX6_back_62 : decode cX6_back 62 = .ok (.aload_n 0, 1) := by decide +kernel
theorem dX6_back_63 : decode cX6_back 63 = .ok (.getfield 447, 3) := by decide +kernel
theorem dX6_back_66 : decode cX6_back 66 = .ok (.putfield 106, 3) := by decide +kernel
theorem dX6_back_69 : decode cX6_back 69 = .ok (.aload_n 0, 1) := by decide +kernel
theorem dX6_back_70 : decode cX6_back 70 = .ok (.aload_n 0, 1) := by decide +kernel
theorem dX6_back_71 : decode cX6_back 71 = .ok (.getfield 450, 3) := by decide +kernel
theorem dX6_back_74 : decode cX6_back 74 = .ok (.putfield 87, 3) := by decide +kernel
theorem dX6_back_77 : decode cX6_back 77 = .ok (.aload_n 0, 1) := by decide +kernel
theorem dX6_back_78 : decode cX6_back 78 = .ok (.getfield 58, 3) := by decide +kernel
theorem dX6_back_81 : decode cX6_back 81 = .ok (.ireturn, 1) := by decide +kernel
set_option maxRecDepth 20000 in
theorem dX6_count_0 : decode cX6_count 0 = .ok (.iload_n 1, 1) := by decide +kernel
theorem dX6_count_1 : decode cX6_count 1 = .ok (.i2l, 1) := by decide +kernel
theorem dX6_count_2 : decode cX6_count 2 = .ok (.lconst 0, 1) := by decide +kernel
theorem dX6_count_3 : decode cX6_count 3 = .ok (.ldc2_w 74, 3) := by decide +kernel
theorem dX6_count_6 : decode cX6_count 6 = .ok (.invokestatic 61, 3) := by decide +kernel
theorem dX6_count_9 : decode cX6_count 9 = .ok (.ifCond .ne 6, 3) := by decide +kernel
theorem dX6_count_12 : decode cX6_count 12 = .ok (.bipush (-2), 2) := by decide +kernel
theorem dX6_count_14 : decode cX6_count 14 = .ok (.ireturn, 1) := by decide +kernel
theorem dX6_count_15 : decode cX6_count 15 = .ok (.iload_n 1, 1) := by decide +kernel
theorem dX6_count_16 : decode cX6_count 16 = .ok (.ifCond .ne 10, 3) := by decide +kernel
theorem dX6_count_19 : decode cX6_count 19 = .ok (.aload_n 0, 1) := by decide +kernel
theorem dX6_count_20 : decode cX6_count 20 = .ok (.getfield 58, 3) := by decide +kernel
theorem dX6_count_23 : decode cX6_count 23 = .ok (.goto 58, 3) := by decide +kernel
theorem dX6_count_26 : decode cX6_count 26 = .ok (.iload_n 1, 1) := by decide +kernel
theorem dX6_count_27 : decode cX6_count 27 = .ok (.iconst 1, 1) := by decide +kernel
theorem dX6_count_28 : decode cX6_count 28 = .ok (.if_icmp .ne 13, 3) := by decide +kernel
theorem dX6_count_31 : decode cX6_count 31 = .ok (.aload_n 0, 1) := by decide +kernel
theorem dX6_count_32 : decode cX6_count 32 = .ok (.getfield 87, 3) := by decide +kernel
theorem dX6_count_35 : decode cX6_count 35 = .ok (.invokestatic 348, 3) := by decide +kernel
theorem dX6_count_38 : decode cX6_count 38 = .ok (.goto 43, 3) := by decide +kernel
theorem dX6_count_41 : decode cX6_count 41 = .ok (.iload_n 1, 1) := by decide +kernel
theorem dX6_count_42 : decode cX6_count 42 = .ok (.iconst 2, 1) := by decide +kernel
theorem dX6_count_43 : decode cX6_count 43 = .ok (.if_icmp .ne 10, 3) := by decide +kernel
theorem dX6_count_46 : decode cX6_count 46 = .ok (.aload_n 0, 1) := by decide +kernel
theorem dX6_count_47 : decode cX6_count 47 = .ok (.getfield 103, 3) := by decide +kernel
theorem dX6_count_50 : decode cX6_count 50 = .ok (.goto 31, 3) := by decide +kernel
theorem dX6_count_53 : decode cX6_count 53 = .ok (.iload_n 1, 1) := by decide +kernel
theorem dX6_count_54 : decode cX6_count 54 = .ok (.iconst 3, 1) := by decide +kernel
theorem dX6_count_55 : decode cX6_count 55 = .ok (.if_icmp .ne 10, 3) := by decide +kernel
theorem dX6_count_58 : decode cX6_count 58 = .ok (.aload_n 0, 1) := by decide +kernel
theorem dX6_count_59 : decode cX6_count 59 = .ok (.getfield 55, 3) := by decide +kernel
theorem dX6_count_62 : decode cX6_count 62 = .ok (.goto 19, 3) := by decide +kernel
theorem dX6_count_65 : decode cX6_count 65 = .ok (.iload_n 1, 1) := by decide +kernel
theorem dX6_count_66 : decode cX6_count 66 = .ok (.iconst 4, 1) := by decide +kernel
theorem dX6_count_67 : decode cX6_count 67 = .ok (.if_icmp .ne 10, 3) := by decide +kernel
theorem dX6_count_70 : decode cX6_count 70 = .ok (.aload_n 0, 1) := by decide +kernel
theorem dX6_count_71 : decode cX6_count 71 = .ok (.getfield 143, 3) := by decide +kernel
theorem dX6_count_74 : decode cX6_count 74 = .ok (.goto 7, 3) := by decide +kernel
theorem dX6_count_77 : decode cX6_count 77 = .ok (.aload_n 0, 1) := by decide +kernel
theorem dX6_count_78 : decode cX6_count 78 = .ok (.getfield 111, 3) := by decide +kernel
theorem dX6_count_81 : decode cX6_count 81 = .ok (.ireturn, 1) := by decide +kernel
set_option maxRecDepth 20000 in
theorem dX6_isSheet_0 : decode cX6_isSheet 0 = .ok (.iload_n 0, 1) := by decide +kernel
theorem dX6_isSheet_1 : decode cX6_isSheet 1 = .ok (.i2l, 1) := by decide +kernel
theorem dX6_isSheet_2 : decode cX6_isSheet 2 = .ok (.lconst 0, 1) := by decide +kernel
theorem dX6_isSheet_3 : decode cX6_isSheet 3 = .ok (.ldc2_w 391, 3) := by decide +kernel
theorem dX6_isSheet_6 : decode cX6_isSheet 6 = .ok (.invokestatic 61, 3) := by decide +kernel
theorem dX6_isSheet_9 : decode cX6_isSheet 9 = .ok (.ireturn, 1) := by decide +kernel
set_option maxRecDepth 20000 in
theorem dX6_sheet_0 : decode cX6_sheet 0 = .ok (.iload_n 1, 1) := by decide +kernel
theorem dX6_sheet_1 : decode cX6_sheet 1 = .ok (.invokestatic 426, 3) := by decide +kernel
theorem dX6_sheet_4 : decode cX6_sheet 4 = .ok (.ifCond .eq 27, 3) := by decide +kernel
theorem dX6_sheet_7 : decode cX6_sheet 7 = .ok (.iload_n 2, 1) := by decide +kernel
theorem dX6_sheet_8 : decode cX6_sheet 8 = .ok (.i2l, 1) := by decide +kernel
theorem dX6_sheet_9 : decode cX6_sheet 9 = .ok (.ldc2_w 109, 3) := by decide +kernel
theorem dX6_sheet_12 : decode cX6_sheet 12 = .ok (.ldc2_w 133, 3) := by decide +kernel
theorem dX6_sheet_15 : decode cX6_sheet 15 = .ok (.invokestatic 61, 3) := by decide +kernel
theorem dX6_sheet_18 : decode cX6_sheet 18 = .ok (.ifCond .eq 13, 3) := by decide +kernel
theorem dX6_sheet_21 : decode cX6_sheet 21 = .ok (.iload_n 2, 1) := by decide +kernel
theorem dX6_sheet_22 : decode cX6_sheet 22 = .ok (.ifCond .lt 12, 3) := by decide +kernel
theorem dX6_sheet_25 : decode cX6_sheet 25 = .ok (.iload_n 3, 1) := by decide +kernel
theorem dX6_sheet_26 : decode cX6_sheet 26 = .ok (.bipush 40, 2) := by decide +kernel
theorem dX6_sheet_28 : decode cX6_sheet 28 = .ok (.if_icmp .le 6, 3) := by decide +kernel
theorem dX6_sheet_31 : decode cX6_sheet 31 = .ok (.bipush (-2), 2) := by decide +kernel
theorem dX6_sheet_33 : decode cX6_sheet 33 = .ok (.ireturn, 1) := by decide +kernel
theorem dX6_sheet_34 : decode cX6_sheet 34 = .ok (.iload_n 2, 1) := by decide +kernel
theorem dX6_sheet_35 : decode cX6_sheet 35 = .ok (.ifCond .lt 10, 3) := by decide +kernel
theorem dX6_sheet_38 : decode cX6_sheet 38 = .ok (.iload_n 3, 1) := by decide +kernel
theorem dX6_sheet_39 : decode cX6_sheet 39 = .ok (.ifCond .ge 6, 3) := by decide +kernel
theorem dX6_sheet_42 : decode cX6_sheet 42 = .ok (.bipush (-14), 2) := by decide +kernel
theorem dX6_sheet_44 : decode cX6_sheet 44 = .ok (.ireturn, 1) := by decide +kernel
theorem dX6_sheet_45 : decode cX6_sheet 45 = .ok (.aload_n 0, 1) := by decide +kernel
theorem dX6_sheet_46 : decode cX6_sheet 46 = .ok (.getfield 38, 3) := by decide +kernel
theorem dX6_sheet_49 : decode cX6_sheet 49 = .ok (.iload_n 1, 1) := by decide +kernel
theorem dX6_sheet_50 : decode cX6_sheet 50 = .ok (.iload_n 2, 1) := by decide +kernel
theorem dX6_sheet_51 : decode cX6_sheet 51 = .ok (.ifCond .lt 7, 3) := by decide +kernel
theorem dX6_sheet_54 : decode cX6_sheet 54 = .ok (.iconst 1, 1) := by decide +kernel
theorem dX6_sheet_55 : decode cX6_sheet 55 = .ok (.goto 4, 3) := by decide +kernel
theorem dX6_sheet_58 : decode cX6_sheet 58 = .ok (.iconst 0, 1) := by decide +kernel
theorem dX6_sheet_59 : decode cX6_sheet 59 = .ok (.bastore, 1) := by decide +kernel
theorem dX6_sheet_60 : decode cX6_sheet 60 = .ok (.aload_n 0, 1) := by decide +kernel
theorem dX6_sheet_61 : decode cX6_sheet 61 = .ok (.getfield 42, 3) := by decide +kernel
theorem dX6_sheet_64 : decode cX6_sheet 64 = .ok (.iload_n 1, 1) := by decide +kernel
theorem dX6_sheet_65 : decode cX6_sheet 65 = .ok (.iload_n 2, 1) := by decide +kernel
theorem dX6_sheet_66 : decode cX6_sheet 66 = .ok (.iastore, 1) := by decide +kernel
theorem dX6_sheet_67 : decode cX6_sheet 67 = .ok (.aload_n 0, 1) := by decide +kernel
theorem dX6_sheet_68 : decode cX6_sheet 68 = .ok (.getfield 45, 3) := by decide +kernel
theorem dX6_sheet_71 : decode cX6_sheet 71 = .ok (.iload_n 1, 1) := by decide +kernel
theorem dX6_sheet_72 : decode cX6_sheet 72 = .ok (.iload_n 3, 1) := by decide +kernel
theorem dX6_sheet_73 : decode cX6_sheet 73 = .ok (.iastore, 1) := by decide +kernel
theorem dX6_sheet_74 : decode cX6_sheet 74 = .ok (.iconst 0, 1) := by decide +kernel
theorem dX6_sheet_75 : decode cX6_sheet 75 = .ok (.istore 4, 2) := by decide +kernel
theorem dX6_sheet_77 : decode cX6_sheet 77 = .ok (.iload 4, 2) := by decide +kernel
theorem dX6_sheet_79 : decode cX6_sheet 79 = .ok (.iload_n 3, 1) := by decide +kernel
theorem dX6_sheet_80 : decode cX6_sheet 80 = .ok (.if_icmp .ge 26, 3) := by decide +kernel
