theorem dX4_start_14 : decode cX4_start 14 = .ok (.getfield 15, 3) := by decide +kernel
theorem dX4_start_17 : decode cX4_start 17 = .ok (.goto 7, 3) := by decide +kernel
theorem dX4_start_20 : decode cX4_start 20 = .ok (.aload_n 0, 1) := by decide +kernel
theorem dX4_start_21 : decode cX4_start 21 = .ok (.getfield 19, 3) := by decide +kernel
theorem dX4_start_24 : decode cX4_start 24 = .ok (.ireturn, 1) := by decide +kernel
theorem dX4_end_0 : decode cX4_end 0 = .ok (.iload_n 1, 1) := by decide +kernel
theorem dX4_end_1 : decode cX4_end 1 = .ok (.ifCond .ne 10, 3) := by decide +kernel
theorem dX4_end_4 : decode cX4_end 4 = .ok (.aload_n 0, 1) := by decide +kernel
theorem dX4_end_5 : decode cX4_end 5 = .ok (.getfield 15, 3) := by decide +kernel
theorem dX4_end_8 : decode cX4_end 8 = .ok (.goto 20, 3) := by decide +kernel
theorem dX4_end_11 : decode cX4_end 11 = .ok (.iload_n 1, 1) := by decide +kernel
theorem dX4_end_12 : decode cX4_end 12 = .ok (.iconst 1, 1) := by decide +kernel
theorem dX4_end_13 : decode cX4_end 13 = .ok (.if_icmp .ne 10, 3) := by decide +kernel
theorem dX4_end_16 : decode cX4_end 16 = .ok (.aload_n 0, 1) := by decide +kernel
theorem dX4_end_17 : decode cX4_end 17 = .ok (.getfield 19, 3) := by decide +kernel
theorem dX4_end_20 : decode cX4_end 20 = .ok (.goto 8, 3) := by decide +kernel
theorem dX4_end_23 : decode cX4_end 23 = .ok (.aload_n 0, 1) := by decide +kernel
theorem dX4_end_24 : decode cX4_end 24 = .ok (.getfield 9, 3) := by decide +kernel
theorem dX4_end_27 : decode cX4_end 27 = .ok (.arraylength, 1) := by decide +kernel
theorem dX4_end_28 : decode cX4_end 28 = .ok (.ireturn, 1) := by decide +kernel
set_option maxRecDepth 20000 in
theorem dX5_init_0 : decode cX5_init 0 = .ok (.aload_n 0, 1) := by decide +kernel
theorem dX5_init_1 : decode cX5_init 1 = .ok (.invokespecial 1, 3) := by decide +kernel
theorem dX5_init_4 : decode cX5_init 4 = .ok (.aload_n 0, 1) := by decide +kernel
theorem dX5_init_5 : decode cX5_init 5 = .ok (.new 7, 3) := by decide +kernel
theorem dX5_init_8 : decode cX5_init 8 = .ok (.dup, 1) := by decide +kernel
theorem dX5_init_9 : decode cX5_init 9 = .ok (.invokespecial 9, 3) := by decide +kernel
theorem dX5_init_12 : decode cX5_init 12 = .ok (.putfield 10, 3) := by decide +kernel
theorem dX5_init_15 : decode cX5_init 15 = .ok (.aload_n 0, 1) := by decide +kernel
theorem dX5_init_16 : decode cX5_init 16 = .ok (.new 7, 3) := by decide +kernel
theorem dX5_init_19 : decode cX5_init 19 = .ok (.dup, 1) := by decide +kernel
theorem dX5_init_20 : decode cX5_init 20 = .ok (.invokespecial 9, 3) := by decide +kernel
theorem dX5_init_23 : decode cX5_init 23 = .ok (.putfield 16, 3) := by decide +kernel
theorem dX5_init_26 : decode cX5_init 26 = .ok (.aload_n 0, 1) := by decide +kernel
theorem dX5_init_27 : decode cX5_init 27 = .ok (.new 7, 3) := by decide +kernel
theorem dX5_init_30 : decode cX5_init 30 = .ok (.dup, 1) := by decide +kernel
theorem dX5_init_31 : decode cX5_init 31 = .ok (.invokespecial 9, 3) := by decide +kernel
theorem dX5_init_34 : decode cX5_init 34 = .ok (.putfield 19, 3) := by decide +kernel
theorem dX5_init_37 : decode cX5_init 37 = .ok (.aload_n 0, 1) := by decide +kernel
theorem dX5_init_38 : decode cX5_init 38 = .ok (.new 7, 3) := by decide +kernel
theorem dX5_init_41 : decode cX5_init 41 = .ok (.dup, 1) := by decide +kernel
theorem dX5_init_42 : decode cX5_init 42 = .ok (.invokespecial 9, 3) := by decide +kernel
theorem dX5_init_45 : decode cX5_init 45 = .ok (.putfield 22, 3) := by decide +kernel
theorem dX5_init_48 : decode cX5_init 48 = .ok (.aload_n 0, 1) := by decide +kernel
theorem dX5_init_49 : decode cX5_init 49 = .ok (.new 25, 3) := by decide +kernel
theorem dX5_init_52 : decode cX5_init 52 = .ok (.dup, 1) := by decide +kernel
theorem dX5_init_53 : decode cX5_init 53 = .ok (.invokespecial 27, 3) := by decide +kernel
theorem dX5_init_56 : decode cX5_init 56 = .ok (.putfield 28, 3) := by decide +kernel
theorem dX5_init_59 : decode cX5_init 59 = .ok (.aload_n 0, 1) := by decide +kernel
theorem dX5_init_60 : decode cX5_init 60 = .ok (.new 32, 3) := by decide +kernel
theorem dX5_init_63 : decode cX5_init 63 = .ok (.dup, 1) := by decide +kernel
theorem dX5_init_64 : decode cX5_init 64 = .ok (.invokespecial 34, 3) := by decide +kernel
theorem dX5_init_67 : decode cX5_init 67 = .ok (.putfield 35, 3) := by decide +kernel
theorem dX5_init_70 : decode cX5_init 70 = .ok (.aload_n 0, 1) := by decide +kernel
theorem dX5_init_71 : decode cX5_init 71 = .ok (.iconst 4, 1) := by decide +kernel
theorem dX5_init_72 : decode cX5_init 72 = .ok (.anewarray 39, 3) := by decide +kernel
theorem dX5_init_75 : decode cX5_init 75 = .ok (.putfield 41, 3) := by decide +kernel
theorem dX5_init_78 : decode cX5_init 78 = .ok (.iconst 0, 1) := by decide +kernel
theorem dX5_init_79 : decode cX5_init 79 = .ok (.istore_n 1, 1) := by decide +kernel
theorem dX5_init_80 : decode cX5_init 80 = .ok (.iload_n 1, 1) := by decide +kernel
theorem dX5_init_81 : decode cX5_init 81 = .ok (.iconst 4, 1) := by decide +kernel
theorem dX5_init_82 : decode cX5_init 82 = .ok (.if_icmp .ge 22, 3) := by decide +kernel
theorem dX5_init_85 : decode cX5_init 85 = .ok (.aload_n 0, 1) := by decide +kernel
theorem dX5_init_86 : decode cX5_init 86 = .ok (.getfield 41, 3) := by decide +kernel
theorem dX5_init_89 : decode cX5_init 89 = .ok (.iload_n 1, 1) := by decide +kernel
theorem dX5_init_90 : decode cX5_init 90 = .ok (.new 39, 3) := by decide +kernel
theorem dX5_init_93 : decode cX5_init 93 = .ok (.dup, 1) := by decide +kernel
theorem dX5_init_94 : decode cX5_init 94 = .ok (.invokespecial 45, 3) := by decide +kernel
theorem dX5_init_97 : decode cX5_init 97 = .ok (.aastore, 1) := by decide +kernel
theorem dX5_init_98 : decode cX5_init 98 = .ok (.iinc 1 1, 3) := by decide +kernel
theorem dX5_init_101 : decode cX5_init 101 = .ok (.goto (-21), 3) := by decide +kernel
theorem dX5_init_104 : decode cX5_init 104 = .ok (.iconst 0, 1) := by decide +kernel
theorem dX5_init_105 : decode cX5_init 105 = .ok (.istore_n 1, 1) := by decide +kernel
theorem dX5_init_106 : decode cX5_init 106 = .ok (.iload_n 1, 1) := by decide +kernel
theorem dX5_init_107 : decode cX5_init 107 = .ok (.ldc 46, 2) := by decide +kernel
theorem dX5_init_109 : decode cX5_init 109 = .ok (.invokevirtual 48, 3) := by decide +kernel
theorem dX5_init_112 : decode cX5_init 112 = .ok (.if_icmp .ge 23, 3) := by decide +kernel
theorem dX5_init_115 : decode cX5_init 115 = .ok (.aload_n 0, 1) := by decide +kernel
theorem dX5_init_116 : decode cX5_init 116 = .ok (.getfield 35, 3) := by decide +kernel
theorem dX5_init_119 : decode cX5_init 119 = .ok (.ldc 46, 2) := by decide +kernel
theorem dX5_init_121 : decode cX5_init 121 = .ok (.iload_n 1, 1) := by decide +kernel
theorem dX5_init_122 : decode cX5_init 122 = .ok (.invokevirtual 54, 3) := by decide +kernel
theorem dX5_init_125 : decode cX5_init 125 = .ok (.invokevirtual 58, 3) := by decide +kernel
theorem dX5_init_128 : decode cX5_init 128 = .ok (.pop, 1) := by decide +kernel
theorem dX5_init_129 : decode cX5_init 129 = .ok (.iinc 1 1, 3) := by decide +kernel
theorem dX5_init_132 : decode cX5_init 132 = .ok (.goto (-26), 3) := by decide +kernel
theorem dX5_init_135 : decode cX5_init 135 = .ok (.aload_n 0, 1) := by decide +kernel
theorem dX5_init_136 : decode cX5_init 136 = .ok (.getfield 28, 3) := by decide +kernel
theorem dX5_init_139 : decode cX5_init 139 = .ok (.aload_n 0, 1) := by decide +kernel
theorem dX5_init_140 : decode cX5_init 140 = .ok (.getfield 35, 3) := by decide +kernel
theorem dX5_init_143 : decode cX5_init 143 = .ok (.invokevirtual 62, 3) := by decide +kernel
theorem dX5_init_146 : decode cX5_init 146 = .ok (.invokevirtual 66, 3) := by decide +kernel
theorem dX5_init_149 : decode cX5_init 149 = .ok (.pop, 1) := by decide +kernel
theorem dX5_init_150 : decode cX5_init 150 = .ok (.aload_n 0, 1) := by decide +kernel
theorem dX5_init_151 : decode cX5_init 151 = .ok (.getfield 35, 3) := by decide +kernel
theorem dX5_init_154 : decode cX5_init 154 = .ok (.invokevirtual 70, 3) := by decide +kernel
theorem dX5_init_157 : decode cX5_init 157 = .ok (.return_, 1) := by decide +kernel
set_option maxRecDepth 20000 in
theorem dX5_set_0 : decode cX5_set 0 = .ok (.aload_n 0, 1) := by decide +kernel
theorem dX5_set_1 : decode cX5_set 1 = .ok (.iload_n 1, 1) := by decide +kernel
theorem dX5_set_2 : decode cX5_set 2 = .ok (.iload_n 2, 1) := by decide +kernel
theorem dX5_set_3 : decode cX5_set 3 = .ok (.iload_n 3, 1) := by decide +kernel
theorem dX5_set_4 : decode cX5_set 4 = .ok (.invokevirtual 73, 3) := by decide +kernel
theorem dX5_set_7 : decode cX5_set 7 = .ok (.ifCond .ne 6, 3) := by decide +kernel
theorem dX5_set_10 : decode cX5_set 10 = .ok (.bipush (-2), 2) := by decide +kernel
theorem dX5_set_12 : decode cX5_set 12 = .ok (.ireturn, 1) := by decide +kernel
theorem dX5_set_13 : decode cX5_set 13 = .ok (.aload_n 0, 1) := by decide +kernel
theorem dX5_set_14 : decode cX5_set 14 = .ok (.iload_n 2, 1) := by decide +kernel
theorem dX5_set_15 : decode cX5_set 15 = .ok (.iload_n 1, 1) := by decide +kernel
theorem dX5_set_16 : decode cX5_set 16 = .ok (.invokevirtual 77, 3) := by decide +kernel
theorem dX5_set_19 : decode cX5_set 19 = .ok (.istore 4, 2) := by decide +kernel
theorem dX5_set_21 : decode cX5_set 21 = .ok (.lconst 1, 1) := by decide +kernel
theorem dX5_set_22 : decode cX5_set 22 = .ok (.iload_n 2, 1) := by decide +kernel
theorem dX5_set_23 : decode cX5_set 23 = .ok (.lshl, 1) := by decide +kernel
theorem dX5_set_24 : decode cX5_set 24 = .ok (.lstore 5, 2) := by decide +kernel
theorem dX5_set_26 : decode cX5_set 26 = .ok (.iload_n 1, 1) := by decide +kernel
theorem dX5_set_27 : decode cX5_set 27 = .ok (.tableswitch 154 0 4 #[33, 44, 86, 128, 141], 33) := by decide +kernel
theorem dX5_set_60 : decode cX5_set 60 = .ok (.aload_n 0, 1) := by decide +kernel
theorem dX5_set_61 : decode cX5_set 61 = .ok (.getfield 10, 3) := by decide +kernel
theorem dX5_set_64 : decode cX5_set 64 = .ok (.iload_n 3, 1) := by decide +kernel
theorem dX5_set_65 : decode cX5_set 65 = .ok (.putfield 81, 3) := by decide +kernel
theorem dX5_set_68 : decode cX5_set 68 = .ok (.goto 123, 3) := by decide +kernel
theorem dX5_set_71 : decode cX5_set 71 = .ok (.aload_n 0, 1) := by decide +kernel
theorem dX5_set_72 : decode cX5_set 72 = .ok (.getfield 10, 3) := by decide +kernel
theorem dX5_set_75 : decode cX5_set 75 = .ok (.iload_n 3, 1) := by decide +kernel
theorem dX5_set_76 : decode cX5_set 76 = .ok (.iconst 1, 1) := by decide +kernel
theorem dX5_set_77 : decode cX5_set 77 = .ok (.if_icmp .ne 16, 3) := by decide +kernel
theorem dX5_set_80 : decode cX5_set 80 = .ok (.aload_n 0, 1) := by decide +kernel
theorem dX5_set_81 : decode cX5_set 81 = .ok (.getfield 10, 3) := by decide +kernel
theorem dX5_set_84 : decode cX5_set 84 = .ok (.getfield 85, 3) := by decide +kernel
theorem dX5_set_87 : decode cX5_set 87 = .ok (.lload 5, 2) := by decide +kernel
theorem dX5_set_89 : decode cX5_set 89 = .ok (.lor, 1) := by decide +kernel
theorem dX5_set_90 : decode cX5_set 90 = .ok (.goto 17, 3) := by decide +kernel
theorem dX5_set_93 : decode cX5_set 93 = .ok (.aload_n 0, 1) := by decide +kernel
theorem dX5_set_94 : decode cX5_set 94 = .ok (.getfield 10, 3) := by decide +kernel
theorem dX5_set_97 : decode cX5_set 97 = .ok (.getfield 85, 3) := by decide +kernel
theorem dX5_set_100 : decode cX5_set 100 = .ok (.lload 5, 2) := by decide +kernel
theorem dX5_set_102 : decode cX5_set 102 = .ok (.ldc2_w 89, 3) := by decide +kernel
theorem dX5_set_105 : decode cX5_set 105 = .ok (.lxor, 1) := by decide +kernel
theorem dX5_set_106 : decode cX5_set 106 = .ok (.land, 1) := by decide +kernel
theorem dX5_set_107 : decode cX5_set 107 = .ok (.putfield 85, 3) := by decide +kernel
theorem dX5_set_110 : decode cX5_set 110 = .ok (.goto 81, 3) := by decide +kernel
theorem dX5_set_113 : decode cX5_set 113 = .ok (.aload_n 0, 1) := by decide +kernel
theorem dX5_set_114 : decode cX5_set 114 = .ok (.getfield 10, 3) := by decide +kernel
theorem dX5_set_117 : decode cX5_set 117 = .ok (.iload_n 3, 1) := by decide +kernel
theorem dX5_set_118 : decode cX5_set 118 = .ok (.iconst 1, 1) := by decide +kernel
theorem dX5_set_119 : decode cX5_set 119 = .ok (.if_icmp .ne 16, 3) := by decide +kernel
theorem dX5_set_122 : decode cX5_set 122 = .ok (.aload_n 0, 1) := by decide +kernel
theorem dX5_set_123 : decode cX5_set 123 = .ok (.getfield 10, 3) := by decide +kernel
theorem dX5_set_126 : decode cX5_set 126 = .ok (.getfield 91, 3) := by decide +kernel
theorem dX5_set_129 : decode cX5_set 129 = .ok (.lload 5, 2) := by decide +kernel
theorem dX5_set_131 : decode cX5_set 131 = .ok (.lor, 1) := by decide +kernel
theorem dX5_set_132 : decode cX5_set 132 = .ok (.goto 17, 3) := by decide +kernel
theorem dX5_set_135 : decode cX5_set 135 = .ok (.aload_n 0, 1) := by decide +kernel
theorem dX5_set_136 : decode cX5_set 136 = .ok (.getfield 10, 3) := by decide +kernel
theorem dX5_set_139 : decode cX5_set 139 = .ok (.getfield 91, 3) := by decide +kernel
theorem dX5_set_142 : decode cX5_set 142 = .ok (.lload 5, 2) := by decide +kernel
theorem dX5_set_144 : decode cX5_set 144 = .ok (.ldc2_w 89, 3) := by decide +kernel
theorem dX5_set_147 : decode cX5_set 147 = .ok (.lxor, 1) := by decide +kernel
theorem dX5_set_148 : decode cX5_set 148 = .ok (.land, 1) := by decide +kernel
theorem dX5_set_149 : decode cX5_set 149 = .ok (.putfield 91, 3) := by decide +kernel
theorem dX5_set_152 : decode cX5_set 152 = .ok (.goto 39, 3) := by decide +kernel
theorem dX5_set_155 : decode cX5_set 155 = .ok (.aload_n 0, 1) := by decide +kernel
theorem dX5_set_156 : decode cX5_set 156 = .ok (.getfield 10, 3) := by decide +kernel
theorem dX5_set_159 : decode cX5_set 159 = .ok (.getfield 94, 3) := by decide +kernel
theorem dX5_set_162 : decode cX5_set 162 = .ok (.iload_n 2, 1) := by decide +kernel
theorem dX5_set_163 : decode cX5_set 163 = .ok (.iload_n 3, 1) := by decide +kernel
theorem dX5_set_164 : decode cX5_set 164 = .ok (.iastore, 1) := by decide +kernel
theorem dX5_set_165 : decode cX5_set 165 = .ok (.goto 26, 3) := by decide +kernel
theorem dX5_set_168 : decode cX5_set 168 = .ok (.aload_n 0, 1) := by decide +kernel
theorem dX5_set_169 : decode cX5_set 169 = .ok (.getfield 10, 3) := by decide +kernel
theorem dX5_set_172 : decode cX5_set 172 = .ok (.getfield 98, 3) := by decide +kernel
theorem dX5_set_175 : decode cX5_set 175 = .ok (.iload_n 2, 1) := by decide +kernel
theorem dX5_set_176 : decode cX5_set 176 = .ok (.iload_n 3, 1) := by decide +kernel
theorem dX5_set_177 : decode cX5_set 177 = .ok (.iastore, 1) := by decide +kernel
theorem dX5_set_178 : decode cX5_set 178 = .ok (.goto 13, 3) := by decide +kernel
theorem dX5_set_181 : decode cX5_set 181 = .ok (.aload_n 0, 1) := by decide +kernel
theorem dX5_set_182 : decode cX5_set 182 = .ok (.getfield 10, 3) := by decide +kernel
theorem dX5_set_185 : decode cX5_set 185 = .ok (.getfield 101, 3) := by decide +kernel
theorem dX5_set_188 : decode cX5_set 188 = .ok (.iload_n 2, 1) := by decide +kernel
theorem dX5_set_189 : decode cX5_set 189 = .ok (.iload_n 3, 1) := by decide +kernel
theorem dX5_set_190 : decode cX5_set 190 = .ok (.iastore, 1) := by decide +kernel
theorem dX5_set_191 : decode cX5_set 191 = .ok (.iload 4, 2) := by decide +kernel
theorem dX5_set_193 : decode cX5_set 193 = .ok (.ireturn, 1) := by decide +kernel
set_option maxRecDepth 20000 in
theorem dX5_canSet_0 : decode cX5_canSet 0 = .ok (.iload_n 1, 1) := by decide +kernel
theorem dX5_canSet_1 : decode cX5_canSet 1 = .ok (.tableswitch 178 0 5 #[39, 47, 68, 100, 123, 155], 39) := by decide +kernel
theorem dX5_canSet_40 : decode cX5_canSet 40 = .ok (.iload_n 3, 1) := by decide +kernel
theorem dX5_canSet_41 : decode cX5_canSet 41 = .ok (.sipush 999, 3) := by decide +kernel
theorem dX5_canSet_44 : decode cX5_canSet 44 = .ok (.invokestatic 104, 3) := by decide +kernel
theorem dX5_canSet_47 : decode cX5_canSet 47 = .ok (.ireturn, 1) := by decide +kernel
theorem dX5_canSet_48 : decode cX5_canSet 48 = .ok (.iload_n 2, 1) := by decide +kernel
theorem dX5_canSet_49 : decode cX5_canSet 49 = .ok (.invokestatic 108, 3) := by decide +kernel
theorem dX5_canSet_52 : decode cX5_canSet 52 = .ok (.ifCond .eq 15, 3) := by decide +kernel
theorem dX5_canSet_55 : decode cX5_canSet 55 = .ok (.iload_n 3, 1) := by decide +kernel
theorem dX5_canSet_56 : decode cX5_canSet 56 = .ok (.iconst 1, 1) := by decide +kernel
theorem dX5_canSet_57 : decode cX5_canSet 57 = .ok (.invokestatic 104, 3) := by decide +kernel
theorem dX5_canSet_60 : decode cX5_canSet 60 = .ok (.ifCond .eq 7, 3) := by decide +kernel
theorem dX5_canSet_63 : decode cX5_canSet 63 = .ok (.iconst 1, 1) := by decide +kernel
theorem dX5_canSet_64 : decode cX5_canSet 64 = .ok (.goto 4, 3) := by decide +kernel
theorem dX5_canSet_67 : decode cX5_canSet 67 = .ok (.iconst 0, 1) := by decide +kernel
theorem dX5_canSet_68 : decode cX5_canSet 68 = .ok (.ireturn, 1) := by decide +kernel
theorem dX5_canSet_69 : decode cX5_canSet 69 = .ok (.iload_n 2, 1) := by decide +kernel
theorem dX5_canSet_70 : decode cX5_canSet 70 = .ok (.invokestatic 108, 3) := by decide +kernel
theorem dX5_canSet_73 : decode cX5_canSet 73 = .ok (.ifCond .eq 26, 3) := by decide +kernel
theorem dX5_canSet_76 : decode cX5_canSet 76 = .ok (.iload_n 3, 1) := by decide +kernel
theorem dX5_canSet_77 : decode cX5_canSet 77 = .ok (.iconst 1, 1) := by decide +kernel
theorem dX5_canSet_78 : decode cX5_canSet 78 = .ok (.invokestatic 104, 3) := by decide +kernel
theorem dX5_canSet_81 : decode cX5_canSet 81 = .ok (.ifCond .eq 18, 3) := by decide +kernel
theorem dX5_canSet_84 : decode cX5_canSet 84 = .ok (.aload_n 0, 1) := by decide +kernel
theorem dX5_canSet_85 : decode cX5_canSet 85 = .ok (.getfield 10, 3) := by decide +kernel
theorem dX5_canSet_88 : decode cX5_canSet 88 = .ok (.iload_n 2, 1) := by decide +kernel
theorem dX5_canSet_89 : decode cX5_canSet 89 = .ok (.invokevirtual 111, 3) := by decide +kernel
theorem dX5_canSet_92 : decode cX5_canSet 92 = .ok (.ifCond .ne 7, 3) := by decide +kernel
theorem dX5_canSet_95 : decode cX5_canSet 95 = .ok (.iconst 1, 1) := by decide +kernel
theorem dX5_canSet_96 : decode cX5_canSet 96 = .ok (.goto 4, 3) := by decide +kernel
theorem dX5_canSet_99 : decode cX5_canSet 99 = .ok (.iconst 0, 1) := by decide +kernel
theorem dX5_canSet_100 : decode cX5_canSet 100 = .ok (.ireturn, 1) := by decide +kernel
theorem dX5_canSet_101 : decode cX5_canSet 101 = .ok (.aload_n 0, 1) := by decide +kernel
theorem dX5_canSet_102 : decode cX5_canSet 102 = .ok (.iload_n 2, 1) := by decide +kernel
theorem dX5_canSet_103 : decode cX5_canSet 103 = .ok (.invokevirtual 115, 3) := by decide +kernel
theorem dX5_canSet_106 : decode cX5_canSet 106 = .ok (.ifCond .eq 16, 3) := by decide +kernel
theorem dX5_canSet_109 : decode cX5_canSet 109 = .ok (.iload_n 3, 1) := by decide +kernel
theorem dX5_canSet_110 : decode cX5_canSet 110 = .ok (.bipush 9, 2) := by decide +kernel
theorem dX5_canSet_112 : decode cX5_canSet 112 = .ok (.invokestatic 104, 3) := by decide +kernel
theorem dX5_canSet_115 : decode cX5_canSet 115 = .ok (.ifCond .eq 7, 3) := by decide +kernel
theorem dX5_canSet_118 : decode cX5_canSet 118 = .ok (.iconst 1, 1) := by decide +kernel
theorem dX5_canSet_119 : decode cX5_canSet 119 = .ok (.goto 4, 3) := by decide +kernel
theorem dX5_canSet_122 : decode cX5_canSet 122 = .ok (.iconst 0, 1) := by decide +kernel
theorem dX5_canSet_123 : decode cX5_canSet 123 = .ok (.ireturn, 1) := by decide +kernel
theorem dX5_canSet_124 : decode cX5_canSet 124 = .ok (.aload_n 0, 1) := by decide +kernel
theorem dX5_canSet_125 : decode cX5_canSet 125 = .ok (.iload_n 2, 1) := by decide +kernel
theorem dX5_canSet_126 : decode cX5_canSet 126 = .ok (.invokevirtual 115, 3) := by decide +kernel
theorem dX5_canSet_129 : decode cX5_canSet 129 = .ok (.ifCond .eq 25, 3) := by decide +kernel
theorem dX5_canSet_132 : decode cX5_canSet 132 = .ok (.iload_n 3, 1) := by decide +kernel
theorem dX5_canSet_133 : decode cX5_canSet 133 = .ok (.invokestatic 108, 3) := by decide +kernel
theorem dX5_canSet_136 : decode cX5_canSet 136 = .ok (.ifCond .eq 18, 3) := by decide +kernel
theorem dX5_canSet_139 : decode cX5_canSet 139 = .ok (.aload_n 0, 1) := by decide +kernel
theorem dX5_canSet_140 : decode cX5_canSet 140 = .ok (.getfield 10, 3) := by decide +kernel
theorem dX5_canSet_143 : decode cX5_canSet 143 = .ok (.iload_n 3, 1) := by decide +kernel
theorem dX5_canSet_144 : decode cX5_canSet 144 = .ok (.invokevirtual 118, 3) := by decide +kernel
theorem dX5_canSet_147 : decode cX5_canSet 147 = .ok (.ifCond .ne 7, 3) := by decide +kernel
theorem dX5_canSet_150 : decode cX5_canSet 150 = .ok (.iconst 1, 1) := by decide +kernel
theorem dX5_canSet_151 : decode cX5_canSet 151 = .ok (.goto 4, 3) := by decide +kernel
theorem dX5_canSet_154 : decode cX5_canSet 154 = .ok (.iconst 0, 1) := by decide +kernel
theorem dX5_canSet_155 : decode cX5_canSet 155 = .ok (.ireturn, 1) := by decide +kernel
theorem dX5_canSet_156 : decode cX5_canSet 156 = .ok (.aload_n 0, 1) := by decide +kernel
theorem dX5_canSet_157 : decode cX5_canSet 157 = .ok (.iload_n 2, 1) := by decide +kernel
theorem dX5_canSet_158 : decode cX5_canSet 158 = .ok (.invokevirtual 115, 3) := by decide +kernel
theorem dX5_canSet_161 : decode cX5_canSet 161 = .ok (.ifCond .eq 16, 3) := by decide +kernel
theorem dX5_canSet_164 : decode cX5_canSet 164 = .ok (.iload_n 3, 1) := by decide +kernel
theorem dX5_canSet_165 : decode cX5_canSet 165 = .ok (.bipush 99, 2) := by decide +kernel
theorem dX5_canSet_167 : decode cX5_canSet 167 = .ok (.invokestatic 104, 3) := by decide +kernel
theorem dX5_canSet_170 : decode cX5_canSet 170 = .ok (.ifCond .eq 7, 3) := by decide +kernel
theorem dX5_canSet_173 : decode cX5_canSet 173 = .ok (.iconst 1, 1) := by decide +kernel
theorem dX5_canSet_174 : decode cX5_canSet 174 = .ok (.goto 4, 3) := by decide +kernel
theorem dX5_canSet_177 : decode cX5_canSet 177 = .ok (.iconst 0, 1) := by decide +kernel
theorem dX5_canSet_178 : decode cX5_canSet 178 = .ok (.ireturn, 1) := by decide +kernel
theorem dX5_canSet_179 : decode cX5_canSet 179 = .ok (.iconst 0, 1) := by decide +kernel
theorem dX5_canSet_180 : decode cX5_canSet 180 = .ok (.ireturn, 1) := by decide +kernel
set_option maxRecDepth 20000 in
theorem dX5_party_0 : decode cX5_party 0 = .ok (.iload_n 1, 1) := by decide +kernel
theorem dX5_party_1 : decode cX5_party 1 = .ok (.invokestatic 121, 3) := by decide +kernel
theorem dX5_party_4 : decode cX5_party 4 = .ok (.ifCond .eq 30, 3) := by decide +kernel
theorem dX5_party_7 : decode cX5_party 7 = .ok (.iload_n 2, 1) := by decide +kernel
theorem dX5_party_8 : decode cX5_party 8 = .ok (.bipush 9, 2) := by decide +kernel
theorem dX5_party_10 : decode cX5_party 10 = .ok (.invokestatic 104, 3) := by decide +kernel
theorem dX5_party_13 : decode cX5_party 13 = .ok (.ifCond .eq 21, 3) := by decide +kernel
theorem dX5_party_16 : decode cX5_party 16 = .ok (.iload_n 3, 1) := by decide +kernel
theorem dX5_party_17 : decode cX5_party 17 = .ok (.invokestatic 108, 3) := by decide +kernel
theorem dX5_party_20 : decode cX5_party 20 = .ok (.ifCond .eq 14, 3) := by decide +kernel
theorem dX5_party_23 : decode cX5_party 23 = .ok (.aload_n 0, 1) := by decide +kernel
theorem dX5_party_24 : decode cX5_party 24 = .ok (.getfield 10, 3) := by decide +kernel
theorem dX5_party_27 : decode cX5_party 27 = .ok (.iload_n 3, 1) := by decide +kernel
theorem dX5_party_28 : decode cX5_party 28 = .ok (.invokevirtual 118, 3) := by decide +kernel
theorem dX5_party_31 : decode cX5_party 31 = .ok (.ifCond .eq 6, 3) := by decide +kernel
theorem dX5_party_34 : decode cX5_party 34 = .ok (.bipush (-2), 2) := by decide +kernel
theorem dX5_party_36 : decode cX5_party 36 = .ok (.ireturn, 1) := by decide +kernel
theorem dX5_party_37 : decode cX5_party 37 = .ok (.aload_n 0, 1) := by decide +kernel
theorem dX5_party_38 : decode cX5_party 38 = .ok (.getfield 10, 3) := by decide +kernel
theorem dX5_party_41 : decode cX5_party 41 = .ok (.getfield 124, 3) := by decide +kernel
theorem dX5_party_44 : decode cX5_party 44 = .ok (.istore 4, 2) := by decide +kernel
theorem dX5_party_46 : decode cX5_party 46 = .ok (.iload 4, 2) := by decide +kernel
theorem dX5_party_48 : decode cX5_party 48 = .ok (.iconst 5, 1) := by decide +kernel
theorem dX5_party_49 : decode cX5_party 49 = .ok (.if_icmp .lt 6, 3) := by decide +kernel
theorem dX5_party_52 : decode cX5_party 52 = .ok (.bipush (-4), 2) := by decide +kernel
theorem dX5_party_54 : decode cX5_party 54 = .ok (.ireturn, 1) := by decide +kernel
theorem dX5_party_55 : decode cX5_party 55 = .ok (.aload_n 0, 1) := by decide +kernel
theorem dX5_party_56 : decode cX5_party 56 = .ok (.getfield 10, 3) := by decide +kernel
theorem dX5_party_59 : decode cX5_party 59 = .ok (.getfield 127, 3) := by decide +kernel
theorem dX5_party_62 : decode cX5_party 62 = .ok (.iload 4, 2) := by decide +kernel
theorem dX5_party_64 : decode cX5_party 64 = .ok (.iload_n 1, 1) := by decide +kernel
theorem dX5_party_65 : decode cX5_party 65 = .ok (.iastore, 1) := by decide +kernel
theorem dX5_party_66 : decode cX5_party 66 = .ok (.aload_n 0, 1) := by decide +kernel
theorem dX5_party_67 : decode cX5_party 67 = .ok (.getfield 10, 3) := by decide +kernel
theorem dX5_party_70 : decode cX5_party 70 = .ok (.getfield 94, 3) := by decide +kernel
theorem dX5_party_73 : decode cX5_party 73 = .ok (.iload 4, 2) := by decide +kernel
theorem dX5_party_75 : decode cX5_party 75 = .ok (.iload_n 2, 1) := by decide +kernel
theorem dX5_party_76 : decode cX5_party 76 = .ok (.iastore, 1) := by decide +kernel
theorem dX5_party_77 : decode cX5_party 77 = .ok (.aload_n 0, 1) := by decide +kernel
theorem dX5_party_78 : decode cX5_party 78 = .ok (.getfield 10, 3) := by decide +kernel
theorem dX5_party_81 : decode cX5_party 81 = .ok (.getfield 98, 3) := by decide +kernel
theorem dX5_party_84 : decode cX5_party 84 = .ok (.iload 4, 2) := by decide +kernel
theorem dX5_party_86 : decode cX5_party 86 = .ok (.iload_n 3, 1) := by decide +kernel
theorem dX5_party_87 : decode cX5_party 87 = .ok (.iastore, 1) := by decide +kernel
theorem dX5_party_88 : decode cX5_party 88 = .ok (.aload_n 0, 1) := by decide +kernel
theorem dX5_party_89 : decode cX5_party 89 = .ok (.getfield 10, 3) := by decide +kernel
theorem dX5_party_92 : decode cX5_party 92 = .ok (.getfield 101, 3) := by decide +kernel
theorem dX5_party_95 : decode cX5_party 95 = .ok (.iload 4, 2) := by decide +kernel
theorem dX5_party_97 : decode cX5_party 97 = .ok (.iconst 0, 1) := by decide +kernel
theorem dX5_party_98 : decode cX5_party 98 = .ok (.iastore, 1) := by decide +kernel
theorem dX5_party_99 : decode cX5_party 99 = .ok (.aload_n 0, 1) := by decide +kernel
theorem dX5_party_100 : decode cX5_party 100 = .ok (.getfield 10, 3) := by decide +kernel
theorem dX5_party_103 : decode cX5_party 103 = .ok (.iload 4, 2) := by decide +kernel
theorem dX5_party_105 : decode cX5_party 105 = .ok (.iconst 1, 1) := by decide +kernel
theorem dX5_party_106 : decode cX5_party 106 = .ok (.iadd, 1) := by decide +kernel
theorem dX5_party_107 : decode cX5_party 107 = .ok (.putfield 124, 3) := by decide +kernel
theorem dX5_party_110 : decode cX5_party 110 = .ok (.iload 4, 2) := by decide +kernel
theorem dX5_party_112 : decode cX5_party 112 = .ok (.ireturn, 1) := by decide +kernel
set_option maxRecDepth 20000 in
theorem dX5_told_0 : decode cX5_told 0 = .ok (.iload_n 2, 1) := by decide +kernel
theorem dX5_told_1 : decode cX5_told 1 = .ok (.ifCond .ne 11, 3) := by decide +kernel
theorem dX5_told_4 : decode cX5_told 4 = .ok (.aload_n 0, 1) := by decide +kernel
theorem dX5_told_5 : decode cX5_told 5 = .ok (.getfield 10, 3) := by decide +kernel
theorem dX5_told_8 : decode cX5_told 8 = .ok (.getfield 81, 3) := by decide +kernel
theorem dX5_told_11 : decode cX5_told 11 = .ok (.ireturn, 1) := by decide +kernel
theorem dX5_told_12 : decode cX5_told 12 = .ok (.iload_n 2, 1) := by decide +kernel
theorem dX5_told_13 : decode cX5_told 13 = .ok (.iconst 1, 1) := by decide +kernel
theorem dX5_told_14 : decode cX5_told 14 = .ok (.if_icmp .eq 14, 3) := by decide +kernel
theorem dX5_told_17 : decode cX5_told 17 = .ok (.iload_n 2, 1) := by decide +kernel
theorem dX5_told_18 : decode cX5_told 18 = .ok (.iconst 2, 1) := by decide +kernel
theorem dX5_told_19 : decode cX5_told 19 = .ok (.if_icmp .eq 9, 3) := by decide +kernel
theorem dX5_told_22 : decode cX5_told 22 = .ok (.iload_n 2, 1) := by decide +kernel
theorem dX5_told_23 : decode cX5_told 23 = .ok (.bipush 11, 2) := by decide +kernel
theorem dX5_told_25 : decode cX5_told 25 = .ok (.if_icmp .ne 23, 3) := by decide +kernel
theorem dX5_told_28 : decode cX5_told 28 = .ok (.iload_n 1, 1) := by decide +kernel
theorem dX5_told_29 : decode cX5_told 29 = .ok (.invokestatic 108, 3) := by decide +kernel
theorem dX5_told_32 : decode cX5_told 32 = .ok (.ifCond .eq 12, 3) := by decide +kernel
theorem dX5_told_35 : decode cX5_told 35 = .ok (.aload_n 0, 1) := by decide +kernel
theorem dX5_told_36 : decode cX5_told 36 = .ok (.iload_n 1, 1) := by decide +kernel
theorem dX5_told_37 : decode cX5_told 37 = .ok (.iload_n 2, 1) := by decide +kernel
theorem dX5_told_38 : decode cX5_told 38 = .ok (.invokevirtual 130, 3) := by decide +kernel
theorem dX5_told_41 : decode cX5_told 41 = .ok (.goto 6, 3) := by decide +kernel
theorem dX5_told_44 : decode cX5_told 44 = .ok (.sipush (-1000), 3) := by decide +kernel
theorem dX5_told_47 : decode cX5_told 47 = .ok (.ireturn, 1) := by decide +kernel
theorem dX5_told_48 : decode cX5_told 48 = .ok (.aload_n 0, 1) := by decide +kernel
theorem dX5_told_49 : decode cX5_told 49 = .ok (.iload_n 1, 1) := by decide +kernel
theorem dX5_told_50 : decode cX5_told 50 = .ok (.invokevirtual 115, 3) := by decide +kernel
theorem dX5_told_53 : decode cX5_told 53 = .ok (.ifCond .eq 12, 3) := by decide +kernel
theorem dX5_told_56 : decode cX5_told 56 = .ok (.aload_n 0, 1) := by decide +kernel
theorem dX5_told_57 : decode cX5_told 57 = .ok (.iload_n 1, 1) := by decide +kernel
theorem dX5_told_58 : decode cX5_told 58 = .ok (.iload_n 2, 1) := by decide +kernel
theorem dX5_told_59 : decode cX5_told 59 = .ok (.invokevirtual 133, 3) := by decide +kernel
theorem dX5_told_62 : decode cX5_told 62 = .ok (.goto 6, 3) := by decide +kernel
theorem dX5_told_65 : decode cX5_told 65 = .ok (.sipush (-1000), 3) := by decide +kernel
theorem dX5_told_68 : decode cX5_told 68 = .ok (.ireturn, 1) := by decide +kernel
set_option maxRecDepth 20000 in
theorem dX5_toldOfTile_0 : decode cX5_toldOfTile 0 = .ok (.iload_n 2, 1) := by decide +kernel
theorem dX5_toldOfTile_1 : decode cX5_toldOfTile 1 = .ok (.iconst 1, 1) := by decide +kernel
theorem dX5_toldOfTile_2 : decode cX5_toldOfTile 2 = .ok (.if_icmp .ne 20, 3) := by decide +kernel
theorem dX5_toldOfTile_5 : decode cX5_toldOfTile 5 = .ok (.aload_n 0, 1) := by decide +kernel
theorem dX5_toldOfTile_6 : decode cX5_toldOfTile 6 = .ok (.getfield 10, 3) := by decide +kernel
theorem dX5_toldOfTile_9 : decode cX5_toldOfTile 9 = .ok (.iload_n 1, 1) := by decide +kernel
theorem dX5_toldOfTile_10 : decode cX5_toldOfTile 10 = .ok (.invokevirtual 136, 3) := by decide +kernel
theorem dX5_toldOfTile_13 : decode cX5_toldOfTile 13 = .ok (.ifCond .eq 7, 3) := by decide +kernel
theorem dX5_toldOfTile_16 : decode cX5_toldOfTile 16 = .ok (.iconst 1, 1) := by decide +kernel
theorem dX5_toldOfTile_17 : decode cX5_toldOfTile 17 = .ok (.goto 4, 3) := by decide +kernel
theorem dX5_toldOfTile_20 : decode cX5_toldOfTile 20 = .ok (.iconst 0, 1) := by decide +kernel
theorem dX5_toldOfTile_21 : decode cX5_toldOfTile 21 = .ok (.ireturn, 1) := by decide +kernel
theorem dX5_toldOfTile_22 : decode cX5_toldOfTile 22 = .ok (.iload_n 2, 1) := by decide +kernel
theorem dX5_toldOfTile_23 : decode cX5_toldOfTile 23 = .ok (.iconst 2, 1) := by decide +kernel
theorem dX5_toldOfTile_24 : decode cX5_toldOfTile 24 = .ok (.if_icmp .ne 20, 3) := by decide +kernel
theorem dX5_toldOfTile_27 : decode cX5_toldOfTile 27 = .ok (.aload_n 0, 1) := by decide +kernel
theorem dX5_toldOfTile_28 : decode cX5_toldOfTile 28 = .ok (.getfield 10, 3) := by decide +kernel
theorem dX5_toldOfTile_31 : decode cX5_toldOfTile 31 = .ok (.iload_n 1, 1) := by decide +kernel
theorem dX5_toldOfTile_32 : decode cX5_toldOfTile 32 = .ok (.invokevirtual 118, 3) := by decide +kernel
theorem dX5_toldOfTile_35 : decode cX5_toldOfTile 35 = .ok (.ifCond .eq 7, 3) := by decide +kernel
theorem dX5_toldOfTile_38 : decode cX5_toldOfTile 38 = .ok (.iconst 1, 1) := by decide +kernel
theorem dX5_toldOfTile_39 : decode cX5_toldOfTile 39 = .ok (.goto 4, 3) := by decide +kernel
theorem dX5_toldOfTile_42 : decode cX5_toldOfTile 42 = .ok (.iconst 0, 1) := by decide +kernel
theorem dX5_toldOfTile_43 : decode cX5_toldOfTile 43 = .ok (.ireturn, 1) := by decide +kernel
theorem dX5_toldOfTile_44 : decode cX5_toldOfTile 44 = .ok (.aload_n 0, 1) := by decide +kernel
theorem dX5_toldOfTile_45 : decode cX5_toldOfTile 45 = .ok (.getfield 10, 3) := by decide +kernel
theorem dX5_toldOfTile_48 : decode cX5_toldOfTile 48 = .ok (.iload_n 1, 1) := by decide +kernel
theorem dX5_toldOfTile_49 : decode cX5_toldOfTile 49 = .ok (.invokevirtual 111, 3) := by decide +kernel
theorem dX5_toldOfTile_52 : decode cX5_toldOfTile 52 = .ok (.ireturn, 1) := by decide +kernel
set_option maxRecDepth 20000 in
theorem dX5_toldOfParty_0 : decode cX5_toldOfParty 0 = .ok (.iload_n 2, 1) := by decide +kernel
theorem dX5_toldOfParty_1 : decode cX5_toldOfParty 1 = .ok (.tableswitch 135 3 10 #[47, 57, 67, 77, 87, 100, 113, 126], 47) := by decide +kernel
theorem dX5_toldOfParty_48 : decode cX5_toldOfParty 48 = .ok (.aload_n 0, 1) := by decide +kernel
theorem dX5_toldOfParty_49 : decode cX5_toldOfParty 49 = .ok (.getfield 10, 3) := by decide +kernel
theorem dX5_toldOfParty_52 : decode cX5_toldOfParty 52 = .ok (.getfield 94, 3) := by decide +kernel
theorem dX5_toldOfParty_55 : decode cX5_toldOfParty 55 = .ok (.iload_n 1, 1) := by decide +kernel
theorem dX5_toldOfParty_56 : decode cX5_toldOfParty 56 = .ok (.iaload, 1) := by decide +kernel
theorem dX5_toldOfParty_57 : decode cX5_toldOfParty 57 = .ok (.ireturn, 1) := by decide +kernel
theorem dX5_toldOfParty_58 : decode cX5_toldOfParty 58 = .ok (.aload_n 0, 1) := by decide +kernel
theorem dX5_toldOfParty_59 : decode cX5_toldOfParty 59 = .ok (.getfield 10, 3) := by decide +kernel
theorem dX5_toldOfParty_62 : decode cX5_toldOfParty 62 = .ok (.getfield 98, 3) := by decide +kernel
theorem dX5_toldOfParty_65 : decode cX5_toldOfParty 65 = .ok (.iload_n 1, 1) := by decide +kernel
theorem dX5_toldOfParty_66 : decode cX5_toldOfParty 66 = .ok (.iaload, 1) := by decide +kernel
theorem dX5_toldOfParty_67 : decode cX5_toldOfParty 67 = .ok (.ireturn, 1) := by decide +kernel
theorem dX5_toldOfParty_68 : decode cX5_toldOfParty 68 = .ok (.aload_n 0, 1) := by decide +kernel
theorem dX5_toldOfParty_69 : decode cX5_toldOfParty 69 = .ok (.getfield 10, 3) := by decide +kernel
theorem dX5_toldOfParty_72 : decode cX5_toldOfParty 72 = .ok (.getfield 101, 3) := by decide +kernel
theorem dX5_toldOfParty_75 : decode cX5_toldOfParty 75 = .ok (.iload_n 1, 1) := by decide +kernel
theorem dX5_toldOfParty_76 : decode cX5_toldOfParty 76 = .ok (.iaload, 1) := by decide +kernel
theorem dX5_toldOfParty_77 : decode cX5_toldOfParty 77 = .ok (.ireturn, 1) := by decide +kernel
theorem dX5_toldOfParty_78 : decode cX5_toldOfParty 78 = .ok (.aload_n 0, 1) := by decide +kernel
theorem dX5_toldOfParty_79 : decode cX5_toldOfParty 79 = .ok (.getfield 10, 3) := by decide +kernel
theorem dX5_toldOfParty_82 : decode cX5_toldOfParty 82 = .ok (.getfield 127, 3) := by decide +kernel
theorem dX5_toldOfParty_85 : decode cX5_toldOfParty 85 = .ok (.iload_n 1, 1) := by decide +kernel
theorem dX5_toldOfParty_86 : decode cX5_toldOfParty 86 = .ok (.iaload, 1) := by decide +kernel
theorem dX5_toldOfParty_87 : decode cX5_toldOfParty 87 = .ok (.ireturn, 1) := by decide +kernel
theorem dX5_toldOfParty_88 : decode cX5_toldOfParty 88 = .ok (.aload_n 0, 1) := by decide +kernel
theorem dX5_toldOfParty_89 : decode cX5_toldOfParty 89 = .ok (.getfield 28, 3) := by decide +kernel
theorem dX5_toldOfParty_92 : decode cX5_toldOfParty 92 = .ok (.aload_n 0, 1) := by decide +kernel
theorem dX5_toldOfParty_93 : decode cX5_toldOfParty 93 = .ok (.getfield 10, 3) := by decide +kernel
theorem dX5_toldOfParty_96 : decode cX5_toldOfParty 96 = .ok (.iload_n 1, 1) := by decide +kernel
theorem dX5_toldOfParty_97 : decode cX5_toldOfParty 97 = .ok (.invokevirtual 139, 3) := by decide +kernel
theorem dX5_toldOfParty_100 : decode cX5_toldOfParty 100 = .ok (.ireturn, 1) := by decide +kernel
theorem dX5_toldOfParty_101 : decode cX5_toldOfParty 101 = .ok (.aload_n 0, 1) := by decide +kernel
theorem dX5_toldOfParty_102 : decode cX5_toldOfParty 102 = .ok (.getfield 28, 3) := by decide +kernel
theorem dX5_toldOfParty_105 : decode cX5_toldOfParty 105 = .ok (.aload_n 0, 1) := by decide +kernel
theorem dX5_toldOfParty_106 : decode cX5_toldOfParty 106 = .ok (.getfield 10, 3) := by decide +kernel
theorem dX5_toldOfParty_109 : decode cX5_toldOfParty 109 = .ok (.iload_n 1, 1) := by decide +kernel
theorem dX5_toldOfParty_110 : decode cX5_toldOfParty 110 = .ok (.invokevirtual 143, 3) := by decide +kernel
theorem dX5_toldOfParty_113 : decode cX5_toldOfParty 113 = .ok (.ireturn, 1) := by decide +kernel
theorem dX5_toldOfParty_114 : decode cX5_toldOfParty 114 = .ok (.aload_n 0, 1) := by decide +kernel
theorem dX5_toldOfParty_115 : decode cX5_toldOfParty 115 = .ok (.getfield 28, 3) := by decide +kernel
theorem dX5_toldOfParty_118 : decode cX5_toldOfParty 118 = .ok (.aload_n 0, 1) := by decide +kernel
theorem dX5_toldOfParty_119 : decode cX5_toldOfParty 119 = .ok (.getfield 10, 3) := by decide +kernel
theorem dX5_toldOfParty_122 : decode cX5_toldOfParty 122 = .ok (.iload_n 1, 1) := by decide +kernel
theorem dX5_toldOfParty_123 : decode cX5_toldOfParty 123 = .ok (.invokevirtual 146, 3) := by decide +kernel
theorem dX5_toldOfParty_126 : decode cX5_toldOfParty 126 = .ok (.ireturn, 1) := by decide +kernel
theorem dX5_toldOfParty_127 : decode cX5_toldOfParty 127 = .ok (.aload_n 0, 1) := by decide +kernel
theorem dX5_toldOfParty_128 : decode cX5_toldOfParty 128 = .ok (.getfield 10, 3) := by decide +kernel
theorem dX5_toldOfParty_131 : decode cX5_toldOfParty 131 = .ok (.iload_n 1, 1) := by decide +kernel
theorem dX5_toldOfParty_132 : decode cX5_toldOfParty 132 = .ok (.invokevirtual 149, 3) := by decide +kernel
theorem dX5_toldOfParty_135 : decode cX5_toldOfParty 135 = .ok (.ireturn, 1) := by decide +kernel
theorem dX5_toldOfParty_136 : decode cX5_toldOfParty 136 = .ok (.sipush (-1000), 3) := by decide +kernel
theorem dX5_toldOfParty_139 : decode cX5_toldOfParty 139 = .ok (.ireturn, 1) := by decide +kernel
set_option maxRecDepth 20000 in
theorem dX5_leap_0 : decode cX5_leap 0 = .ok (.aload_n 0, 1) := by decide +kernel
theorem dX5_leap_1 : decode cX5_leap 1 = .ok (.iload_n 1, 1) := by decide +kernel
theorem dX5_leap_2 : decode cX5_leap 2 = .ok (.invokevirtual 115, 3) := by decide +kernel
theorem dX5_leap_5 : decode cX5_leap 5 = .ok (.ifCond .eq 12, 3) := by decide +kernel
theorem dX5_leap_8 : decode cX5_leap 8 = .ok (.iload_n 2, 1) := by decide +kernel
theorem dX5_leap_9 : decode cX5_leap 9 = .ok (.bipush 7, 2) := by decide +kernel
theorem dX5_leap_11 : decode cX5_leap 11 = .ok (.invokestatic 104, 3) := by decide +kernel
theorem dX5_leap_14 : decode cX5_leap 14 = .ok (.ifCond .ne 6, 3) := by decide +kernel
theorem dX5_leap_17 : decode cX5_leap 17 = .ok (.bipush (-2), 2) := by decide +kernel
theorem dX5_leap_19 : decode cX5_leap 19 = .ok (.ireturn, 1) := by decide +kernel
theorem dX5_leap_20 : decode cX5_leap 20 = .ok (.aload_n 0, 1) := by decide +kernel
theorem dX5_leap_21 : decode cX5_leap 21 = .ok (.getfield 10, 3) := by decide +kernel
theorem dX5_leap_24 : decode cX5_leap 24 = .ok (.iload_n 1, 1) := by decide +kernel
theorem dX5_leap_25 : decode cX5_leap 25 = .ok (.aload_n 0, 1) := by decide +kernel
theorem dX5_leap_26 : decode cX5_leap 26 = .ok (.getfield 10, 3) := by decide +kernel
theorem dX5_leap_29 : decode cX5_leap 29 = .ok (.getfield 98, 3) := by decide +kernel
theorem dX5_leap_32 : decode cX5_leap 32 = .ok (.iload_n 1, 1) := by decide +kernel
theorem dX5_leap_33 : decode cX5_leap 33 = .ok (.iaload, 1) := by decide +kernel
theorem dX5_leap_34 : decode cX5_leap 34 = .ok (.iload_n 2, 1) := by decide +kernel
theorem dX5_leap_35 : decode cX5_leap 35 = .ok (.invokevirtual 152, 3) := by decide +kernel
theorem dX5_leap_38 : decode cX5_leap 38 = .ok (.ireturn, 1) := by decide +kernel
set_option maxRecDepth 20000 in
theorem dX5_floor_0 : decode cX5_floor 0 = .ok (.iload_n 1, 1) := by decide +kernel
theorem dX5_floor_1 : decode cX5_floor 1 = .ok (.ifCond .ne 11, 3) := by decide +kernel
theorem dX5_floor_4 : decode cX5_floor 4 = .ok (.aload_n 0, 1) := by decide +kernel
theorem dX5_floor_5 : decode cX5_floor 5 = .ok (.getfield 10, 3) := by decide +kernel
theorem dX5_floor_8 : decode cX5_floor 8 = .ok (.getfield 85, 3) := by decide +kernel
theorem dX5_floor_11 : decode cX5_floor 11 = .ok (.lreturn, 1) := by decide +kernel
theorem dX5_floor_12 : decode cX5_floor 12 = .ok (.iload_n 1, 1) := by decide +kernel
theorem dX5_floor_13 : decode cX5_floor 13 = .ok (.iconst 1, 1) := by decide +kernel
theorem dX5_floor_14 : decode cX5_floor 14 = .ok (.if_icmp .ne 11, 3) := by decide +kernel
theorem dX5_floor_17 : decode cX5_floor 17 = .ok (.aload_n 0, 1) := by decide +kernel
theorem dX5_floor_18 : decode cX5_floor 18 = .ok (.getfield 10, 3) := by decide +kernel
theorem dX5_floor_21 : decode cX5_floor 21 = .ok (.getfield 91, 3) := by decide +kernel
theorem dX5_floor_24 : decode cX5_floor 24 = .ok (.lreturn, 1) := by decide +kernel
theorem dX5_floor_25 : decode cX5_floor 25 = .ok (.iload_n 1, 1) := by decide +kernel
theorem dX5_floor_26 : decode cX5_floor 26 = .ok (.iconst 2, 1) := by decide +kernel
theorem dX5_floor_27 : decode cX5_floor 27 = .ok (.if_icmp .ne 13, 3) := by decide +kernel
theorem dX5_floor_30 : decode cX5_floor 30 = .ok (.aload_n 0, 1) := by decide +kernel
theorem dX5_floor_31 : decode cX5_floor 31 = .ok (.getfield 10, 3) := by decide +kernel
theorem dX5_floor_34 : decode cX5_floor 34 = .ok (.invokevirtual 156, 3) := by decide +kernel
theorem dX5_floor_37 : decode cX5_floor 37 = .ok (.goto 6, 3) := by decide +kernel
theorem dX5_floor_40 : decode cX5_floor 40 = .ok (.ldc2_w 160, 3) := by decide +kernel
theorem dX5_floor_43 : decode cX5_floor 43 = .ok (.lreturn, 1) := by decide +kernel
set_option maxRecDepth 20000 in
theorem dX5_feed_0 : decode cX5_feed 0 = .ok (.iload_n 1, 1) := by decide +kernel
theorem dX5_feed_1 : decode cX5_feed 1 = .ok (.sipush 255, 3) := by decide +kernel
theorem dX5_feed_4 : decode cX5_feed 4 = .ok (.invokestatic 104, 3) := by decide +kernel
theorem dX5_feed_7 : decode cX5_feed 7 = .ok (.ifCond .ne 6, 3) := by decide +kernel
theorem dX5_feed_10 : decode cX5_feed 10 = .ok (.bipush (-2), 2) := by decide +kernel
theorem dX5_feed_12 : decode cX5_feed 12 = .ok (.ireturn, 1) := by decide +kernel
theorem dX5_feed_13 : decode cX5_feed 13 = .ok (.aload_n 0, 1) := by decide +kernel
theorem dX5_feed_14 : decode cX5_feed 14 = .ok (.getfield 35, 3) := by decide +kernel
theorem dX5_feed_17 : decode cX5_feed 17 = .ok (.iload_n 1, 1) := by decide +kernel
theorem dX5_feed_18 : decode cX5_feed 18 = .ok (.invokevirtual 58, 3) := by decide +kernel
theorem dX5_feed_21 : decode cX5_feed 21 = .ok (.ifCond .eq 13, 3) := by decide +kernel
theorem dX5_feed_24 : decode cX5_feed 24 = .ok (.aload_n 0, 1) := by decide +kernel
theorem dX5_feed_25 : decode cX5_feed 25 = .ok (.getfield 35, 3) := by decide +kernel
theorem dX5_feed_28 : decode cX5_feed 28 = .ok (.getfield 162, 3) := by decide +kernel
theorem dX5_feed_31 : decode cX5_feed 31 = .ok (.goto 5, 3) := by decide +kernel
theorem dX5_feed_34 : decode cX5_feed 34 = .ok (.bipush (-4), 2) := by decide +kernel
theorem dX5_feed_36 : decode cX5_feed 36 = .ok (.ireturn, 1) := by decide +kernel
set_option maxRecDepth 20000 in
theorem dX5_text_0 : decode cX5_text 0 = .ok (.aload_n 0, 1) := by decide +kernel
theorem dX5_text_1 : decode cX5_text 1 = .ok (.getfield 28, 3) := by decide +kernel
theorem dX5_text_4 : decode cX5_text 4 = .ok (.getfield 165, 3) := by decide +kernel
theorem dX5_text_7 : decode cX5_text 7 = .ok (.bipush 6, 2) := by decide +kernel
theorem dX5_text_9 : decode cX5_text 9 = .ok (.if_icmp .lt 6, 3) := by decide +kernel
theorem dX5_text_12 : decode cX5_text 12 = .ok (.bipush (-4), 2) := by decide +kernel
theorem dX5_text_14 : decode cX5_text 14 = .ok (.ireturn, 1) := by decide +kernel
theorem dX5_text_15 : decode cX5_text 15 = .ok (.aload_n 0, 1) := by decide +kernel
theorem dX5_text_16 : decode cX5_text 16 = .ok (.getfield 35, 3) := by decide +kernel
theorem dX5_text_19 : decode cX5_text 19 = .ok (.invokevirtual 62, 3) := by decide +kernel
theorem dX5_text_22 : decode cX5_text 22 = .ok (.astore_n 1, 1) := by decide +kernel
theorem dX5_text_23 : decode cX5_text 23 = .ok (.aload_n 0, 1) := by decide +kernel
theorem dX5_text_24 : decode cX5_text 24 = .ok (.getfield 35, 3) := by decide +kernel
theorem dX5_text_27 : decode cX5_text 27 = .ok (.invokevirtual 70, 3) := by decide +kernel
theorem dX5_text_30 : decode cX5_text 30 = .ok (.aload_n 1, 1) := by decide +kernel
theorem dX5_text_31 : decode cX5_text 31 = .ok (.ifnonnull 14, 3) := by decide +kernel
theorem dX5_text_34 : decode cX5_text 34 = .ok (.bipush (-100), 2) := by decide +kernel
theorem dX5_text_36 : decode cX5_text 36 = .ok (.aload_n 0, 1) := by decide +kernel
theorem dX5_text_37 : decode cX5_text 37 = .ok (.getfield 35, 3) := by decide +kernel
theorem dX5_text_40 : decode cX5_text 40 = .ok (.getfield 166, 3) := by decide +kernel
theorem dX5_text_43 : decode cX5_text 43 = .ok (.isub, 1) := by decide +kernel
theorem dX5_text_44 : decode cX5_text 44 = .ok (.ireturn, 1) := by decide +kernel
theorem dX5_text_45 : decode cX5_text 45 = .ok (.aload_n 0, 1) := by decide +kernel
theorem dX5_text_46 : decode cX5_text 46 = .ok (.getfield 28, 3) := by decide +kernel
theorem dX5_text_49 : decode cX5_text 49 = .ok (.aload_n 1, 1) := by decide +kernel
theorem dX5_text_50 : decode cX5_text 50 = .ok (.invokevirtual 66, 3) := by decide +kernel
theorem dX5_text_53 : decode cX5_text 53 = .ok (.ireturn, 1) := by decide +kernel
set_option maxRecDepth 20000 in
theorem dX5_force_0 : decode cX5_force 0 = .ok (.aload_n 0, 1) := by decide +kernel
theorem dX5_force_1 : decode cX5_force 1 = .ok (.iload_n 1, 1) := by decide +kernel
theorem dX5_force_2 : decode cX5_force 2 = .ok (.invokevirtual 169, 3) := by decide +kernel
theorem dX5_force_5 : decode cX5_force 5 = .ok (.ifCond .ne 6, 3) := by decide +kernel
theorem dX5_force_8 : decode cX5_force 8 = .ok (.bipush (-2), 2) := by decide +kernel
theorem dX5_force_10 : decode cX5_force 10 = .ok (.ireturn, 1) := by decide +kernel
theorem dX5_force_11 : decode cX5_force 11 = .ok (.aload_n 0, 1) := by decide +kernel
theorem dX5_force_12 : decode cX5_force 12 = .ok (.getfield 10, 3) := by decide +kernel
theorem dX5_force_15 : decode cX5_force 15 = .ok (.getfield 172, 3) := by decide +kernel
theorem dX5_force_18 : decode cX5_force 18 = .ok (.istore_n 2, 1) := by decide +kernel
theorem dX5_force_19 : decode cX5_force 19 = .ok (.aload_n 0, 1) := by decide +kernel
theorem dX5_force_20 : decode cX5_force 20 = .ok (.getfield 10, 3) := by decide +kernel
theorem dX5_force_23 : decode cX5_force 23 = .ok (.iload_n 1, 1) := by decide +kernel
theorem dX5_force_24 : decode cX5_force 24 = .ok (.putfield 172, 3) := by decide +kernel
theorem dX5_force_27 : decode cX5_force 27 = .ok (.iload_n 2, 1) := by decide +kernel
theorem dX5_force_28 : decode cX5_force 28 = .ok (.ireturn, 1) := by decide +kernel
set_option maxRecDepth 20000 in
theorem dX5_minute_0 : decode cX5_minute 0 = .ok (.aload_n 0, 1) := by decide +kernel
theorem dX5_minute_1 : decode cX5_minute 1 = .ok (.getfield 10, 3) := by decide +kernel
theorem dX5_minute_4 : decode cX5_minute 4 = .ok (.getfield 81, 3) := by decide +kernel
theorem dX5_minute_7 : decode cX5_minute 7 = .ok (.sipush 999, 3) := by decide +kernel
theorem dX5_minute_10 : decode cX5_minute 10 = .ok (.if_icmp .lt 6, 3) := by decide +kernel
theorem dX5_minute_13 : decode cX5_minute 13 = .ok (.bipush (-3), 2) := by decide +kernel
theorem dX5_minute_15 : decode cX5_minute 15 = .ok (.ireturn, 1) := by decide +kernel
theorem dX5_minute_16 : decode cX5_minute 16 = .ok (.aload_n 0, 1) := by decide +kernel
theorem dX5_minute_17 : decode cX5_minute 17 = .ok (.getfield 28, 3) := by decide +kernel
theorem dX5_minute_20 : decode cX5_minute 20 = .ok (.aload_n 0, 1) := by decide +kernel
theorem dX5_minute_21 : decode cX5_minute 21 = .ok (.getfield 10, 3) := by decide +kernel
theorem dX5_minute_24 : decode cX5_minute 24 = .ok (.iconst 1, 1) := by decide +kernel
theorem dX5_minute_25 : decode cX5_minute 25 = .ok (.iconst (-1), 1) := by decide +kernel
theorem dX5_minute_26 : decode cX5_minute 26 = .ok (.invokevirtual 175, 3) := by decide +kernel
theorem dX5_minute_29 : decode cX5_minute 29 = .ok (.ireturn, 1) := by decide +kernel
set_option maxRecDepth 20000 in
theorem dX5_run_0 : decode cX5_run 0 = .ok (.aload_n 0, 1) := by decide +kernel
theorem dX5_run_1 : decode cX5_run 1 = .ok (.iload_n 1, 1) := by decide +kernel
theorem dX5_run_2 : decode cX5_run 2 = .ok (.invokevirtual 115, 3) := by decide +kernel
theorem dX5_run_5 : decode cX5_run 5 = .ok (.ifCond .eq 20, 3) := by decide +kernel
theorem dX5_run_8 : decode cX5_run 8 = .ok (.iload_n 2, 1) := by decide +kernel
theorem dX5_run_9 : decode cX5_run 9 = .ok (.bipush 40, 2) := by decide +kernel
theorem dX5_run_11 : decode cX5_run 11 = .ok (.invokestatic 104, 3) := by decide +kernel
theorem dX5_run_14 : decode cX5_run 14 = .ok (.ifCond .eq 11, 3) := by decide +kernel
theorem dX5_run_17 : decode cX5_run 17 = .ok (.iload_n 3, 1) := by decide +kernel
theorem dX5_run_18 : decode cX5_run 18 = .ok (.iconst 3, 1) := by decide +kernel
theorem dX5_run_19 : decode cX5_run 19 = .ok (.invokestatic 104, 3) := by decide +kernel
theorem dX5_run_22 : decode cX5_run 22 = .ok (.ifCond .ne 6, 3) := by decide +kernel
theorem dX5_run_25 : decode cX5_run 25 = .ok (.bipush (-2), 2) := by decide +kernel
theorem dX5_run_27 : decode cX5_run 27 = .ok (.ireturn, 1) := by decide +kernel
theorem dX5_run_28 : decode cX5_run 28 = .ok (.aload_n 0, 1) := by decide +kernel
theorem dX5_run_29 : decode cX5_run 29 = .ok (.getfield 16, 3) := by decide +kernel
theorem dX5_run_32 : decode cX5_run 32 = .ok (.aload_n 0, 1) := by decide +kernel
theorem dX5_run_33 : decode cX5_run 33 = .ok (.getfield 10, 3) := by decide +kernel
theorem dX5_run_36 : decode cX5_run 36 = .ok (.invokevirtual 179, 3) := by decide +kernel
theorem dX5_run_39 : decode cX5_run 39 = .ok (.aload_n 0, 1) := by decide +kernel
theorem dX5_run_40 : decode cX5_run 40 = .ok (.getfield 28, 3) := by decide +kernel
theorem dX5_run_43 : decode cX5_run 43 = .ok (.aload_n 0, 1) := by decide +kernel
theorem dX5_run_44 : decode cX5_run 44 = .ok (.getfield 16, 3) := by decide +kernel
theorem dX5_run_47 : decode cX5_run 47 = .ok (.iload_n 2, 1) := by decide +kernel
theorem dX5_run_48 : decode cX5_run 48 = .ok (.iconst (-1), 1) := by decide +kernel
theorem dX5_run_49 : decode cX5_run 49 = .ok (.invokevirtual 175, 3) := by decide +kernel
theorem dX5_run_52 : decode cX5_run 52 = .ok (.pop, 1) := by decide +kernel
theorem dX5_run_53 : decode cX5_run 53 = .ok (.iload_n 3, 1) := by decide +kernel
theorem dX5_run_54 : decode cX5_run 54 = .ok (.ifCond .ne 13, 3) := by decide +kernel
theorem dX5_run_57 : decode cX5_run 57 = .ok (.aload_n 0, 1) := by decide +kernel
theorem dX5_run_58 : decode cX5_run 58 = .ok (.getfield 16, 3) := by decide +kernel
theorem dX5_run_61 : decode cX5_run 61 = .ok (.getfield 98, 3) := by decide +kernel
theorem dX5_run_64 : decode cX5_run 64 = .ok (.iload_n 1, 1) := by decide +kernel
theorem dX5_run_65 : decode cX5_run 65 = .ok (.iaload, 1) := by decide +kernel
theorem dX5_run_66 : decode cX5_run 66 = .ok (.ireturn, 1) := by decide +kernel
theorem dX5_run_67 : decode cX5_run 67 = .ok (.iload_n 3, 1) := by decide +kernel
theorem dX5_run_68 : decode cX5_run 68 = .ok (.iconst 1, 1) := by decide +kernel
theorem dX5_run_69 : decode cX5_run 69 = .ok (.if_icmp .ne 13, 3) := by decide +kernel
theorem dX5_run_72 : decode cX5_run 72 = .ok (.aload_n 0, 1) := by decide +kernel
theorem dX5_run_73 : decode cX5_run 73 = .ok (.getfield 16, 3) := by decide +kernel
theorem dX5_run_76 : decode cX5_run 76 = .ok (.getfield 101, 3) := by decide +kernel
theorem dX5_run_79 : decode cX5_run 79 = .ok (.iload_n 1, 1) := by decide +kernel
theorem dX5_run_80 : decode cX5_run 80 = .ok (.iaload, 1) := by decide +kernel
theorem dX5_run_81 : decode cX5_run 81 = .ok (.ireturn, 1) := by decide +kernel
theorem dX5_run_82 : decode cX5_run 82 = .ok (.iload_n 3, 1) := by decide +kernel
theorem dX5_run_83 : decode cX5_run 83 = .ok (.iconst 2, 1) := by decide +kernel
theorem dX5_run_84 : decode cX5_run 84 = .ok (.if_icmp .ne 14, 3) := by decide +kernel
theorem dX5_run_87 : decode cX5_run 87 = .ok (.aload_n 0, 1) := by decide +kernel
theorem dX5_run_88 : decode cX5_run 88 = .ok (.getfield 16, 3) := by decide +kernel
theorem dX5_run_91 : decode cX5_run 91 = .ok (.iload_n 1, 1) := by decide +kernel
theorem dX5_run_92 : decode cX5_run 92 = .ok (.invokevirtual 149, 3) := by decide +kernel
theorem dX5_run_95 : decode cX5_run 95 = .ok (.goto 11, 3) := by decide +kernel
theorem dX5_run_98 : decode cX5_run 98 = .ok (.aload_n 0, 1) := by decide +kernel
theorem dX5_run_99 : decode cX5_run 99 = .ok (.getfield 16, 3) := by decide +kernel
theorem dX5_run_102 : decode cX5_run 102 = .ok (.iconst 1, 1) := by decide +kernel
theorem dX5_run_103 : decode cX5_run 103 = .ok (.invokevirtual 183, 3) := by decide +kernel
theorem dX5_run_106 : decode cX5_run 106 = .ok (.ireturn, 1) := by decide +kernel
set_option maxRecDepth 20000 in
theorem dX5_call_0 : decode cX5_call 0 = .ok (.iload_n 1, 1) := by decide +kernel
theorem dX5_call_1 : decode cX5_call 1 = .ok (.iconst 2, 1) := by decide +kernel
theorem dX5_call_2 : decode cX5_call 2 = .ok (.invokestatic 104, 3) := by decide +kernel
theorem dX5_call_5 : decode cX5_call 5 = .ok (.ifCond .eq 20, 3) := by decide +kernel
theorem dX5_call_8 : decode cX5_call 8 = .ok (.iload_n 2, 1) := by decide +kernel
theorem dX5_call_9 : decode cX5_call 9 = .ok (.bipush 40, 2) := by decide +kernel
theorem dX5_call_11 : decode cX5_call 11 = .ok (.invokestatic 104, 3) := by decide +kernel
theorem dX5_call_14 : decode cX5_call 14 = .ok (.ifCond .eq 11, 3) := by decide +kernel
theorem dX5_call_17 : decode cX5_call 17 = .ok (.iload_n 3, 1) := by decide +kernel
theorem dX5_call_18 : decode cX5_call 18 = .ok (.iconst 1, 1) := by decide +kernel
theorem dX5_call_19 : decode cX5_call 19 = .ok (.invokestatic 104, 3) := by decide +kernel
theorem dX5_call_22 : decode cX5_call 22 = .ok (.ifCond .ne 6, 3) := by decide +kernel
theorem dX5_call_25 : decode cX5_call 25 = .ok (.bipush (-2), 2) := by decide +kernel
theorem dX5_call_27 : decode cX5_call 27 = .ok (.ireturn, 1) := by decide +kernel
theorem dX5_call_28 : decode cX5_call 28 = .ok (.aload_n 0, 1) := by decide +kernel
theorem dX5_call_29 : decode cX5_call 29 = .ok (.getfield 16, 3) := by decide +kernel
theorem dX5_call_32 : decode cX5_call 32 = .ok (.aload_n 0, 1) := by decide +kernel
theorem dX5_call_33 : decode cX5_call 33 = .ok (.getfield 10, 3) := by decide +kernel
theorem dX5_call_36 : decode cX5_call 36 = .ok (.invokevirtual 179, 3) := by decide +kernel
theorem dX5_call_39 : decode cX5_call 39 = .ok (.iconst 0, 1) := by decide +kernel
theorem dX5_call_40 : decode cX5_call 40 = .ok (.istore 4, 2) := by decide +kernel
theorem dX5_call_42 : decode cX5_call 42 = .ok (.aload_n 0, 1) := by decide +kernel
theorem dX5_call_43 : decode cX5_call 43 = .ok (.getfield 16, 3) := by decide +kernel
theorem dX5_call_46 : decode cX5_call 46 = .ok (.iload_n 1, 1) := by decide +kernel
theorem dX5_call_47 : decode cX5_call 47 = .ok (.invokevirtual 183, 3) := by decide +kernel
theorem dX5_call_50 : decode cX5_call 50 = .ok (.istore 5, 2) := by decide +kernel
theorem dX5_call_52 : decode cX5_call 52 = .ok (.iconst 1, 1) := by decide +kernel
theorem dX5_call_53 : decode cX5_call 53 = .ok (.istore 6, 2) := by decide +kernel
theorem dX5_call_55 : decode cX5_call 55 = .ok (.iload 6, 2) := by decide +kernel
theorem dX5_call_57 : decode cX5_call 57 = .ok (.iload_n 2, 1) := by decide +kernel
theorem dX5_call_58 : decode cX5_call 58 = .ok (.if_icmp .gt 48, 3) := by decide +kernel
theorem dX5_call_61 : decode cX5_call 61 = .ok (.aload_n 0, 1) := by decide +kernel
theorem dX5_call_62 : decode cX5_call 62 = .ok (.getfield 28, 3) := by decide +kernel
theorem dX5_call_65 : decode cX5_call 65 = .ok (.aload_n 0, 1) := by decide +kernel
theorem dX5_call_66 : decode cX5_call 66 = .ok (.getfield 16, 3) := by decide +kernel
theorem dX5_call_69 : decode cX5_call 69 = .ok (.iconst 1, 1) := by decide +kernel
theorem dX5_call_70 : decode cX5_call 70 = .ok (.iconst (-1), 1) := by decide +kernel
theorem dX5_call_71 : decode cX5_call 71 = .ok (.invokevirtual 175, 3) := by decide +kernel
theorem dX5_call_74 : decode cX5_call 74 = .ok (.pop, 1) := by decide +kernel
theorem dX5_call_75 : decode cX5_call 75 = .ok (.aload_n 0, 1) := by decide +kernel
theorem dX5_call_76 : decode cX5_call 76 = .ok (.getfield 16, 3) := by decide +kernel
theorem dX5_call_79 : decode cX5_call 79 = .ok (.iload_n 1, 1) := by decide +kernel
theorem dX5_call_80 : decode cX5_call 80 = .ok (.invokevirtual 183, 3) := by decide +kernel
theorem dX5_call_83 : decode cX5_call 83 = .ok (.istore 7, 2) := by decide +kernel
theorem dX5_call_85 : decode cX5_call 85 = .ok (.iload 7, 2) := by decide +kernel
theorem dX5_call_87 : decode cX5_call 87 = .ok (.iload 5, 2) := by decide +kernel
theorem dX5_call_89 : decode cX5_call 89 = .ok (.if_icmp .le 11, 3) := by decide +kernel
theorem dX5_call_92 : decode cX5_call 92 = .ok (.iload 7, 2) := by decide +kernel
theorem dX5_call_94 : decode cX5_call 94 = .ok (.istore 5, 2) := by decide +kernel
theorem dX5_call_96 : decode cX5_call 96 = .ok (.iload 6, 2) := by decide +kernel
theorem dX5_call_98 : decode cX5_call 98 = .ok (.istore 4, 2) := by decide +kernel
theorem dX5_call_100 : decode cX5_call 100 = .ok (.iinc 6 1, 3) := by decide +kernel
theorem dX5_call_103 : decode cX5_call 103 = .ok (.goto (-48), 3) := by decide +kernel
theorem dX5_call_106 : decode cX5_call 106 = .ok (.iload_n 3, 1) := by decide +kernel
theorem dX5_call_107 : decode cX5_call 107 = .ok (.ifCond .ne 8, 3) := by decide +kernel
theorem dX5_call_110 : decode cX5_call 110 = .ok (.iload 4, 2) := by decide +kernel
theorem dX5_call_112 : decode cX5_call 112 = .ok (.goto 5, 3) := by decide +kernel
theorem dX5_call_115 : decode cX5_call 115 = .ok (.iload 5, 2) := by decide +kernel
theorem dX5_call_117 : decode cX5_call 117 = .ok (.ireturn, 1) := by decide +kernel
set_option maxRecDepth 20000 in
theorem dX5_meet_0 : decode cX5_meet 0 = .ok (.aload_n 0, 1) := by decide +kernel
theorem dX5_meet_1 : decode cX5_meet 1 = .ok (.iload_n 1, 1) := by decide +kernel
theorem dX5_meet_2 : decode cX5_meet 2 = .ok (.invokevirtual 115, 3) := by decide +kernel
theorem dX5_meet_5 : decode cX5_meet 5 = .ok (.ifCond .eq 16, 3) := by decide +kernel
theorem dX5_meet_8 : decode cX5_meet 8 = .ok (.aload_n 0, 1) := by decide +kernel
theorem dX5_meet_9 : decode cX5_meet 9 = .ok (.iload_n 2, 1) := by decide +kernel
theorem dX5_meet_10 : decode cX5_meet 10 = .ok (.invokevirtual 115, 3) := by decide +kernel
theorem dX5_meet_13 : decode cX5_meet 13 = .ok (.ifCond .eq 8, 3) := by decide +kernel
theorem dX5_meet_16 : decode cX5_meet 16 = .ok (.iload_n 1, 1) := by decide +kernel
theorem dX5_meet_17 : decode cX5_meet 17 = .ok (.iload_n 2, 1) := by decide +kernel
theorem dX5_meet_18 : decode cX5_meet 18 = .ok (.if_icmp .ne 6, 3) := by decide +kernel
theorem dX5_meet_21 : decode cX5_meet 21 = .ok (.bipush (-2), 2) := by decide +kernel
theorem dX5_meet_23 : decode cX5_meet 23 = .ok (.ireturn, 1) := by decide +kernel
theorem dX5_meet_24 : decode cX5_meet 24 = .ok (.aload_n 0, 1) := by decide +kernel
theorem dX5_meet_25 : decode cX5_meet 25 = .ok (.getfield 16, 3) := by decide +kernel
theorem dX5_meet_28 : decode cX5_meet 28 = .ok (.aload_n 0, 1) := by decide +kernel
theorem dX5_meet_29 : decode cX5_meet 29 = .ok (.getfield 10, 3) := by decide +kernel
theorem dX5_meet_32 : decode cX5_meet 32 = .ok (.invokevirtual 179, 3) := by decide +kernel
theorem dX5_meet_35 : decode cX5_meet 35 = .ok (.iconst 0, 1) := by decide +kernel
theorem dX5_meet_36 : decode cX5_meet 36 = .ok (.istore_n 3, 1) := by decide +kernel
theorem dX5_meet_37 : decode cX5_meet 37 = .ok (.iload_n 3, 1) := by decide +kernel
theorem dX5_meet_38 : decode cX5_meet 38 = .ok (.bipush 60, 2) := by decide +kernel
theorem dX5_meet_40 : decode cX5_meet 40 = .ok (.if_icmp .gt 46, 3) := by decide +kernel
theorem dX5_meet_43 : decode cX5_meet 43 = .ok (.aload_n 0, 1) := by decide +kernel
theorem dX5_meet_44 : decode cX5_meet 44 = .ok (.getfield 16, 3) := by decide +kernel
theorem dX5_meet_47 : decode cX5_meet 47 = .ok (.getfield 98, 3) := by decide +kernel
theorem dX5_meet_50 : decode cX5_meet 50 = .ok (.iload_n 1, 1) := by decide +kernel
theorem dX5_meet_51 : decode cX5_meet 51 = .ok (.iaload, 1) := by decide +kernel
theorem dX5_meet_52 : decode cX5_meet 52 = .ok (.aload_n 0, 1) := by decide +kernel
theorem dX5_meet_53 : decode cX5_meet 53 = .ok (.getfield 16, 3) := by decide +kernel
theorem dX5_meet_56 : decode cX5_meet 56 = .ok (.getfield 98, 3) := by decide +kernel
theorem dX5_meet_59 : decode cX5_meet 59 = .ok (.iload_n 2, 1) := by decide +kernel
theorem dX5_meet_60 : decode cX5_meet 60 = .ok (.iaload, 1) := by decide +kernel
theorem dX5_meet_61 : decode cX5_meet 61 = .ok (.if_icmp .ne 5, 3) := by decide +kernel
theorem dX5_meet_64 : decode cX5_meet 64 = .ok (.iload_n 3, 1) := by decide +kernel
theorem dX5_meet_65 : decode cX5_meet 65 = .ok (.ireturn, 1) := by decide +kernel
theorem dX5_meet_66 : decode cX5_meet 66 = .ok (.aload_n 0, 1) := by decide +kernel
theorem dX5_meet_67 : decode cX5_meet 67 = .ok (.getfield 28, 3) := by decide +kernel
theorem dX5_meet_70 : decode cX5_meet 70 = .ok (.aload_n 0, 1) := by decide +kernel
theorem dX5_meet_71 : decode cX5_meet 71 = .ok (.getfield 16, 3) := by decide +kernel
theorem dX5_meet_74 : decode cX5_meet 74 = .ok (.iconst 1, 1) := by decide +kernel
theorem dX5_meet_75 : decode cX5_meet 75 = .ok (.iconst (-1), 1) := by decide +kernel
theorem dX5_meet_76 : decode cX5_meet 76 = .ok (.invokevirtual 175, 3) := by decide +kernel
theorem dX5_meet_79 : decode cX5_meet 79 = .ok (.pop, 1) := by decide +kernel
theorem dX5_meet_80 : decode cX5_meet 80 = .ok (.iinc 3 1, 3) := by decide +kernel
theorem dX5_meet_83 : decode cX5_meet 83 = .ok (.goto (-46), 3) := by decide +kernel
theorem dX5_meet_86 : decode cX5_meet 86 = .ok (.iconst (-1), 1) := by decide +kernel
theorem dX5_meet_87 : decode cX5_meet 87 = .ok (.ireturn, 1) := by decide +kernel
set_option maxRecDepth 20000 in
theorem dX5_reached_0 : decode cX5_reached 0 = .ok (.aload_n 0, 1) := by decide +kernel
theorem dX5_reached_1 : decode cX5_reached 1 = .ok (.iload_n 1, 1) := by decide +kernel
theorem dX5_reached_2 : decode cX5_reached 2 = .ok (.invokevirtual 115, 3) := by decide +kernel
theorem dX5_reached_5 : decode cX5_reached 5 = .ok (.ifCond .eq 12, 3) := by decide +kernel
theorem dX5_reached_8 : decode cX5_reached 8 = .ok (.iload_n 2, 1) := by decide +kernel
theorem dX5_reached_9 : decode cX5_reached 9 = .ok (.bipush 63, 2) := by decide +kernel
theorem dX5_reached_11 : decode cX5_reached 11 = .ok (.invokestatic 104, 3) := by decide +kernel
theorem dX5_reached_14 : decode cX5_reached 14 = .ok (.ifCond .ne 7, 3) := by decide +kernel
theorem dX5_reached_17 : decode cX5_reached 17 = .ok (.ldc2_w 160, 3) := by decide +kernel
theorem dX5_reached_20 : decode cX5_reached 20 = .ok (.lreturn, 1) := by decide +kernel
theorem dX5_reached_21 : decode cX5_reached 21 = .ok (.lconst 1, 1) := by decide +kernel
theorem dX5_reached_22 : decode cX5_reached 22 = .ok (.aload_n 0, 1) := by decide +kernel
theorem dX5_reached_23 : decode cX5_reached 23 = .ok (.getfield 10, 3) := by decide +kernel
theorem dX5_reached_26 : decode cX5_reached 26 = .ok (.getfield 98, 3) := by decide +kernel
theorem dX5_reached_29 : decode cX5_reached 29 = .ok (.iload_n 1, 1) := by decide +kernel
theorem dX5_reached_30 : decode cX5_reached 30 = .ok (.iaload, 1) := by decide +kernel
theorem dX5_reached_31 : decode cX5_reached 31 = .ok (.lshl, 1) := by decide +kernel
theorem dX5_reached_32 : decode cX5_reached 32 = .ok (.lstore_n 3, 1) := by decide +kernel
theorem dX5_reached_33 : decode cX5_reached 33 = .ok (.iconst 0, 1) := by decide +kernel
theorem dX5_reached_34 : decode cX5_reached 34 = .ok (.istore 5, 2) := by decide +kernel
theorem dX5_reached_36 : decode cX5_reached 36 = .ok (.iload 5, 2) := by decide +kernel
theorem dX5_reached_38 : decode cX5_reached 38 = .ok (.iload_n 2, 1) := by decide +kernel
theorem dX5_reached_39 : decode cX5_reached 39 = .ok (.if_icmp .ge 19, 3) := by decide +kernel
theorem dX5_reached_42 : decode cX5_reached 42 = .ok (.aload_n 0, 1) := by decide +kernel
theorem dX5_reached_43 : decode cX5_reached 43 = .ok (.getfield 10, 3) := by decide +kernel
theorem dX5_reached_46 : decode cX5_reached 46 = .ok (.iload_n 1, 1) := by decide +kernel
theorem dX5_reached_47 : decode cX5_reached 47 = .ok (.lload_n 3, 1) := by decide +kernel
theorem dX5_reached_48 : decode cX5_reached 48 = .ok (.invokevirtual 186, 3) := by decide +kernel
theorem dX5_reached_51 : decode cX5_reached 51 = .ok (.lstore_n 3, 1) := by decide +kernel
theorem dX5_reached_52 : decode cX5_reached 52 = .ok (.iinc 5 1, 3) := by decide +kernel
theorem dX5_reached_55 : decode cX5_reached 55 = .ok (.goto (-19), 3) := by decide +kernel
theorem dX5_reached_58 : decode cX5_reached 58 = .ok (.lload_n 3, 1) := by decide +kernel
theorem dX5_reached_59 : decode cX5_reached 59 = .ok (.lreturn, 1) := by decide +kernel
set_option maxRecDepth 20000 in
theorem dX5_fewest_0 : decode cX5_fewest 0 = .ok (.aload_n 0, 1) := by decide +kernel
theorem dX5_fewest_1 : decode cX5_fewest 1 = .ok (.iload_n 1, 1) := by decide +kernel
theorem dX5_fewest_2 : decode cX5_fewest 2 = .ok (.invokevirtual 115, 3) := by decide +kernel
theorem dX5_fewest_5 : decode cX5_fewest 5 = .ok (.ifCond .eq 10, 3) := by decide +kernel
theorem dX5_fewest_8 : decode cX5_fewest 8 = .ok (.iload_n 2, 1) := by decide +kernel
theorem dX5_fewest_9 : decode cX5_fewest 9 = .ok (.invokestatic 108, 3) := by decide +kernel
theorem dX5_fewest_12 : decode cX5_fewest 12 = .ok (.ifCond .ne 6, 3) := by decide +kernel
theorem dX5_fewest_15 : decode cX5_fewest 15 = .ok (.bipush (-2), 2) := by decide +kernel
theorem dX5_fewest_17 : decode cX5_fewest 17 = .ok (.ireturn, 1) := by decide +kernel
theorem dX5_fewest_18 : decode cX5_fewest 18 = .ok (.lconst 1, 1) := by decide +kernel
theorem dX5_fewest_19 : decode cX5_fewest 19 = .ok (.aload_n 0, 1) := by decide +kernel
theorem dX5_fewest_20 : decode cX5_fewest 20 = .ok (.getfield 10, 3) := by decide +kernel
theorem dX5_fewest_23 : decode cX5_fewest 23 = .ok (.getfield 98, 3) := by decide +kernel
theorem dX5_fewest_26 : decode cX5_fewest 26 = .ok (.iload_n 1, 1) := by decide +kernel
theorem dX5_fewest_27 : decode cX5_fewest 27 = .ok (.iaload, 1) := by decide +kernel
theorem dX5_fewest_28 : decode cX5_fewest 28 = .ok (.lshl, 1) := by decide +kernel
theorem dX5_fewest_29 : decode cX5_fewest 29 = .ok (.lstore_n 3, 1) := by decide +kernel
theorem dX5_fewest_30 : decode cX5_fewest 30 = .ok (.iconst 0, 1) := by decide +kernel
theorem dX5_fewest_31 : decode cX5_fewest 31 = .ok (.istore 5, 2) := by decide +kernel
theorem dX5_fewest_33 : decode cX5_fewest 33 = .ok (.iload 5, 2) := by decide +kernel
theorem dX5_fewest_35 : decode cX5_fewest 35 = .ok (.bipush 63, 2) := by decide +kernel
theorem dX5_fewest_37 : decode cX5_fewest 37 = .ok (.if_icmp .gt 30, 3) := by decide +kernel
theorem dX5_fewest_40 : decode cX5_fewest 40 = .ok (.lload_n 3, 1) := by decide +kernel
theorem dX5_fewest_41 : decode cX5_fewest 41 = .ok (.iload_n 2, 1) := by decide +kernel
theorem dX5_fewest_42 : decode cX5_fewest 42 = .ok (.invokestatic 190, 3) := by decide +kernel
theorem dX5_fewest_45 : decode cX5_fewest 45 = .ok (.ifCond .eq 6, 3) := by decide +kernel
theorem dX5_fewest_48 : decode cX5_fewest 48 = .ok (.iload 5, 2) := by decide +kernel
theorem dX5_fewest_50 : decode cX5_fewest 50 = .ok (.ireturn, 1) := by decide +kernel
theorem dX5_fewest_51 : decode cX5_fewest 51 = .ok (.aload_n 0, 1) := by decide +kernel
theorem dX5_fewest_52 : decode cX5_fewest 52 = .ok (.getfield 10, 3) := by decide +kernel
theorem dX5_fewest_55 : decode cX5_fewest 55 = .ok (.iload_n 1, 1) := by decide +kernel
theorem dX5_fewest_56 : decode cX5_fewest 56 = .ok (.lload_n 3, 1) := by decide +kernel
theorem dX5_fewest_57 : decode cX5_fewest 57 = .ok (.invokevirtual 186, 3) := by decide +kernel
theorem dX5_fewest_60 : decode cX5_fewest 60 = .ok (.lstore_n 3, 1) := by decide +kernel
theorem dX5_fewest_61 : decode cX5_fewest 61 = .ok (.iinc 5 1, 3) := by decide +kernel
theorem dX5_fewest_64 : decode cX5_fewest 64 = .ok (.goto (-31), 3) := by decide +kernel
theorem dX5_fewest_67 : decode cX5_fewest 67 = .ok (.iconst (-1), 1) := by decide +kernel
theorem dX5_fewest_68 : decode cX5_fewest 68 = .ok (.ireturn, 1) := by decide +kernel
set_option maxRecDepth 20000 in
theorem dX5_best_0 : decode cX5_best 0 = .ok (.iload_n 1, 1) := by decide +kernel
theorem dX5_best_1 : decode cX5_best 1 = .ok (.iconst 2, 1) := by decide +kernel
theorem dX5_best_2 : decode cX5_best 2 = .ok (.invokestatic 104, 3) := by decide +kernel
theorem dX5_best_5 : decode cX5_best 5 = .ok (.ifCond .eq 22, 3) := by decide +kernel
theorem dX5_best_8 : decode cX5_best 8 = .ok (.iload_n 2, 1) := by decide +kernel
theorem dX5_best_9 : decode cX5_best 9 = .ok (.iconst 1, 1) := by decide +kernel
theorem dX5_best_10 : decode cX5_best 10 = .ok (.if_icmp .lt 17, 3) := by decide +kernel
theorem dX5_best_13 : decode cX5_best 13 = .ok (.iload_n 2, 1) := by decide +kernel
theorem dX5_best_14 : decode cX5_best 14 = .ok (.bipush 20, 2) := by decide +kernel
theorem dX5_best_16 : decode cX5_best 16 = .ok (.if_icmp .gt 11, 3) := by decide +kernel
theorem dX5_best_19 : decode cX5_best 19 = .ok (.iload_n 3, 1) := by decide +kernel
theorem dX5_best_20 : decode cX5_best 20 = .ok (.iconst 5, 1) := by decide +kernel
theorem dX5_best_21 : decode cX5_best 21 = .ok (.invokestatic 104, 3) := by decide +kernel
theorem dX5_best_24 : decode cX5_best 24 = .ok (.ifCond .ne 6, 3) := by decide +kernel
theorem dX5_best_27 : decode cX5_best 27 = .ok (.bipush (-2), 2) := by decide +kernel
theorem dX5_best_29 : decode cX5_best 29 = .ok (.ireturn, 1) := by decide +kernel
theorem dX5_best_30 : decode cX5_best 30 = .ok (.aload_n 0, 1) := by decide +kernel
theorem dX5_best_31 : decode cX5_best 31 = .ok (.getfield 19, 3) := by decide +kernel
theorem dX5_best_34 : decode cX5_best 34 = .ok (.aload_n 0, 1) := by decide +kernel
theorem dX5_best_35 : decode cX5_best 35 = .ok (.getfield 10, 3) := by decide +kernel
theorem dX5_best_38 : decode cX5_best 38 = .ok (.invokevirtual 179, 3) := by decide +kernel
theorem dX5_best_41 : decode cX5_best 41 = .ok (.aload_n 0, 1) := by decide +kernel
theorem dX5_best_42 : decode cX5_best 42 = .ok (.getfield 28, 3) := by decide +kernel
theorem dX5_best_45 : decode cX5_best 45 = .ok (.aload_n 0, 1) := by decide +kernel
theorem dX5_best_46 : decode cX5_best 46 = .ok (.getfield 19, 3) := by decide +kernel
theorem dX5_best_49 : decode cX5_best 49 = .ok (.iload_n 2, 1) := by decide +kernel
theorem dX5_best_50 : decode cX5_best 50 = .ok (.iconst (-1), 1) := by decide +kernel
theorem dX5_best_51 : decode cX5_best 51 = .ok (.invokevirtual 175, 3) := by decide +kernel
theorem dX5_best_54 : decode cX5_best 54 = .ok (.pop, 1) := by decide +kernel
theorem dX5_best_55 : decode cX5_best 55 = .ok (.iconst (-1), 1) := by decide +kernel
theorem dX5_best_56 : decode cX5_best 56 = .ok (.istore 4, 2) := by decide +kernel
theorem dX5_best_58 : decode cX5_best 58 = .ok (.aload_n 0, 1) := by decide +kernel
theorem dX5_best_59 : decode cX5_best 59 = .ok (.getfield 19, 3) := by decide +kernel
theorem dX5_best_62 : decode cX5_best 62 = .ok (.iload_n 1, 1) := by decide +kernel
theorem dX5_best_63 : decode cX5_best 63 = .ok (.invokevirtual 183, 3) := by decide +kernel
theorem dX5_best_66 : decode cX5_best 66 = .ok (.istore 5, 2) := by decide +kernel
theorem dX5_best_68 : decode cX5_best 68 = .ok (.iload_n 3, 1) := by decide +kernel
theorem dX5_best_69 : decode cX5_best 69 = .ok (.iconst 2, 1) := by decide +kernel
theorem dX5_best_70 : decode cX5_best 70 = .ok (.if_icmp .ge 13, 3) := by decide +kernel
theorem dX5_best_73 : decode cX5_best 73 = .ok (.aload_n 0, 1) := by decide +kernel
theorem dX5_best_74 : decode cX5_best 74 = .ok (.getfield 10, 3) := by decide +kernel
theorem dX5_best_77 : decode cX5_best 77 = .ok (.getfield 124, 3) := by decide +kernel
theorem dX5_best_80 : decode cX5_best 80 = .ok (.goto 5, 3) := by decide +kernel
theorem dX5_best_83 : decode cX5_best 83 = .ok (.bipush 64, 2) := by decide +kernel
theorem dX5_best_85 : decode cX5_best 85 = .ok (.istore 6, 2) := by decide +kernel
theorem dX5_best_87 : decode cX5_best 87 = .ok (.iconst 0, 1) := by decide +kernel
theorem dX5_best_88 : decode cX5_best 88 = .ok (.istore 7, 2) := by decide +kernel
theorem dX5_best_90 : decode cX5_best 90 = .ok (.iload 7, 2) := by decide +kernel
theorem dX5_best_92 : decode cX5_best 92 = .ok (.iload 6, 2) := by decide +kernel
theorem dX5_best_94 : decode cX5_best 94 = .ok (.if_icmp .ge 65, 3) := by decide +kernel
theorem dX5_best_97 : decode cX5_best 97 = .ok (.iload_n 3, 1) := by decide +kernel
theorem dX5_best_98 : decode cX5_best 98 = .ok (.iconst 2, 1) := by decide +kernel
theorem dX5_best_99 : decode cX5_best 99 = .ok (.if_icmp .ge 14, 3) := by decide +kernel
theorem dX5_best_102 : decode cX5_best 102 = .ok (.aload_n 0, 1) := by decide +kernel
theorem dX5_best_103 : decode cX5_best 103 = .ok (.iload_n 1, 1) := by decide +kernel
theorem dX5_best_104 : decode cX5_best 104 = .ok (.iload_n 2, 1) := by decide +kernel
theorem dX5_best_105 : decode cX5_best 105 = .ok (.iload 7, 2) := by decide +kernel
theorem dX5_best_107 : decode cX5_best 107 = .ok (.invokevirtual 194, 3) := by decide +kernel
theorem dX5_best_110 : decode cX5_best 110 = .ok (.goto 26, 3) := by decide +kernel
theorem dX5_best_113 : decode cX5_best 113 = .ok (.iload_n 3, 1) := by decide +kernel
theorem dX5_best_114 : decode cX5_best 114 = .ok (.iconst 4, 1) := by decide +kernel
theorem dX5_best_115 : decode cX5_best 115 = .ok (.if_icmp .ge 13, 3) := by decide +kernel
theorem dX5_best_118 : decode cX5_best 118 = .ok (.aload_n 0, 1) := by decide +kernel
theorem dX5_best_119 : decode cX5_best 119 = .ok (.iload_n 1, 1) := by decide +kernel
theorem dX5_best_120 : decode cX5_best 120 = .ok (.iload 7, 2) := by decide +kernel
theorem dX5_best_122 : decode cX5_best 122 = .ok (.invokevirtual 197, 3) := by decide +kernel
theorem dX5_best_125 : decode cX5_best 125 = .ok (.goto 11, 3) := by decide +kernel
theorem dX5_best_128 : decode cX5_best 128 = .ok (.aload_n 0, 1) := by decide +kernel
theorem dX5_best_129 : decode cX5_best 129 = .ok (.iload_n 1, 1) := by decide +kernel
theorem dX5_best_130 : decode cX5_best 130 = .ok (.iload_n 2, 1) := by decide +kernel
theorem dX5_best_131 : decode cX5_best 131 = .ok (.iload 7, 2) := by decide +kernel
theorem dX5_best_133 : decode cX5_best 133 = .ok (.invokevirtual 200, 3) := by decide +kernel
theorem dX5_best_136 : decode cX5_best 136 = .ok (.istore 8, 2) := by decide +kernel
theorem dX5_best_138 : decode cX5_best 138 = .ok (.iload 8, 2) := by decide +kernel
theorem dX5_best_140 : decode cX5_best 140 = .ok (.iload 5, 2) := by decide +kernel
theorem dX5_best_142 : decode cX5_best 142 = .ok (.if_icmp .le 11, 3) := by decide +kernel
theorem dX5_best_145 : decode cX5_best 145 = .ok (.iload 8, 2) := by decide +kernel
theorem dX5_best_147 : decode cX5_best 147 = .ok (.istore 5, 2) := by decide +kernel
theorem dX5_best_149 : decode cX5_best 149 = .ok (.iload 7, 2) := by decide +kernel
theorem dX5_best_151 : decode cX5_best 151 = .ok (.istore 4, 2) := by decide +kernel
theorem dX5_best_153 : decode cX5_best 153 = .ok (.iinc 7 1, 3) := by decide +kernel
theorem dX5_best_156 : decode cX5_best 156 = .ok (.goto (-66), 3) := by decide +kernel
theorem dX5_best_159 : decode cX5_best 159 = .ok (.iload_n 3, 1) := by decide +kernel
theorem dX5_best_160 : decode cX5_best 160 = .ok (.iconst 2, 1) := by decide +kernel
theorem dX5_best_161 : decode cX5_best 161 = .ok (.irem, 1) := by decide +kernel
theorem dX5_best_162 : decode cX5_best 162 = .ok (.ifCond .ne 8, 3) := by decide +kernel
theorem dX5_best_165 : decode cX5_best 165 = .ok (.iload 4, 2) := by decide +kernel
theorem dX5_best_167 : decode cX5_best 167 = .ok (.goto 5, 3) := by decide +kernel
theorem dX5_best_170 : decode cX5_best 170 = .ok (.iload 5, 2) := by decide +kernel
theorem dX5_best_172 : decode cX5_best 172 = .ok (.ireturn, 1) := by decide +kernel
set_option maxRecDepth 20000 in
theorem dX5_foundWithOneStill_0 : decode cX5_foundWithOneStill 0 = .ok (.aload_n 0, 1) := by decide +kernel
theorem dX5_foundWithOneStill_1 : decode cX5_foundWithOneStill 1 = .ok (.getfield 16, 3) := by decide +kernel
theorem dX5_foundWithOneStill_4 : decode cX5_foundWithOneStill 4 = .ok (.aload_n 0, 1) := by decide +kernel
theorem dX5_foundWithOneStill_5 : decode cX5_foundWithOneStill 5 = .ok (.getfield 10, 3) := by decide +kernel
theorem dX5_foundWithOneStill_8 : decode cX5_foundWithOneStill 8 = .ok (.invokevirtual 179, 3) := by decide +kernel
theorem dX5_foundWithOneStill_11 : decode cX5_foundWithOneStill 11 = .ok (.aload_n 0, 1) := by decide +kernel
theorem dX5_foundWithOneStill_12 : decode cX5_foundWithOneStill 12 = .ok (.getfield 28, 3) := by decide +kernel
theorem dX5_foundWithOneStill_15 : decode cX5_foundWithOneStill 15 = .ok (.aload_n 0, 1) := by decide +kernel
theorem dX5_foundWithOneStill_16 : decode cX5_foundWithOneStill 16 = .ok (.getfield 16, 3) := by decide +kernel
theorem dX5_foundWithOneStill_19 : decode cX5_foundWithOneStill 19 = .ok (.iload_n 2, 1) := by decide +kernel
theorem dX5_foundWithOneStill_20 : decode cX5_foundWithOneStill 20 = .ok (.iload_n 3, 1) := by decide +kernel
theorem dX5_foundWithOneStill_21 : decode cX5_foundWithOneStill 21 = .ok (.invokevirtual 175, 3) := by decide +kernel
theorem dX5_foundWithOneStill_24 : decode cX5_foundWithOneStill 24 = .ok (.pop, 1) := by decide +kernel
theorem dX5_foundWithOneStill_25 : decode cX5_foundWithOneStill 25 = .ok (.aload_n 0, 1) := by decide +kernel
theorem dX5_foundWithOneStill_26 : decode cX5_foundWithOneStill 26 = .ok (.getfield 16, 3) := by decide +kernel
theorem dX5_foundWithOneStill_29 : decode cX5_foundWithOneStill 29 = .ok (.iload_n 1, 1) := by decide +kernel
theorem dX5_foundWithOneStill_30 : decode cX5_foundWithOneStill 30 = .ok (.invokevirtual 183, 3) := by decide +kernel
theorem dX5_foundWithOneStill_33 : decode cX5_foundWithOneStill 33 = .ok (.ireturn, 1) := by decide +kernel
set_option maxRecDepth 20000 in
theorem dX5_foundWithRed_0 : decode cX5_foundWithRed 0 = .ok (.aload_n 0, 1) := by decide +kernel
theorem dX5_foundWithRed_1 : decode cX5_foundWithRed 1 = .ok (.getfield 10, 3) := by decide +kernel
theorem dX5_foundWithRed_4 : decode cX5_foundWithRed 4 = .ok (.iload_n 2, 1) := by decide +kernel
theorem dX5_foundWithRed_5 : decode cX5_foundWithRed 5 = .ok (.invokevirtual 136, 3) := by decide +kernel
theorem dX5_foundWithRed_8 : decode cX5_foundWithRed 8 = .ok (.ifCond .ne 14, 3) := by decide +kernel
theorem dX5_foundWithRed_11 : decode cX5_foundWithRed 11 = .ok (.aload_n 0, 1) := by decide +kernel
theorem dX5_foundWithRed_12 : decode cX5_foundWithRed 12 = .ok (.getfield 10, 3) := by decide +kernel
theorem dX5_foundWithRed_15 : decode cX5_foundWithRed 15 = .ok (.iload_n 2, 1) := by decide +kernel
theorem dX5_foundWithRed_16 : decode cX5_foundWithRed 16 = .ok (.invokevirtual 118, 3) := by decide +kernel
theorem dX5_foundWithRed_19 : decode cX5_foundWithRed 19 = .ok (.ifCond .eq 5, 3) := by decide +kernel
theorem dX5_foundWithRed_22 : decode cX5_foundWithRed 22 = .ok (.iconst (-1), 1) := by decide +kernel
theorem dX5_foundWithRed_23 : decode cX5_foundWithRed 23 = .ok (.ireturn, 1) := by decide +kernel
theorem dX5_foundWithRed_24 : decode cX5_foundWithRed 24 = .ok (.aload_n 0, 1) := by decide +kernel
theorem dX5_foundWithRed_25 : decode cX5_foundWithRed 25 = .ok (.getfield 19, 3) := by decide +kernel
theorem dX5_foundWithRed_28 : decode cX5_foundWithRed 28 = .ok (.aload_n 0, 1) := by decide +kernel
theorem dX5_foundWithRed_29 : decode cX5_foundWithRed 29 = .ok (.getfield 10, 3) := by decide +kernel
theorem dX5_foundWithRed_32 : decode cX5_foundWithRed 32 = .ok (.getfield 85, 3) := by decide +kernel
theorem dX5_foundWithRed_35 : decode cX5_foundWithRed 35 = .ok (.lconst 1, 1) := by decide +kernel
theorem dX5_foundWithRed_36 : decode cX5_foundWithRed 36 = .ok (.iload_n 2, 1) := by decide +kernel
theorem dX5_foundWithRed_37 : decode cX5_foundWithRed 37 = .ok (.lshl, 1) := by decide +kernel
theorem dX5_foundWithRed_38 : decode cX5_foundWithRed 38 = .ok (.lor, 1) := by decide +kernel
theorem dX5_foundWithRed_39 : decode cX5_foundWithRed 39 = .ok (.putfield 85, 3) := by decide +kernel
theorem dX5_foundWithRed_42 : decode cX5_foundWithRed 42 = .ok (.aload_n 0, 1) := by decide +kernel
theorem dX5_foundWithRed_43 : decode cX5_foundWithRed 43 = .ok (.getfield 19, 3) := by decide +kernel
theorem dX5_foundWithRed_46 : decode cX5_foundWithRed 46 = .ok (.iload_n 1, 1) := by decide +kernel
theorem dX5_foundWithRed_47 : decode cX5_foundWithRed 47 = .ok (.invokevirtual 183, 3) := by decide +kernel
theorem dX5_foundWithRed_50 : decode cX5_foundWithRed 50 = .ok (.ireturn, 1) := by decide +kernel
set_option maxRecDepth 20000 in
theorem dX5_foundWithHollow_0 : decode cX5_foundWithHollow 0 = .ok (.aload_n 0, 1) := by decide +kernel
theorem dX5_foundWithHollow_1 : decode cX5_foundWithHollow 1 = .ok (.getfield 10, 3) := by decide +kernel
theorem dX5_foundWithHollow_4 : decode cX5_foundWithHollow 4 = .ok (.iload_n 3, 1) := by decide +kernel
theorem dX5_foundWithHollow_5 : decode cX5_foundWithHollow 5 = .ok (.invokevirtual 118, 3) := by decide +kernel
theorem dX5_foundWithHollow_8 : decode cX5_foundWithHollow 8 = .ok (.ifCond .ne 14, 3) := by decide +kernel
theorem dX5_foundWithHollow_11 : decode cX5_foundWithHollow 11 = .ok (.aload_n 0, 1) := by decide +kernel
theorem dX5_foundWithHollow_12 : decode cX5_foundWithHollow 12 = .ok (.getfield 10, 3) := by decide +kernel
theorem dX5_foundWithHollow_15 : decode cX5_foundWithHollow 15 = .ok (.iload_n 3, 1) := by decide +kernel
theorem dX5_foundWithHollow_16 : decode cX5_foundWithHollow 16 = .ok (.invokevirtual 111, 3) := by decide +kernel
theorem dX5_foundWithHollow_19 : decode cX5_foundWithHollow 19 = .ok (.ifCond .eq 5, 3) := by decide +kernel
theorem dX5_foundWithHollow_22 : decode cX5_foundWithHollow 22 = .ok (.iconst (-1), 1) := by decide +kernel
theorem dX5_foundWithHollow_23 : decode cX5_foundWithHollow 23 = .ok (.ireturn, 1) := by decide +kernel
theorem dX5_foundWithHollow_24 : decode cX5_foundWithHollow 24 = .ok (.aload_n 0, 1) := by decide +kernel
theorem dX5_foundWithHollow_25 : decode cX5_foundWithHollow 25 = .ok (.getfield 16, 3) := by decide +kernel
theorem dX5_foundWithHollow_28 : decode cX5_foundWithHollow 28 = .ok (.aload_n 0, 1) := by decide +kernel
theorem dX5_foundWithHollow_29 : decode cX5_foundWithHollow 29 = .ok (.getfield 10, 3) := by decide +kernel
theorem dX5_foundWithHollow_32 : decode cX5_foundWithHollow 32 = .ok (.invokevirtual 179, 3) := by decide +kernel
theorem dX5_foundWithHollow_35 : decode cX5_foundWithHollow 35 = .ok (.aload_n 0, 1) := by decide +kernel
theorem dX5_foundWithHollow_36 : decode cX5_foundWithHollow 36 = .ok (.getfield 16, 3) := by decide +kernel
theorem dX5_foundWithHollow_39 : decode cX5_foundWithHollow 39 = .ok (.dup, 1) := by decide +kernel
theorem dX5_foundWithHollow_40 : decode cX5_foundWithHollow 40 = .ok (.getfield 91, 3) := by decide +kernel
theorem dX5_foundWithHollow_43 : decode cX5_foundWithHollow 43 = .ok (.lconst 1, 1) := by decide +kernel
theorem dX5_foundWithHollow_44 : decode cX5_foundWithHollow 44 = .ok (.iload_n 3, 1) := by decide +kernel
theorem dX5_foundWithHollow_45 : decode cX5_foundWithHollow 45 = .ok (.lshl, 1) := by decide +kernel
theorem dX5_foundWithHollow_46 : decode cX5_foundWithHollow 46 = .ok (.lor, 1) := by decide +kernel
theorem dX5_foundWithHollow_47 : decode cX5_foundWithHollow 47 = .ok (.putfield 91, 3) := by decide +kernel
theorem dX5_foundWithHollow_50 : decode cX5_foundWithHollow 50 = .ok (.aload_n 0, 1) := by decide +kernel
theorem dX5_foundWithHollow_51 : decode cX5_foundWithHollow 51 = .ok (.getfield 28, 3) := by decide +kernel
theorem dX5_foundWithHollow_54 : decode cX5_foundWithHollow 54 = .ok (.aload_n 0, 1) := by decide +kernel
theorem dX5_foundWithHollow_55 : decode cX5_foundWithHollow 55 = .ok (.getfield 16, 3) := by decide +kernel
theorem dX5_foundWithHollow_58 : decode cX5_foundWithHollow 58 = .ok (.iload_n 2, 1) := by decide +kernel
theorem dX5_foundWithHollow_59 : decode cX5_foundWithHollow 59 = .ok (.iconst (-1), 1) := by decide +kernel
theorem dX5_foundWithHollow_60 : decode cX5_foundWithHollow 60 = .ok (.invokevirtual 175, 3) := by decide +kernel
theorem dX5_foundWithHollow_63 : decode cX5_foundWithHollow 63 = .ok (.pop, 1) := by decide +kernel
theorem dX5_foundWithHollow_64 : decode cX5_foundWithHollow 64 = .ok (.aload_n 0, 1) := by decide +kernel
theorem dX5_foundWithHollow_65 : decode cX5_foundWithHollow 65 = .ok (.getfield 16, 3) := by decide +kernel
theorem dX5_foundWithHollow_68 : decode cX5_foundWithHollow 68 = .ok (.iload_n 1, 1) := by decide +kernel
theorem dX5_foundWithHollow_69 : decode cX5_foundWithHollow 69 = .ok (.invokevirtual 183, 3) := by decide +kernel
theorem dX5_foundWithHollow_72 : decode cX5_foundWithHollow 72 = .ok (.ireturn, 1) := by decide +kernel
set_option maxRecDepth 20000 in
theorem dX5_mean_0 : decode cX5_mean 0 = .ok (.iload_n 1, 1) := by decide +kernel
theorem dX5_mean_1 : decode cX5_mean 1 = .ok (.iconst 1, 1) := by decide +kernel
theorem dX5_mean_2 : decode cX5_mean 2 = .ok (.invokestatic 104, 3) := by decide +kernel
theorem dX5_mean_5 : decode cX5_mean 5 = .ok (.ifCond .eq 14, 3) := by decide +kernel
theorem dX5_mean_8 : decode cX5_mean 8 = .ok (.aload_n 0, 1) := by decide +kernel
theorem dX5_mean_9 : decode cX5_mean 9 = .ok (.getfield 10, 3) := by decide +kernel
theorem dX5_mean_12 : decode cX5_mean 12 = .ok (.getfield 124, 3) := by decide +kernel
theorem dX5_mean_15 : decode cX5_mean 15 = .ok (.iconst 1, 1) := by decide +kernel
theorem dX5_mean_16 : decode cX5_mean 16 = .ok (.if_icmp .ge 7, 3) := by decide +kernel
theorem dX5_mean_19 : decode cX5_mean 19 = .ok (.ldc2_w 160, 3) := by decide +kernel
theorem dX5_mean_22 : decode cX5_mean 22 = .ok (.lreturn, 1) := by decide +kernel
theorem dX5_mean_23 : decode cX5_mean 23 = .ok (.iconst 0, 1) := by decide +kernel
theorem dX5_mean_24 : decode cX5_mean 24 = .ok (.istore_n 2, 1) := by decide +kernel
theorem dX5_mean_25 : decode cX5_mean 25 = .ok (.iconst 0, 1) := by decide +kernel
theorem dX5_mean_26 : decode cX5_mean 26 = .ok (.istore_n 3, 1) := by decide +kernel
theorem dX5_mean_27 : decode cX5_mean 27 = .ok (.iload_n 3, 1) := by decide +kernel
theorem dX5_mean_28 : decode cX5_mean 28 = .ok (.aload_n 0, 1) := by decide +kernel
theorem dX5_mean_29 : decode cX5_mean 29 = .ok (.getfield 10, 3) := by decide +kernel
theorem dX5_mean_32 : decode cX5_mean 32 = .ok (.getfield 124, 3) := by decide +kernel
theorem dX5_mean_35 : decode cX5_mean 35 = .ok (.if_icmp .ge 21, 3) := by decide +kernel
theorem dX5_mean_38 : decode cX5_mean 38 = .ok (.iload_n 2, 1) := by decide +kernel
theorem dX5_mean_39 : decode cX5_mean 39 = .ok (.aload_n 0, 1) := by decide +kernel
theorem dX5_mean_40 : decode cX5_mean 40 = .ok (.getfield 10, 3) := by decide +kernel
theorem dX5_mean_43 : decode cX5_mean 43 = .ok (.getfield 101, 3) := by decide +kernel
theorem dX5_mean_46 : decode cX5_mean 46 = .ok (.iload_n 3, 1) := by decide +kernel
theorem dX5_mean_47 : decode cX5_mean 47 = .ok (.iaload, 1) := by decide +kernel
theorem dX5_mean_48 : decode cX5_mean 48 = .ok (.iadd, 1) := by decide +kernel
theorem dX5_mean_49 : decode cX5_mean 49 = .ok (.istore_n 2, 1) := by decide +kernel
theorem dX5_mean_50 : decode cX5_mean 50 = .ok (.iinc 3 1, 3) := by decide +kernel
theorem dX5_mean_53 : decode cX5_mean 53 = .ok (.goto (-26), 3) := by decide +kernel
theorem dX5_mean_56 : decode cX5_mean 56 = .ok (.iload_n 2, 1) := by decide +kernel
theorem dX5_mean_57 : decode cX5_mean 57 = .ok (.aload_n 0, 1) := by decide +kernel
theorem dX5_mean_58 : decode cX5_mean 58 = .ok (.getfield 10, 3) := by decide +kernel
theorem dX5_mean_61 : decode cX5_mean 61 = .ok (.getfield 124, 3) := by decide +kernel
theorem dX5_mean_64 : decode cX5_mean 64 = .ok (.iload_n 1, 1) := by decide +kernel
theorem dX5_mean_65 : decode cX5_mean 65 = .ok (.invokestatic 203, 3) := by decide +kernel
theorem dX5_mean_68 : decode cX5_mean 68 = .ok (.lreturn, 1) := by decide +kernel
set_option maxRecDepth 20000 in
theorem dX5_tells_0 : decode cX5_tells 0 = .ok (.aload_n 0, 1) := by decide +kernel
theorem dX5_tells_1 : decode cX5_tells 1 = .ok (.iload_n 1, 1) := by decide +kernel
theorem dX5_tells_2 : decode cX5_tells 2 = .ok (.invokevirtual 207, 3) := by decide +kernel
theorem dX5_tells_5 : decode cX5_tells 5 = .ok (.astore 4, 2) := by decide +kernel
theorem dX5_tells_7 : decode cX5_tells 7 = .ok (.aload 4, 2) := by decide +kernel
theorem dX5_tells_9 : decode cX5_tells 9 = .ok (.ifnull 20, 3) := by decide +kernel
theorem dX5_tells_12 : decode cX5_tells 12 = .ok (.aload_n 0, 1) := by decide +kernel
theorem dX5_tells_13 : decode cX5_tells 13 = .ok (.iload_n 2, 1) := by decide +kernel
theorem dX5_tells_14 : decode cX5_tells 14 = .ok (.invokevirtual 115, 3) := by decide +kernel
theorem dX5_tells_17 : decode cX5_tells 17 = .ok (.ifCond .eq 12, 3) := by decide +kernel
theorem dX5_tells_20 : decode cX5_tells 20 = .ok (.iload_n 3, 1) := by decide +kernel
theorem dX5_tells_21 : decode cX5_tells 21 = .ok (.bipush 6, 2) := by decide +kernel
theorem dX5_tells_23 : decode cX5_tells 23 = .ok (.invokestatic 104, 3) := by decide +kernel
theorem dX5_tells_26 : decode cX5_tells 26 = .ok (.ifCond .ne 6, 3) := by decide +kernel
theorem dX5_tells_29 : decode cX5_tells 29 = .ok (.bipush (-2), 2) := by decide +kernel
theorem dX5_tells_31 : decode cX5_tells 31 = .ok (.ireturn, 1) := by decide +kernel
theorem dX5_tells_32 : decode cX5_tells 32 = .ok (.aload 4, 2) := by decide +kernel
theorem dX5_tells_34 : decode cX5_tells 34 = .ok (.getfield 211, 3) := by decide +kernel
theorem dX5_tells_37 : decode cX5_tells 37 = .ok (.iconst (-1), 1) := by decide +kernel
theorem dX5_tells_38 : decode cX5_tells 38 = .ok (.if_icmp .ne 6, 3) := by decide +kernel
theorem dX5_tells_41 : decode cX5_tells 41 = .ok (.bipush (-11), 2) := by decide +kernel
theorem dX5_tells_43 : decode cX5_tells 43 = .ok (.ireturn, 1) := by decide +kernel
theorem dX5_tells_44 : decode cX5_tells 44 = .ok (.aload 4, 2) := by decide +kernel
theorem dX5_tells_46 : decode cX5_tells 46 = .ok (.getfield 214, 3) := by decide +kernel
theorem dX5_tells_49 : decode cX5_tells 49 = .ok (.bipush 20, 2) := by decide +kernel
theorem dX5_tells_51 : decode cX5_tells 51 = .ok (.if_icmp .le 6, 3) := by decide +kernel
theorem dX5_tells_54 : decode cX5_tells 54 = .ok (.bipush (-2), 2) := by decide +kernel
theorem dX5_tells_56 : decode cX5_tells 56 = .ok (.ireturn, 1) := by decide +kernel
theorem dX5_tells_57 : decode cX5_tells 57 = .ok (.iload_n 3, 1) := by decide +kernel
theorem dX5_tells_58 : decode cX5_tells 58 = .ok (.ifCond .ne 22, 3) := by decide +kernel
theorem dX5_tells_61 : decode cX5_tells 61 = .ok (.aload_n 0, 1) := by decide +kernel
theorem dX5_tells_62 : decode cX5_tells 62 = .ok (.getfield 16, 3) := by decide +kernel
theorem dX5_tells_65 : decode cX5_tells 65 = .ok (.aload_n 0, 1) := by decide +kernel
theorem dX5_tells_66 : decode cX5_tells 66 = .ok (.getfield 10, 3) := by decide +kernel
theorem dX5_tells_69 : decode cX5_tells 69 = .ok (.invokevirtual 179, 3) := by decide +kernel
theorem dX5_tells_72 : decode cX5_tells 72 = .ok (.aload_n 0, 1) := by decide +kernel
theorem dX5_tells_73 : decode cX5_tells 73 = .ok (.aload 4, 2) := by decide +kernel
theorem dX5_tells_75 : decode cX5_tells 75 = .ok (.iload_n 2, 1) := by decide +kernel
theorem dX5_tells_76 : decode cX5_tells 76 = .ok (.invokevirtual 215, 3) := by decide +kernel
theorem dX5_tells_79 : decode cX5_tells 79 = .ok (.ireturn, 1) := by decide +kernel
theorem dX5_tells_80 : decode cX5_tells 80 = .ok (.iload_n 3, 1) := by decide +kernel
theorem dX5_tells_81 : decode cX5_tells 81 = .ok (.iconst 3, 1) := by decide +kernel
theorem dX5_tells_82 : decode cX5_tells 82 = .ok (.if_icmp .eq 8, 3) := by decide +kernel
theorem dX5_tells_85 : decode cX5_tells 85 = .ok (.iload_n 3, 1) := by decide +kernel
theorem dX5_tells_86 : decode cX5_tells 86 = .ok (.iconst 4, 1) := by decide +kernel
theorem dX5_tells_87 : decode cX5_tells 87 = .ok (.if_icmp .ne 14, 3) := by decide +kernel
theorem dX5_tells_90 : decode cX5_tells 90 = .ok (.aload_n 0, 1) := by decide +kernel
theorem dX5_tells_91 : decode cX5_tells 91 = .ok (.aload 4, 2) := by decide +kernel
theorem dX5_tells_93 : decode cX5_tells 93 = .ok (.iload_n 2, 1) := by decide +kernel
theorem dX5_tells_94 : decode cX5_tells 94 = .ok (.iload_n 3, 1) := by decide +kernel
theorem dX5_tells_95 : decode cX5_tells 95 = .ok (.invokevirtual 219, 3) := by decide +kernel
theorem dX5_tells_98 : decode cX5_tells 98 = .ok (.goto 11, 3) := by decide +kernel
theorem dX5_tells_101 : decode cX5_tells 101 = .ok (.aload_n 0, 1) := by decide +kernel
theorem dX5_tells_102 : decode cX5_tells 102 = .ok (.aload 4, 2) := by decide +kernel
theorem dX5_tells_104 : decode cX5_tells 104 = .ok (.iload_n 2, 1) := by decide +kernel
theorem dX5_tells_105 : decode cX5_tells 105 = .ok (.iload_n 3, 1) := by decide +kernel
theorem dX5_tells_106 : decode cX5_tells 106 = .ok (.invokevirtual 223, 3) := by decide +kernel
theorem dX5_tells_109 : decode cX5_tells 109 = .ok (.ireturn, 1) := by decide +kernel
set_option maxRecDepth 20000 in
theorem dX5_wearyTold_0 : decode cX5_wearyTold 0 = .ok (.iconst 0, 1) := by decide +kernel
theorem dX5_wearyTold_1 : decode cX5_wearyTold 1 = .ok (.istore 4, 2) := by decide +kernel
theorem dX5_wearyTold_3 : decode cX5_wearyTold 3 = .ok (.iconst (-1), 1) := by decide +kernel
theorem dX5_wearyTold_4 : decode cX5_wearyTold 4 = .ok (.istore 5, 2) := by decide +kernel
theorem dX5_wearyTold_6 : decode cX5_wearyTold 6 = .ok (.iconst 0, 1) := by decide +kernel
theorem dX5_wearyTold_7 : decode cX5_wearyTold 7 = .ok (.istore 6, 2) := by decide +kernel
theorem dX5_wearyTold_9 : decode cX5_wearyTold 9 = .ok (.iload 6, 2) := by decide +kernel
theorem dX5_wearyTold_11 : decode cX5_wearyTold 11 = .ok (.bipush 99, 2) := by decide +kernel
theorem dX5_wearyTold_13 : decode cX5_wearyTold 13 = .ok (.if_icmp .gt 59, 3) := by decide +kernel
theorem dX5_wearyTold_16 : decode cX5_wearyTold 16 = .ok (.aload_n 0, 1) := by decide +kernel
theorem dX5_wearyTold_17 : decode cX5_wearyTold 17 = .ok (.getfield 16, 3) := by decide +kernel
theorem dX5_wearyTold_20 : decode cX5_wearyTold 20 = .ok (.aload_n 0, 1) := by decide +kernel
theorem dX5_wearyTold_21 : decode cX5_wearyTold 21 = .ok (.getfield 10, 3) := by decide +kernel
theorem dX5_wearyTold_24 : decode cX5_wearyTold 24 = .ok (.invokevirtual 179, 3) := by decide +kernel
theorem dX5_wearyTold_27 : decode cX5_wearyTold 27 = .ok (.aload_n 0, 1) := by decide +kernel
theorem dX5_wearyTold_28 : decode cX5_wearyTold 28 = .ok (.getfield 16, 3) := by decide +kernel
theorem dX5_wearyTold_31 : decode cX5_wearyTold 31 = .ok (.getfield 101, 3) := by decide +kernel
theorem dX5_wearyTold_34 : decode cX5_wearyTold 34 = .ok (.iload_n 2, 1) := by decide +kernel
theorem dX5_wearyTold_35 : decode cX5_wearyTold 35 = .ok (.iload 6, 2) := by decide +kernel
theorem dX5_wearyTold_37 : decode cX5_wearyTold 37 = .ok (.iastore, 1) := by decide +kernel
theorem dX5_wearyTold_38 : decode cX5_wearyTold 38 = .ok (.aload_n 0, 1) := by decide +kernel
theorem dX5_wearyTold_39 : decode cX5_wearyTold 39 = .ok (.aload_n 1, 1) := by decide +kernel
theorem dX5_wearyTold_40 : decode cX5_wearyTold 40 = .ok (.iload_n 2, 1) := by decide +kernel
theorem dX5_wearyTold_41 : decode cX5_wearyTold 41 = .ok (.invokevirtual 215, 3) := by decide +kernel
theorem dX5_wearyTold_44 : decode cX5_wearyTold 44 = .ok (.iconst (-1), 1) := by decide +kernel
theorem dX5_wearyTold_45 : decode cX5_wearyTold 45 = .ok (.if_icmp .ne 21, 3) := by decide +kernel
theorem dX5_wearyTold_48 : decode cX5_wearyTold 48 = .ok (.iinc 4 1, 3) := by decide +kernel
theorem dX5_wearyTold_51 : decode cX5_wearyTold 51 = .ok (.iload 5, 2) := by decide +kernel
theorem dX5_wearyTold_53 : decode cX5_wearyTold 53 = .ok (.iconst (-1), 1) := by decide +kernel
theorem dX5_wearyTold_54 : decode cX5_wearyTold 54 = .ok (.if_icmp .ne 8, 3) := by decide +kernel
theorem dX5_wearyTold_57 : decode cX5_wearyTold 57 = .ok (.iload 6, 2) := by decide +kernel
theorem dX5_wearyTold_59 : decode cX5_wearyTold 59 = .ok (.goto 5, 3) := by decide +kernel
theorem dX5_wearyTold_62 : decode cX5_wearyTold 62 = .ok (.iload 5, 2) := by decide +kernel
theorem dX5_wearyTold_64 : decode cX5_wearyTold 64 = .ok (.istore 5, 2) := by decide +kernel
theorem dX5_wearyTold_66 : decode cX5_wearyTold 66 = .ok (.iinc 6 1, 3) := by decide +kernel
theorem dX5_wearyTold_69 : decode cX5_wearyTold 69 = .ok (.goto (-60), 3) := by decide +kernel
theorem dX5_wearyTold_72 : decode cX5_wearyTold 72 = .ok (.iload_n 3, 1) := by decide +kernel
theorem dX5_wearyTold_73 : decode cX5_wearyTold 73 = .ok (.iconst 3, 1) := by decide +kernel
theorem dX5_wearyTold_74 : decode cX5_wearyTold 74 = .ok (.if_icmp .ne 8, 3) := by decide +kernel
theorem dX5_wearyTold_77 : decode cX5_wearyTold 77 = .ok (.iload 4, 2) := by decide +kernel
theorem dX5_wearyTold_79 : decode cX5_wearyTold 79 = .ok (.goto 5, 3) := by decide +kernel
theorem dX5_wearyTold_82 : decode cX5_wearyTold 82 = .ok (.iload 5, 2) := by decide +kernel
theorem dX5_wearyTold_84 : decode cX5_wearyTold 84 = .ok (.ireturn, 1) := by decide +kernel
set_option maxRecDepth 20000 in
theorem dX5_bitsTold_0 : decode cX5_bitsTold 0 = .ok (.iconst 0, 1) := by decide +kernel
theorem dX5_bitsTold_1 : decode cX5_bitsTold 1 = .ok (.istore 4, 2) := by decide +kernel
theorem dX5_bitsTold_3 : decode cX5_bitsTold 3 = .ok (.iload_n 3, 1) := by decide +kernel
theorem dX5_bitsTold_4 : decode cX5_bitsTold 4 = .ok (.iconst 1, 1) := by decide +kernel
theorem dX5_bitsTold_5 : decode cX5_bitsTold 5 = .ok (.if_icmp .ne 8, 3) := by decide +kernel
theorem dX5_bitsTold_8 : decode cX5_bitsTold 8 = .ok (.bipush 6, 2) := by decide +kernel
theorem dX5_bitsTold_10 : decode cX5_bitsTold 10 = .ok (.goto 35, 3) := by decide +kernel
theorem dX5_bitsTold_13 : decode cX5_bitsTold 13 = .ok (.iload_n 3, 1) := by decide +kernel
theorem dX5_bitsTold_14 : decode cX5_bitsTold 14 = .ok (.iconst 2, 1) := by decide +kernel
theorem dX5_bitsTold_15 : decode cX5_bitsTold 15 = .ok (.if_icmp .ne 8, 3) := by decide +kernel
theorem dX5_bitsTold_18 : decode cX5_bitsTold 18 = .ok (.bipush 10, 2) := by decide +kernel
theorem dX5_bitsTold_20 : decode cX5_bitsTold 20 = .ok (.goto 25, 3) := by decide +kernel
theorem dX5_bitsTold_23 : decode cX5_bitsTold 23 = .ok (.iload_n 3, 1) := by decide +kernel
theorem dX5_bitsTold_24 : decode cX5_bitsTold 24 = .ok (.iconst 5, 1) := by decide +kernel
theorem dX5_bitsTold_25 : decode cX5_bitsTold 25 = .ok (.if_icmp .ne 13, 3) := by decide +kernel
theorem dX5_bitsTold_28 : decode cX5_bitsTold 28 = .ok (.aload_n 0, 1) := by decide +kernel
theorem dX5_bitsTold_29 : decode cX5_bitsTold 29 = .ok (.getfield 28, 3) := by decide +kernel
theorem dX5_bitsTold_32 : decode cX5_bitsTold 32 = .ok (.getfield 165, 3) := by decide +kernel
theorem dX5_bitsTold_35 : decode cX5_bitsTold 35 = .ok (.goto 10, 3) := by decide +kernel
theorem dX5_bitsTold_38 : decode cX5_bitsTold 38 = .ok (.aload_n 0, 1) := by decide +kernel
theorem dX5_bitsTold_39 : decode cX5_bitsTold 39 = .ok (.getfield 10, 3) := by decide +kernel
theorem dX5_bitsTold_42 : decode cX5_bitsTold 42 = .ok (.getfield 124, 3) := by decide +kernel
theorem dX5_bitsTold_45 : decode cX5_bitsTold 45 = .ok (.istore 5, 2) := by decide +kernel
theorem dX5_bitsTold_47 : decode cX5_bitsTold 47 = .ok (.iconst 0, 1) := by decide +kernel
theorem dX5_bitsTold_48 : decode cX5_bitsTold 48 = .ok (.istore 6, 2) := by decide +kernel
theorem dX5_bitsTold_50 : decode cX5_bitsTold 50 = .ok (.iload 6, 2) := by decide +kernel
theorem dX5_bitsTold_52 : decode cX5_bitsTold 52 = .ok (.iload 5, 2) := by decide +kernel
theorem dX5_bitsTold_54 : decode cX5_bitsTold 54 = .ok (.if_icmp .ge 102, 3) := by decide +kernel
theorem dX5_bitsTold_57 : decode cX5_bitsTold 57 = .ok (.aload_n 0, 1) := by decide +kernel
theorem dX5_bitsTold_58 : decode cX5_bitsTold 58 = .ok (.getfield 16, 3) := by decide +kernel
theorem dX5_bitsTold_61 : decode cX5_bitsTold 61 = .ok (.aload_n 0, 1) := by decide +kernel
theorem dX5_bitsTold_62 : decode cX5_bitsTold 62 = .ok (.getfield 10, 3) := by decide +kernel
theorem dX5_bitsTold_65 : decode cX5_bitsTold 65 = .ok (.invokevirtual 179, 3) := by decide +kernel
theorem dX5_bitsTold_68 : decode cX5_bitsTold 68 = .ok (.iload_n 3, 1) := by decide +kernel
theorem dX5_bitsTold_69 : decode cX5_bitsTold 69 = .ok (.iconst 1, 1) := by decide +kernel
theorem dX5_bitsTold_70 : decode cX5_bitsTold 70 = .ok (.if_icmp .ne 17, 3) := by decide +kernel
theorem dX5_bitsTold_73 : decode cX5_bitsTold 73 = .ok (.aload_n 0, 1) := by decide +kernel
theorem dX5_bitsTold_74 : decode cX5_bitsTold 74 = .ok (.getfield 16, 3) := by decide +kernel
theorem dX5_bitsTold_77 : decode cX5_bitsTold 77 = .ok (.getfield 127, 3) := by decide +kernel
theorem dX5_bitsTold_80 : decode cX5_bitsTold 80 = .ok (.iload_n 2, 1) := by decide +kernel
theorem dX5_bitsTold_81 : decode cX5_bitsTold 81 = .ok (.iload 6, 2) := by decide +kernel
theorem dX5_bitsTold_83 : decode cX5_bitsTold 83 = .ok (.iastore, 1) := by decide +kernel
theorem dX5_bitsTold_84 : decode cX5_bitsTold 84 = .ok (.goto 36, 3) := by decide +kernel
theorem dX5_bitsTold_87 : decode cX5_bitsTold 87 = .ok (.iload_n 3, 1) := by decide +kernel
theorem dX5_bitsTold_88 : decode cX5_bitsTold 88 = .ok (.iconst 2, 1) := by decide +kernel
theorem dX5_bitsTold_89 : decode cX5_bitsTold 89 = .ok (.if_icmp .ne 17, 3) := by decide +kernel
theorem dX5_bitsTold_92 : decode cX5_bitsTold 92 = .ok (.aload_n 0, 1) := by decide +kernel
theorem dX5_bitsTold_93 : decode cX5_bitsTold 93 = .ok (.getfield 16, 3) := by decide +kernel
theorem dX5_bitsTold_96 : decode cX5_bitsTold 96 = .ok (.getfield 94, 3) := by decide +kernel
theorem dX5_bitsTold_99 : decode cX5_bitsTold 99 = .ok (.iload_n 2, 1) := by decide +kernel
theorem dX5_bitsTold_100 : decode cX5_bitsTold 100 = .ok (.iload 6, 2) := by decide +kernel
theorem dX5_bitsTold_102 : decode cX5_bitsTold 102 = .ok (.iastore, 1) := by decide +kernel
theorem dX5_bitsTold_103 : decode cX5_bitsTold 103 = .ok (.goto 17, 3) := by decide +kernel
theorem dX5_bitsTold_106 : decode cX5_bitsTold 106 = .ok (.iload_n 3, 1) := by decide +kernel
theorem dX5_bitsTold_107 : decode cX5_bitsTold 107 = .ok (.iconst 5, 1) := by decide +kernel
theorem dX5_bitsTold_108 : decode cX5_bitsTold 108 = .ok (.if_icmp .ne 12, 3) := by decide +kernel
theorem dX5_bitsTold_111 : decode cX5_bitsTold 111 = .ok (.aload_n 0, 1) := by decide +kernel
theorem dX5_bitsTold_112 : decode cX5_bitsTold 112 = .ok (.getfield 16, 3) := by decide +kernel
theorem dX5_bitsTold_115 : decode cX5_bitsTold 115 = .ok (.iload 6, 2) := by decide +kernel
theorem dX5_bitsTold_117 : decode cX5_bitsTold 117 = .ok (.putfield 172, 3) := by decide +kernel
theorem dX5_bitsTold_120 : decode cX5_bitsTold 120 = .ok (.aload_n 0, 1) := by decide +kernel
theorem dX5_bitsTold_121 : decode cX5_bitsTold 121 = .ok (.aload_n 1, 1) := by decide +kernel
theorem dX5_bitsTold_122 : decode cX5_bitsTold 122 = .ok (.iload_n 3, 1) := by decide +kernel
theorem dX5_bitsTold_123 : decode cX5_bitsTold 123 = .ok (.bipush 6, 2) := by decide +kernel
theorem dX5_bitsTold_125 : decode cX5_bitsTold 125 = .ok (.if_icmp .ne 8, 3) := by decide +kernel
theorem dX5_bitsTold_128 : decode cX5_bitsTold 128 = .ok (.iload 6, 2) := by decide +kernel
theorem dX5_bitsTold_130 : decode cX5_bitsTold 130 = .ok (.goto 4, 3) := by decide +kernel
theorem dX5_bitsTold_133 : decode cX5_bitsTold 133 = .ok (.iload_n 2, 1) := by decide +kernel
theorem dX5_bitsTold_134 : decode cX5_bitsTold 134 = .ok (.invokevirtual 215, 3) := by decide +kernel
theorem dX5_bitsTold_137 : decode cX5_bitsTold 137 = .ok (.iconst (-1), 1) := by decide +kernel
theorem dX5_bitsTold_138 : decode cX5_bitsTold 138 = .ok (.if_icmp .ne 12, 3) := by decide +kernel
theorem dX5_bitsTold_141 : decode cX5_bitsTold 141 = .ok (.iload 4, 2) := by decide +kernel
theorem dX5_bitsTold_143 : decode cX5_bitsTold 143 = .ok (.iconst 1, 1) := by decide +kernel
theorem dX5_bitsTold_144 : decode cX5_bitsTold 144 = .ok (.iload 6, 2) := by decide +kernel
theorem dX5_bitsTold_146 : decode cX5_bitsTold 146 = .ok (.ishl, 1) := by decide +kernel
theorem dX5_bitsTold_147 : decode cX5_bitsTold 147 = .ok (.ior, 1) := by decide +kernel
theorem dX5_bitsTold_148 : decode cX5_bitsTold 148 = .ok (.istore 4, 2) := by decide +kernel
theorem dX5_bitsTold_150 : decode cX5_bitsTold 150 = .ok (.iinc 6 1, 3) := by decide +kernel
theorem dX5_bitsTold_153 : decode cX5_bitsTold 153 = .ok (.goto (-103), 3) := by decide +kernel
theorem dX5_bitsTold_156 : decode cX5_bitsTold 156 = .ok (.iload 4, 2) := by decide +kernel
theorem dX5_bitsTold_158 : decode cX5_bitsTold 158 = .ok (.ireturn, 1) := by decide +kernel
set_option maxRecDepth 20000 in
theorem dX5_firstOtherwise_0 : decode cX5_firstOtherwise 0 = .ok (.iconst 0, 1) := by decide +kernel
theorem dX5_firstOtherwise_1 : decode cX5_firstOtherwise 1 = .ok (.istore_n 3, 1) := by decide +kernel
theorem dX5_firstOtherwise_2 : decode cX5_firstOtherwise 2 = .ok (.iload_n 3, 1) := by decide +kernel
theorem dX5_firstOtherwise_3 : decode cX5_firstOtherwise 3 = .ok (.aload_n 1, 1) := by decide +kernel
theorem dX5_firstOtherwise_4 : decode cX5_firstOtherwise 4 = .ok (.getfield 214, 3) := by decide +kernel
theorem dX5_firstOtherwise_7 : decode cX5_firstOtherwise 7 = .ok (.if_icmp .ge 56, 3) := by decide +kernel
theorem dX5_firstOtherwise_10 : decode cX5_firstOtherwise 10 = .ok (.aload_n 0, 1) := by decide +kernel
theorem dX5_firstOtherwise_11 : decode cX5_firstOtherwise 11 = .ok (.getfield 28, 3) := by decide +kernel
theorem dX5_firstOtherwise_14 : decode cX5_firstOtherwise 14 = .ok (.aload_n 0, 1) := by decide +kernel
theorem dX5_firstOtherwise_15 : decode cX5_firstOtherwise 15 = .ok (.getfield 16, 3) := by decide +kernel
theorem dX5_firstOtherwise_18 : decode cX5_firstOtherwise 18 = .ok (.iload_n 2, 1) := by decide +kernel
theorem dX5_firstOtherwise_19 : decode cX5_firstOtherwise 19 = .ok (.iconst 0, 1) := by decide +kernel
theorem dX5_firstOtherwise_20 : decode cX5_firstOtherwise 20 = .ok (.invokevirtual 226, 3) := by decide +kernel
theorem dX5_firstOtherwise_23 : decode cX5_firstOtherwise 23 = .ok (.pop, 1) := by decide +kernel
theorem dX5_firstOtherwise_24 : decode cX5_firstOtherwise 24 = .ok (.aload_n 0, 1) := by decide +kernel
theorem dX5_firstOtherwise_25 : decode cX5_firstOtherwise 25 = .ok (.getfield 16, 3) := by decide +kernel
theorem dX5_firstOtherwise_28 : decode cX5_firstOtherwise 28 = .ok (.dup, 1) := by decide +kernel
theorem dX5_firstOtherwise_29 : decode cX5_firstOtherwise 29 = .ok (.getfield 81, 3) := by decide +kernel
theorem dX5_firstOtherwise_32 : decode cX5_firstOtherwise 32 = .ok (.iconst 1, 1) := by decide +kernel
theorem dX5_firstOtherwise_33 : decode cX5_firstOtherwise 33 = .ok (.iadd, 1) := by decide +kernel
theorem dX5_firstOtherwise_34 : decode cX5_firstOtherwise 34 = .ok (.putfield 81, 3) := by decide +kernel
theorem dX5_firstOtherwise_37 : decode cX5_firstOtherwise 37 = .ok (.aload_n 1, 1) := by decide +kernel
theorem dX5_firstOtherwise_38 : decode cX5_firstOtherwise 38 = .ok (.getfield 230, 3) := by decide +kernel
theorem dX5_firstOtherwise_41 : decode cX5_firstOtherwise 41 = .ok (.iload_n 3, 1) := by decide +kernel
theorem dX5_firstOtherwise_42 : decode cX5_firstOtherwise 42 = .ok (.iaload, 1) := by decide +kernel
theorem dX5_firstOtherwise_43 : decode cX5_firstOtherwise 43 = .ok (.aload_n 0, 1) := by decide +kernel
theorem dX5_firstOtherwise_44 : decode cX5_firstOtherwise 44 = .ok (.getfield 16, 3) := by decide +kernel
theorem dX5_firstOtherwise_47 : decode cX5_firstOtherwise 47 = .ok (.getfield 98, 3) := by decide +kernel
theorem dX5_firstOtherwise_50 : decode cX5_firstOtherwise 50 = .ok (.iload_n 2, 1) := by decide +kernel
theorem dX5_firstOtherwise_51 : decode cX5_firstOtherwise 51 = .ok (.iaload, 1) := by decide +kernel
theorem dX5_firstOtherwise_52 : decode cX5_firstOtherwise 52 = .ok (.if_icmp .eq 5, 3) := by decide +kernel
theorem dX5_firstOtherwise_55 : decode cX5_firstOtherwise 55 = .ok (.iload_n 3, 1) := by decide +kernel
theorem dX5_firstOtherwise_56 : decode cX5_firstOtherwise 56 = .ok (.ireturn, 1) := by decide +kernel
theorem dX5_firstOtherwise_57 : decode cX5_firstOtherwise 57 = .ok (.iinc 3 1, 3) := by decide +kernel
theorem dX5_firstOtherwise_60 : decode cX5_firstOtherwise 60 = .ok (.goto (-58), 3) := by decide +kernel
theorem dX5_firstOtherwise_63 : decode cX5_firstOtherwise 63 = .ok (.iconst (-1), 1) := by decide +kernel
theorem dX5_firstOtherwise_64 : decode cX5_firstOtherwise 64 = .ok (.ireturn, 1) := by decide +kernel
set_option maxRecDepth 20000 in
theorem dX5_stood_0 : decode cX5_stood 0 = .ok (.aload_n 0, 1) := by decide +kernel
theorem dX5_stood_1 : decode cX5_stood 1 = .ok (.iload_n 1, 1) := by decide +kernel
theorem dX5_stood_2 : decode cX5_stood 2 = .ok (.invokevirtual 207, 3) := by decide +kernel
theorem dX5_stood_5 : decode cX5_stood 5 = .ok (.astore_n 3, 1) := by decide +kernel
theorem dX5_stood_6 : decode cX5_stood 6 = .ok (.aload_n 3, 1) := by decide +kernel
theorem dX5_stood_7 : decode cX5_stood 7 = .ok (.ifnull 28, 3) := by decide +kernel
theorem dX5_stood_10 : decode cX5_stood 10 = .ok (.aload_n 0, 1) := by decide +kernel
theorem dX5_stood_11 : decode cX5_stood 11 = .ok (.iload_n 2, 1) := by decide +kernel
theorem dX5_stood_12 : decode cX5_stood 12 = .ok (.invokevirtual 115, 3) := by decide +kernel
theorem dX5_stood_15 : decode cX5_stood 15 = .ok (.ifCond .eq 20, 3) := by decide +kernel
theorem dX5_stood_18 : decode cX5_stood 18 = .ok (.aload_n 3, 1) := by decide +kernel
theorem dX5_stood_19 : decode cX5_stood 19 = .ok (.getfield 211, 3) := by decide +kernel
theorem dX5_stood_22 : decode cX5_stood 22 = .ok (.iconst (-1), 1) := by decide +kernel
theorem dX5_stood_23 : decode cX5_stood 23 = .ok (.if_icmp .eq 12, 3) := by decide +kernel
theorem dX5_stood_26 : decode cX5_stood 26 = .ok (.aload_n 3, 1) := by decide +kernel
theorem dX5_stood_27 : decode cX5_stood 27 = .ok (.getfield 214, 3) := by decide +kernel
theorem dX5_stood_30 : decode cX5_stood 30 = .ok (.bipush 20, 2) := by decide +kernel
theorem dX5_stood_32 : decode cX5_stood 32 = .ok (.if_icmp .le 7, 3) := by decide +kernel
theorem dX5_stood_35 : decode cX5_stood 35 = .ok (.ldc2_w 160, 3) := by decide +kernel
theorem dX5_stood_38 : decode cX5_stood 38 = .ok (.lreturn, 1) := by decide +kernel
theorem dX5_stood_39 : decode cX5_stood 39 = .ok (.lconst 0, 1) := by decide +kernel
theorem dX5_stood_40 : decode cX5_stood 40 = .ok (.lstore 4, 2) := by decide +kernel
theorem dX5_stood_42 : decode cX5_stood 42 = .ok (.iconst 0, 1) := by decide +kernel
theorem dX5_stood_43 : decode cX5_stood 43 = .ok (.istore 6, 2) := by decide +kernel
theorem dX5_stood_45 : decode cX5_stood 45 = .ok (.iload 6, 2) := by decide +kernel
theorem dX5_stood_47 : decode cX5_stood 47 = .ok (.bipush 64, 2) := by decide +kernel
theorem dX5_stood_49 : decode cX5_stood 49 = .ok (.if_icmp .ge 62, 3) := by decide +kernel
theorem dX5_stood_52 : decode cX5_stood 52 = .ok (.aload_n 0, 1) := by decide +kernel
theorem dX5_stood_53 : decode cX5_stood 53 = .ok (.getfield 16, 3) := by decide +kernel
theorem dX5_stood_56 : decode cX5_stood 56 = .ok (.aload_n 0, 1) := by decide +kernel
theorem dX5_stood_57 : decode cX5_stood 57 = .ok (.getfield 10, 3) := by decide +kernel
theorem dX5_stood_60 : decode cX5_stood 60 = .ok (.invokevirtual 179, 3) := by decide +kernel
theorem dX5_stood_63 : decode cX5_stood 63 = .ok (.aload_n 0, 1) := by decide +kernel
theorem dX5_stood_64 : decode cX5_stood 64 = .ok (.getfield 16, 3) := by decide +kernel
theorem dX5_stood_67 : decode cX5_stood 67 = .ok (.getfield 98, 3) := by decide +kernel
theorem dX5_stood_70 : decode cX5_stood 70 = .ok (.iload_n 2, 1) := by decide +kernel
theorem dX5_stood_71 : decode cX5_stood 71 = .ok (.iload 6, 2) := by decide +kernel
theorem dX5_stood_73 : decode cX5_stood 73 = .ok (.iastore, 1) := by decide +kernel
theorem dX5_stood_74 : decode cX5_stood 74 = .ok (.aload_n 0, 1) := by decide +kernel
theorem dX5_stood_75 : decode cX5_stood 75 = .ok (.getfield 10, 3) := by decide +kernel
theorem dX5_stood_78 : decode cX5_stood 78 = .ok (.iload 6, 2) := by decide +kernel
theorem dX5_stood_80 : decode cX5_stood 80 = .ok (.invokevirtual 118, 3) := by decide +kernel
theorem dX5_stood_83 : decode cX5_stood 83 = .ok (.ifCond .ne 22, 3) := by decide +kernel
theorem dX5_stood_86 : decode cX5_stood 86 = .ok (.aload_n 0, 1) := by decide +kernel
theorem dX5_stood_87 : decode cX5_stood 87 = .ok (.aload_n 3, 1) := by decide +kernel
theorem dX5_stood_88 : decode cX5_stood 88 = .ok (.iload_n 2, 1) := by decide +kernel
theorem dX5_stood_89 : decode cX5_stood 89 = .ok (.invokevirtual 215, 3) := by decide +kernel
theorem dX5_stood_92 : decode cX5_stood 92 = .ok (.iconst (-1), 1) := by decide +kernel
theorem dX5_stood_93 : decode cX5_stood 93 = .ok (.if_icmp .ne 12, 3) := by decide +kernel
theorem dX5_stood_96 : decode cX5_stood 96 = .ok (.lload 4, 2) := by decide +kernel
theorem dX5_stood_98 : decode cX5_stood 98 = .ok (.lconst 1, 1) := by decide +kernel
theorem dX5_stood_99 : decode cX5_stood 99 = .ok (.iload 6, 2) := by decide +kernel
theorem dX5_stood_101 : decode cX5_stood 101 = .ok (.lshl, 1) := by decide +kernel
theorem dX5_stood_102 : decode cX5_stood 102 = .ok (.lor, 1) := by decide +kernel
theorem dX5_stood_103 : decode cX5_stood 103 = .ok (.lstore 4, 2) := by decide +kernel
theorem dX5_stood_105 : decode cX5_stood 105 = .ok (.iinc 6 1, 3) := by decide +kernel
theorem dX5_stood_108 : decode cX5_stood 108 = .ok (.goto (-63), 3) := by decide +kernel
theorem dX5_stood_111 : decode cX5_stood 111 = .ok (.lload 4, 2) := by decide +kernel
theorem dX5_stood_113 : decode cX5_stood 113 = .ok (.lreturn, 1) := by decide +kernel
set_option maxRecDepth 20000 in
theorem dX5_film_0 : decode cX5_film 0 = .ok (.aload_n 0, 1) := by decide +kernel
theorem dX5_film_1 : decode cX5_film 1 = .ok (.iload_n 1, 1) := by decide +kernel
theorem dX5_film_2 : decode cX5_film 2 = .ok (.invokevirtual 207, 3) := by decide +kernel
theorem dX5_film_5 : decode cX5_film 5 = .ok (.astore 4, 2) := by decide +kernel
theorem dX5_film_7 : decode cX5_film 7 = .ok (.aload 4, 2) := by decide +kernel
theorem dX5_film_9 : decode cX5_film 9 = .ok (.ifnull 20, 3) := by decide +kernel
theorem dX5_film_12 : decode cX5_film 12 = .ok (.aload_n 0, 1) := by decide +kernel
theorem dX5_film_13 : decode cX5_film 13 = .ok (.iload_n 2, 1) := by decide +kernel
theorem dX5_film_14 : decode cX5_film 14 = .ok (.invokevirtual 115, 3) := by decide +kernel
theorem dX5_film_17 : decode cX5_film 17 = .ok (.ifCond .eq 12, 3) := by decide +kernel
theorem dX5_film_20 : decode cX5_film 20 = .ok (.iload_n 3, 1) := by decide +kernel
theorem dX5_film_21 : decode cX5_film 21 = .ok (.bipush 20, 2) := by decide +kernel
theorem dX5_film_23 : decode cX5_film 23 = .ok (.invokestatic 104, 3) := by decide +kernel
theorem dX5_film_26 : decode cX5_film 26 = .ok (.ifCond .ne 6, 3) := by decide +kernel
theorem dX5_film_29 : decode cX5_film 29 = .ok (.bipush (-2), 2) := by decide +kernel
theorem dX5_film_31 : decode cX5_film 31 = .ok (.ireturn, 1) := by decide +kernel
theorem dX5_film_32 : decode cX5_film 32 = .ok (.aload 4, 2) := by decide +kernel
theorem dX5_film_34 : decode cX5_film 34 = .ok (.iconst 0, 1) := by decide +kernel
theorem dX5_film_35 : decode cX5_film 35 = .ok (.iload_n 3, 1) := by decide +kernel
theorem dX5_film_36 : decode cX5_film 36 = .ok (.invokevirtual 233, 3) := by decide +kernel
theorem dX5_film_39 : decode cX5_film 39 = .ok (.aload_n 0, 1) := by decide +kernel
theorem dX5_film_40 : decode cX5_film 40 = .ok (.getfield 16, 3) := by decide +kernel
theorem dX5_film_43 : decode cX5_film 43 = .ok (.aload_n 0, 1) := by decide +kernel
theorem dX5_film_44 : decode cX5_film 44 = .ok (.getfield 10, 3) := by decide +kernel
theorem dX5_film_47 : decode cX5_film 47 = .ok (.invokevirtual 179, 3) := by decide +kernel
theorem dX5_film_50 : decode cX5_film 50 = .ok (.iconst 0, 1) := by decide +kernel
theorem dX5_film_51 : decode cX5_film 51 = .ok (.istore 5, 2) := by decide +kernel
theorem dX5_film_53 : decode cX5_film 53 = .ok (.iload 5, 2) := by decide +kernel
theorem dX5_film_55 : decode cX5_film 55 = .ok (.iload_n 3, 1) := by decide +kernel
theorem dX5_film_56 : decode cX5_film 56 = .ok (.if_icmp .ge 53, 3) := by decide +kernel
theorem dX5_film_59 : decode cX5_film 59 = .ok (.aload_n 0, 1) := by decide +kernel
theorem dX5_film_60 : decode cX5_film 60 = .ok (.getfield 28, 3) := by decide +kernel
theorem dX5_film_63 : decode cX5_film 63 = .ok (.aload_n 0, 1) := by decide +kernel
theorem dX5_film_64 : decode cX5_film 64 = .ok (.getfield 16, 3) := by decide +kernel
theorem dX5_film_67 : decode cX5_film 67 = .ok (.iload_n 2, 1) := by decide +kernel
theorem dX5_film_68 : decode cX5_film 68 = .ok (.iconst 0, 1) := by decide +kernel
theorem dX5_film_69 : decode cX5_film 69 = .ok (.invokevirtual 226, 3) := by decide +kernel
theorem dX5_film_72 : decode cX5_film 72 = .ok (.pop, 1) := by decide +kernel
theorem dX5_film_73 : decode cX5_film 73 = .ok (.aload_n 0, 1) := by decide +kernel
theorem dX5_film_74 : decode cX5_film 74 = .ok (.getfield 16, 3) := by decide +kernel
theorem dX5_film_77 : decode cX5_film 77 = .ok (.dup, 1) := by decide +kernel
theorem dX5_film_78 : decode cX5_film 78 = .ok (.getfield 81, 3) := by decide +kernel
theorem dX5_film_81 : decode cX5_film 81 = .ok (.iconst 1, 1) := by decide +kernel
theorem dX5_film_82 : decode cX5_film 82 = .ok (.iadd, 1) := by decide +kernel
theorem dX5_film_83 : decode cX5_film 83 = .ok (.putfield 81, 3) := by decide +kernel
theorem dX5_film_86 : decode cX5_film 86 = .ok (.aload 4, 2) := by decide +kernel
theorem dX5_film_88 : decode cX5_film 88 = .ok (.iload 5, 2) := by decide +kernel
theorem dX5_film_90 : decode cX5_film 90 = .ok (.aload_n 0, 1) := by decide +kernel
theorem dX5_film_91 : decode cX5_film 91 = .ok (.getfield 16, 3) := by decide +kernel
theorem dX5_film_94 : decode cX5_film 94 = .ok (.getfield 98, 3) := by decide +kernel
theorem dX5_film_97 : decode cX5_film 97 = .ok (.iload_n 2, 1) := by decide +kernel
theorem dX5_film_98 : decode cX5_film 98 = .ok (.iaload, 1) := by decide +kernel
theorem dX5_film_99 : decode cX5_film 99 = .ok (.invokevirtual 236, 3) := by decide +kernel
theorem dX5_film_102 : decode cX5_film 102 = .ok (.pop, 1) := by decide +kernel
theorem dX5_film_103 : decode cX5_film 103 = .ok (.iinc 5 1, 3) := by decide +kernel
theorem dX5_film_106 : decode cX5_film 106 = .ok (.goto (-53), 3) := by decide +kernel
theorem dX5_film_109 : decode cX5_film 109 = .ok (.iload_n 3, 1) := by decide +kernel
theorem dX5_film_110 : decode cX5_film 110 = .ok (.ireturn, 1) := by decide +kernel
set_option maxRecDepth 20000 in
theorem dX5_drawn_0 : decode cX5_drawn 0 = .ok (.aload_n 0, 1) := by decide +kernel
theorem dX5_drawn_1 : decode cX5_drawn 1 = .ok (.iload_n 2, 1) := by decide +kernel
theorem dX5_drawn_2 : decode cX5_drawn 2 = .ok (.invokevirtual 115, 3) := by decide +kernel
theorem dX5_drawn_5 : decode cX5_drawn 5 = .ok (.ifCond .eq 12, 3) := by decide +kernel
theorem dX5_drawn_8 : decode cX5_drawn 8 = .ok (.iload_n 3, 1) := by decide +kernel
theorem dX5_drawn_9 : decode cX5_drawn 9 = .ok (.bipush 40, 2) := by decide +kernel
theorem dX5_drawn_11 : decode cX5_drawn 11 = .ok (.invokestatic 104, 3) := by decide +kernel
theorem dX5_drawn_14 : decode cX5_drawn 14 = .ok (.ifCond .ne 6, 3) := by decide +kernel
theorem dX5_drawn_17 : decode cX5_drawn 17 = .ok (.bipush (-2), 2) := by decide +kernel
theorem dX5_drawn_19 : decode cX5_drawn 19 = .ok (.ireturn, 1) := by decide +kernel
theorem dX5_drawn_20 : decode cX5_drawn 20 = .ok (.aload_n 0, 1) := by decide +kernel
theorem dX5_drawn_21 : decode cX5_drawn 21 = .ok (.getfield 10, 3) := by decide +kernel
theorem dX5_drawn_24 : decode cX5_drawn 24 = .ok (.iload_n 1, 1) := by decide +kernel
theorem dX5_drawn_25 : decode cX5_drawn 25 = .ok (.iload_n 2, 1) := by decide +kernel
theorem dX5_drawn_26 : decode cX5_drawn 26 = .ok (.iload_n 3, 1) := by decide +kernel
theorem dX5_drawn_27 : decode cX5_drawn 27 = .ok (.invokevirtual 239, 3) := by decide +kernel
theorem dX5_drawn_30 : decode cX5_drawn 30 = .ok (.ireturn, 1) := by decide +kernel
set_option maxRecDepth 20000 in
theorem dX5_chance_0 : decode cX5_chance 0 = .ok (.iload_n 2, 1) := by decide +kernel
theorem dX5_chance_1 : decode cX5_chance 1 = .ok (.iconst 1, 1) := by decide +kernel
theorem dX5_chance_2 : decode cX5_chance 2 = .ok (.if_icmp .lt 26, 3) := by decide +kernel
theorem dX5_chance_5 : decode cX5_chance 5 = .ok (.iload_n 2, 1) := by decide +kernel
theorem dX5_chance_6 : decode cX5_chance 6 = .ok (.bipush 40, 2) := by decide +kernel
theorem dX5_chance_8 : decode cX5_chance 8 = .ok (.if_icmp .gt 20, 3) := by decide +kernel
theorem dX5_chance_11 : decode cX5_chance 11 = .ok (.aload_n 0, 1) := by decide +kernel
theorem dX5_chance_12 : decode cX5_chance 12 = .ok (.iload_n 3, 1) := by decide +kernel
theorem dX5_chance_13 : decode cX5_chance 13 = .ok (.invokevirtual 115, 3) := by decide +kernel
theorem dX5_chance_16 : decode cX5_chance 16 = .ok (.ifCond .eq 12, 3) := by decide +kernel
theorem dX5_chance_19 : decode cX5_chance 19 = .ok (.iload 4, 2) := by decide +kernel
theorem dX5_chance_21 : decode cX5_chance 21 = .ok (.iconst 1, 1) := by decide +kernel
theorem dX5_chance_22 : decode cX5_chance 22 = .ok (.invokestatic 104, 3) := by decide +kernel
theorem dX5_chance_25 : decode cX5_chance 25 = .ok (.ifCond .ne 7, 3) := by decide +kernel
theorem dX5_chance_28 : decode cX5_chance 28 = .ok (.ldc2_w 160, 3) := by decide +kernel
theorem dX5_chance_31 : decode cX5_chance 31 = .ok (.lreturn, 1) := by decide +kernel
theorem dX5_chance_32 : decode cX5_chance 32 = .ok (.iconst 0, 1) := by decide +kernel
theorem dX5_chance_33 : decode cX5_chance 33 = .ok (.istore 5, 2) := by decide +kernel
theorem dX5_chance_35 : decode cX5_chance 35 = .ok (.iconst 0, 1) := by decide +kernel
theorem dX5_chance_36 : decode cX5_chance 36 = .ok (.istore 6, 2) := by decide +kernel
theorem dX5_chance_38 : decode cX5_chance 38 = .ok (.iload 6, 2) := by decide +kernel
theorem dX5_chance_40 : decode cX5_chance 40 = .ok (.iload_n 2, 1) := by decide +kernel
theorem dX5_chance_41 : decode cX5_chance 41 = .ok (.if_icmp .ge 37, 3) := by decide +kernel
theorem dX5_chance_44 : decode cX5_chance 44 = .ok (.aload_n 0, 1) := by decide +kernel
theorem dX5_chance_45 : decode cX5_chance 45 = .ok (.getfield 10, 3) := by decide +kernel
theorem dX5_chance_48 : decode cX5_chance 48 = .ok (.aload_n 0, 1) := by decide +kernel
theorem dX5_chance_49 : decode cX5_chance 49 = .ok (.getfield 10, 3) := by decide +kernel
theorem dX5_chance_52 : decode cX5_chance 52 = .ok (.iload_n 1, 1) := by decide +kernel
theorem dX5_chance_53 : decode cX5_chance 53 = .ok (.iload 6, 2) := by decide +kernel
theorem dX5_chance_55 : decode cX5_chance 55 = .ok (.iadd, 1) := by decide +kernel
theorem dX5_chance_56 : decode cX5_chance 56 = .ok (.iload_n 3, 1) := by decide +kernel
theorem dX5_chance_57 : decode cX5_chance 57 = .ok (.bipush 8, 2) := by decide +kernel
theorem dX5_chance_59 : decode cX5_chance 59 = .ok (.invokevirtual 239, 3) := by decide +kernel
theorem dX5_chance_62 : decode cX5_chance 62 = .ok (.invokevirtual 242, 3) := by decide +kernel
theorem dX5_chance_65 : decode cX5_chance 65 = .ok (.iconst 1, 1) := by decide +kernel
theorem dX5_chance_66 : decode cX5_chance 66 = .ok (.if_icmp .ne 6, 3) := by decide +kernel
theorem dX5_chance_69 : decode cX5_chance 69 = .ok (.iinc 5 1, 3) := by decide +kernel
theorem dX5_chance_72 : decode cX5_chance 72 = .ok (.iinc 6 1, 3) := by decide +kernel
theorem dX5_chance_75 : decode cX5_chance 75 = .ok (.goto (-37), 3) := by decide +kernel
theorem dX5_chance_78 : decode cX5_chance 78 = .ok (.iload 5, 2) := by decide +kernel
theorem dX5_chance_80 : decode cX5_chance 80 = .ok (.iload_n 2, 1) := by decide +kernel
theorem dX5_chance_81 : decode cX5_chance 81 = .ok (.iload 4, 2) := by decide +kernel
theorem dX5_chance_83 : decode cX5_chance 83 = .ok (.invokestatic 203, 3) := by decide +kernel
theorem dX5_chance_86 : decode cX5_chance 86 = .ok (.lreturn, 1) := by decide +kernel
set_option maxRecDepth 20000 in
theorem dX5_image_0 : decode cX5_image 0 = .ok (.aload_n 0, 1) := by decide +kernel
theorem dX5_image_1 : decode cX5_image 1 = .ok (.getfield 22, 3) := by decide +kernel
theorem dX5_image_4 : decode cX5_image 4 = .ok (.aload_n 0, 1) := by decide +kernel
theorem dX5_image_5 : decode cX5_image 5 = .ok (.getfield 10, 3) := by decide +kernel
theorem dX5_image_8 : decode cX5_image 8 = .ok (.invokevirtual 179, 3) := by decide +kernel
theorem dX5_image_11 : decode cX5_image 11 = .ok (.aload_n 0, 1) := by decide +kernel
theorem dX5_image_12 : decode cX5_image 12 = .ok (.iconst 1, 1) := by decide +kernel
theorem dX5_image_13 : decode cX5_image 13 = .ok (.putfield 245, 3) := by decide +kernel
theorem dX5_image_16 : decode cX5_image 16 = .ok (.aload_n 0, 1) := by decide +kernel
theorem dX5_image_17 : decode cX5_image 17 = .ok (.getfield 22, 3) := by decide +kernel
theorem dX5_image_20 : decode cX5_image 20 = .ok (.getfield 124, 3) := by decide +kernel
theorem dX5_image_23 : decode cX5_image 23 = .ok (.ireturn, 1) := by decide +kernel
set_option maxRecDepth 20000 in
theorem dX5_back_0 : decode cX5_back 0 = .ok (.aload_n 0, 1) := by decide +kernel
theorem dX5_back_1 : decode cX5_back 1 = .ok (.getfield 245, 3) := by decide +kernel
theorem dX5_back_4 : decode cX5_back 4 = .ok (.ifCond .ne 6, 3) := by decide +kernel
theorem dX5_back_7 : decode cX5_back 7 = .ok (.bipush (-3), 2) := by decide +kernel
theorem dX5_back_9 : decode cX5_back 9 = .ok (.ireturn, 1) := by decide +kernel
theorem dX5_back_10 : decode cX5_back 10 = .ok (.aload_n 0, 1) := by decide +kernel
theorem dX5_back_11 : decode cX5_back 11 = .ok (.getfield 10, 3) := by decide +kernel
theorem dX5_back_14 : decode cX5_back 14 = .ok (.aload_n 0, 1) := by decide +kernel
theorem dX5_back_15 : decode cX5_back 15 = .ok (.getfield 22, 3) := by decide +kernel
theorem dX5_back_18 : decode cX5_back 18 = .ok (.invokevirtual 179, 3) := by decide +kernel
theorem dX5_back_21 : decode cX5_back 21 = .ok (.aload_n 0, 1) := by decide +kernel
theorem dX5_back_22 : decode cX5_back 22 = .ok (.getfield 10, 3) := by decide +kernel
theorem dX5_back_25 : decode cX5_back 25 = .ok (.getfield 124, 3) := by decide +kernel
theorem dX5_back_28 : decode cX5_back 28 = .ok (.ireturn, 1) := by decide +kernel
set_option maxRecDepth 20000 in
theorem dX5_count_0 : decode cX5_count 0 = .ok (.iload_n 1, 1) := by decide +kernel
theorem dX5_count_1 : decode cX5_count 1 = .ok (.tableswitch 90 0 5 #[39, 47, 58, 66, 74, 82], 39) := by decide +kernel
theorem dX5_count_40 : decode cX5_count 40 = .ok (.aload_n 0, 1) := by decide +kernel
theorem dX5_count_41 : decode cX5_count 41 = .ok (.getfield 10, 3) := by decide +kernel
theorem dX5_count_44 : decode cX5_count 44 = .ok (.getfield 124, 3) := by decide +kernel
theorem dX5_count_47 : decode cX5_count 47 = .ok (.ireturn, 1) := by decide +kernel
theorem dX5_count_48 : decode cX5_count 48 = .ok (.aload_n 0, 1) := by decide +kernel
theorem dX5_count_49 : decode cX5_count 49 = .ok (.getfield 10, 3) := by decide +kernel
theorem dX5_count_52 : decode cX5_count 52 = .ok (.getfield 91, 3) := by decide +kernel
theorem dX5_count_55 : decode cX5_count 55 = .ok (.invokestatic 249, 3) := by decide +kernel
theorem dX5_count_58 : decode cX5_count 58 = .ok (.ireturn, 1) := by decide +kernel
theorem dX5_count_59 : decode cX5_count 59 = .ok (.aload_n 0, 1) := by decide +kernel
theorem dX5_count_60 : decode cX5_count 60 = .ok (.getfield 10, 3) := by decide +kernel
theorem dX5_count_63 : decode cX5_count 63 = .ok (.getfield 81, 3) := by decide +kernel
theorem dX5_count_66 : decode cX5_count 66 = .ok (.ireturn, 1) := by decide +kernel
theorem dX5_count_67 : decode cX5_count 67 = .ok (.aload_n 0, 1) := by decide +kernel
theorem dX5_count_68 : decode cX5_count 68 = .ok (.getfield 28, 3) := by decide +kernel
theorem dX5_count_71 : decode cX5_count 71 = .ok (.getfield 165, 3) := by decide +kernel
theorem dX5_count_74 : decode cX5_count 74 = .ok (.ireturn, 1) := by decide +kernel
theorem dX5_count_75 : decode cX5_count 75 = .ok (.aload_n 0, 1) := by decide +kernel
theorem dX5_count_76 : decode cX5_count 76 = .ok (.getfield 35, 3) := by decide +kernel
theorem dX5_count_79 : decode cX5_count 79 = .ok (.getfield 162, 3) := by decide +kernel
theorem dX5_count_82 : decode cX5_count 82 = .ok (.ireturn, 1) := by decide +kernel
theorem dX5_count_83 : decode cX5_count 83 = .ok (.aload_n 0, 1) := by decide +kernel
theorem dX5_count_84 : decode cX5_count 84 = .ok (.getfield 10, 3) := by decide +kernel
theorem dX5_count_87 : decode cX5_count 87 = .ok (.getfield 172, 3) := by decide +kernel
theorem dX5_count_90 : decode cX5_count 90 = .ok (.ireturn, 1) := by decide +kernel
theorem dX5_count_91 : decode cX5_count 91 = .ok (.bipush (-2), 2) := by decide +kernel
theorem dX5_count_93 : decode cX5_count 93 = .ok (.ireturn, 1) := by decide +kernel
set_option maxRecDepth 20000 in
theorem dX5_sheet_0 : decode cX5_sheet 0 = .ok (.aload_n 0, 1) := by decide +kernel
theorem dX5_sheet_1 : decode cX5_sheet 1 = .ok (.iload_n 1, 1) := by decide +kernel
theorem dX5_sheet_2 : decode cX5_sheet 2 = .ok (.invokevirtual 207, 3) := by decide +kernel
theorem dX5_sheet_5 : decode cX5_sheet 5 = .ok (.astore 4, 2) := by decide +kernel
theorem dX5_sheet_7 : decode cX5_sheet 7 = .ok (.aload 4, 2) := by decide +kernel
theorem dX5_sheet_9 : decode cX5_sheet 9 = .ok (.ifnull 13, 3) := by decide +kernel
theorem dX5_sheet_12 : decode cX5_sheet 12 = .ok (.iload_n 2, 1) := by decide +kernel
theorem dX5_sheet_13 : decode cX5_sheet 13 = .ok (.iconst (-1), 1) := by decide +kernel
theorem dX5_sheet_14 : decode cX5_sheet 14 = .ok (.if_icmp .lt 8, 3) := by decide +kernel
theorem dX5_sheet_17 : decode cX5_sheet 17 = .ok (.iload_n 2, 1) := by decide +kernel
theorem dX5_sheet_18 : decode cX5_sheet 18 = .ok (.iconst 2, 1) := by decide +kernel
theorem dX5_sheet_19 : decode cX5_sheet 19 = .ok (.if_icmp .le 6, 3) := by decide +kernel
theorem dX5_sheet_22 : decode cX5_sheet 22 = .ok (.bipush (-2), 2) := by decide +kernel
theorem dX5_sheet_24 : decode cX5_sheet 24 = .ok (.ireturn, 1) := by decide +kernel
theorem dX5_sheet_25 : decode cX5_sheet 25 = .ok (.iload_n 2, 1) := by decide +kernel
theorem dX5_sheet_26 : decode cX5_sheet 26 = .ok (.iconst (-1), 1) := by decide +kernel
theorem dX5_sheet_27 : decode cX5_sheet 27 = .ok (.if_icmp .ne 12, 3) := by decide +kernel
theorem dX5_sheet_30 : decode cX5_sheet 30 = .ok (.aload 4, 2) := by decide +kernel
theorem dX5_sheet_32 : decode cX5_sheet 32 = .ok (.iconst (-1), 1) := by decide +kernel
theorem dX5_sheet_33 : decode cX5_sheet 33 = .ok (.iconst 0, 1) := by decide +kernel
theorem dX5_sheet_34 : decode cX5_sheet 34 = .ok (.invokevirtual 233, 3) := by decide +kernel
theorem dX5_sheet_37 : decode cX5_sheet 37 = .ok (.iconst 1, 1) := by decide +kernel
theorem dX5_sheet_38 : decode cX5_sheet 38 = .ok (.ireturn, 1) := by decide +kernel
theorem dX5_sheet_39 : decode cX5_sheet 39 = .ok (.iload_n 3, 1) := by decide +kernel
theorem dX5_sheet_40 : decode cX5_sheet 40 = .ok (.bipush 40, 2) := by decide +kernel
theorem dX5_sheet_42 : decode cX5_sheet 42 = .ok (.if_icmp .le 6, 3) := by decide +kernel
theorem dX5_sheet_45 : decode cX5_sheet 45 = .ok (.bipush (-2), 2) := by decide +kernel
theorem dX5_sheet_47 : decode cX5_sheet 47 = .ok (.ireturn, 1) := by decide +kernel
theorem dX5_sheet_48 : decode cX5_sheet 48 = .ok (.iload_n 3, 1) := by decide +kernel
theorem dX5_sheet_49 : decode cX5_sheet 49 = .ok (.ifCond .ge 6, 3) := by decide +kernel
theorem dX5_sheet_52 : decode cX5_sheet 52 = .ok (.bipush (-14), 2) := by decide +kernel
theorem dX5_sheet_54 : decode cX5_sheet 54 = .ok (.ireturn, 1) := by decide +kernel
theorem dX5_sheet_55 : decode cX5_sheet 55 = .ok (.aload 4, 2) := by decide +kernel
theorem dX5_sheet_57 : decode cX5_sheet 57 = .ok (.iload_n 2, 1) := by decide +kernel
theorem dX5_sheet_58 : decode cX5_sheet 58 = .ok (.iload_n 3, 1) := by decide +kernel
theorem dX5_sheet_59 : decode cX5_sheet 59 = .ok (.invokevirtual 233, 3) := by decide +kernel
theorem dX5_sheet_62 : decode cX5_sheet 62 = .ok (.iconst 1, 1) := by decide +kernel
theorem dX5_sheet_63 : decode cX5_sheet 63 = .ok (.ireturn, 1) := by decide +kernel
set_option maxRecDepth 20000 in
theorem dX5_cell_0 : decode cX5_cell 0 = .ok (.aload_n 0, 1) := by decide +kernel
theorem dX5_cell_1 : decode cX5_cell 1 = .ok (.iload_n 1, 1) := by decide +kernel
theorem dX5_cell_2 : decode cX5_cell 2 = .ok (.invokevirtual 207, 3) := by decide +kernel
theorem dX5_cell_5 : decode cX5_cell 5 = .ok (.astore 4, 2) := by decide +kernel
theorem dX5_cell_7 : decode cX5_cell 7 = .ok (.aload 4, 2) := by decide +kernel
theorem dX5_cell_9 : decode cX5_cell 9 = .ok (.ifnonnull 6, 3) := by decide +kernel
theorem dX5_cell_12 : decode cX5_cell 12 = .ok (.bipush (-2), 2) := by decide +kernel
theorem dX5_cell_14 : decode cX5_cell 14 = .ok (.ireturn, 1) := by decide +kernel
theorem dX5_cell_15 : decode cX5_cell 15 = .ok (.aload 4, 2) := by decide +kernel
theorem dX5_cell_17 : decode cX5_cell 17 = .ok (.getfield 211, 3) := by decide +kernel
theorem dX5_cell_20 : decode cX5_cell 20 = .ok (.iconst (-1), 1) := by decide +kernel
theorem dX5_cell_21 : decode cX5_cell 21 = .ok (.if_icmp .ne 6, 3) := by decide +kernel
theorem dX5_cell_24 : decode cX5_cell 24 = .ok (.bipush (-11), 2) := by decide +kernel
theorem dX5_cell_26 : decode cX5_cell 26 = .ok (.ireturn, 1) := by decide +kernel
theorem dX5_cell_27 : decode cX5_cell 27 = .ok (.aload 4, 2) := by decide +kernel
theorem dX5_cell_29 : decode cX5_cell 29 = .ok (.iload_n 2, 1) := by decide +kernel
theorem dX5_cell_30 : decode cX5_cell 30 = .ok (.iload_n 3, 1) := by decide +kernel
theorem dX5_cell_31 : decode cX5_cell 31 = .ok (.invokevirtual 236, 3) := by decide +kernel
theorem dX5_cell_34 : decode cX5_cell 34 = .ok (.ifCond .eq 7, 3) := by decide +kernel
theorem dX5_cell_37 : decode cX5_cell 37 = .ok (.iconst 1, 1) := by decide +kernel
theorem dX5_cell_38 : decode cX5_cell 38 = .ok (.goto 5, 3) := by decide +kernel
theorem dX5_cell_41 : decode cX5_cell 41 = .ok (.bipush (-12), 2) := by decide +kernel
theorem dX5_cell_43 : decode cX5_cell 43 = .ok (.ireturn, 1) := by decide +kernel
set_option maxRecDepth 20000 in
theorem dX5_copy_0 : decode cX5_copy 0 = .ok (.aload_n 0, 1) := by decide +kernel
theorem dX5_copy_1 : decode cX5_copy 1 = .ok (.iload_n 1, 1) := by decide +kernel
theorem dX5_copy_2 : decode cX5_copy 2 = .ok (.invokevirtual 207, 3) := by decide +kernel
theorem dX5_copy_5 : decode cX5_copy 5 = .ok (.astore 6, 2) := by decide +kernel
theorem dX5_copy_7 : decode cX5_copy 7 = .ok (.aload_n 0, 1) := by decide +kernel
theorem dX5_copy_8 : decode cX5_copy 8 = .ok (.iload_n 3, 1) := by decide +kernel
theorem dX5_copy_9 : decode cX5_copy 9 = .ok (.invokevirtual 207, 3) := by decide +kernel
theorem dX5_copy_12 : decode cX5_copy 12 = .ok (.astore 7, 2) := by decide +kernel
theorem dX5_copy_14 : decode cX5_copy 14 = .ok (.aload 6, 2) := by decide +kernel
theorem dX5_copy_16 : decode cX5_copy 16 = .ok (.ifnull 8, 3) := by decide +kernel
theorem dX5_copy_19 : decode cX5_copy 19 = .ok (.aload 7, 2) := by decide +kernel
theorem dX5_copy_21 : decode cX5_copy 21 = .ok (.ifnonnull 6, 3) := by decide +kernel
theorem dX5_copy_24 : decode cX5_copy 24 = .ok (.bipush (-2), 2) := by decide +kernel
theorem dX5_copy_26 : decode cX5_copy 26 = .ok (.ireturn, 1) := by decide +kernel
theorem dX5_copy_27 : decode cX5_copy 27 = .ok (.aload 6, 2) := by decide +kernel
theorem dX5_copy_29 : decode cX5_copy 29 = .ok (.getfield 211, 3) := by decide +kernel
theorem dX5_copy_32 : decode cX5_copy 32 = .ok (.iconst (-1), 1) := by decide +kernel
theorem dX5_copy_33 : decode cX5_copy 33 = .ok (.if_icmp .eq 12, 3) := by decide +kernel
theorem dX5_copy_36 : decode cX5_copy 36 = .ok (.aload 7, 2) := by decide +kernel
theorem dX5_copy_38 : decode cX5_copy 38 = .ok (.getfield 211, 3) := by decide +kernel
theorem dX5_copy_41 : decode cX5_copy 41 = .ok (.iconst (-1), 1) := by decide +kernel
theorem dX5_copy_42 : decode cX5_copy 42 = .ok (.if_icmp .ne 6, 3) := by decide +kernel
theorem dX5_copy_45 : decode cX5_copy 45 = .ok (.bipush (-11), 2) := by decide +kernel
theorem dX5_copy_47 : decode cX5_copy 47 = .ok (.ireturn, 1) := by decide +kernel
theorem dX5_copy_48 : decode cX5_copy 48 = .ok (.aload 6, 2) := by decide +kernel
theorem dX5_copy_50 : decode cX5_copy 50 = .ok (.getfield 211, 3) := by decide +kernel
theorem dX5_copy_53 : decode cX5_copy 53 = .ok (.aload 7, 2) := by decide +kernel
theorem dX5_copy_55 : decode cX5_copy 55 = .ok (.getfield 211, 3) := by decide +kernel
theorem dX5_copy_58 : decode cX5_copy 58 = .ok (.if_icmp .eq 6, 3) := by decide +kernel
theorem dX5_copy_61 : decode cX5_copy 61 = .ok (.bipush (-13), 2) := by decide +kernel
theorem dX5_copy_63 : decode cX5_copy 63 = .ok (.ireturn, 1) := by decide +kernel
theorem dX5_copy_64 : decode cX5_copy 64 = .ok (.aload 6, 2) := by decide +kernel
theorem dX5_copy_66 : decode cX5_copy 66 = .ok (.iload_n 2, 1) := by decide +kernel
theorem dX5_copy_67 : decode cX5_copy 67 = .ok (.iload 5, 2) := by decide +kernel
theorem dX5_copy_69 : decode cX5_copy 69 = .ok (.invokevirtual 255, 3) := by decide +kernel
theorem dX5_copy_72 : decode cX5_copy 72 = .ok (.ifCond .eq 15, 3) := by decide +kernel
theorem dX5_copy_75 : decode cX5_copy 75 = .ok (.aload 7, 2) := by decide +kernel
theorem dX5_copy_77 : decode cX5_copy 77 = .ok (.iload 4, 2) := by decide +kernel
theorem dX5_copy_79 : decode cX5_copy 79 = .ok (.iload 5, 2) := by decide +kernel
theorem dX5_copy_81 : decode cX5_copy 81 = .ok (.invokevirtual 255, 3) := by decide +kernel
theorem dX5_copy_84 : decode cX5_copy 84 = .ok (.ifCond .ne 6, 3) := by decide +kernel
theorem dX5_copy_87 : decode cX5_copy 87 = .ok (.bipush (-12), 2) := by decide +kernel
theorem dX5_copy_89 : decode cX5_copy 89 = .ok (.ireturn, 1) := by decide +kernel
theorem dX5_copy_90 : decode cX5_copy 90 = .ok (.aload 6, 2) := by decide +kernel
theorem dX5_copy_92 : decode cX5_copy 92 = .ok (.getfield 230, 3) := by decide +kernel
theorem dX5_copy_95 : decode cX5_copy 95 = .ok (.iload_n 2, 1) := by decide +kernel
theorem dX5_copy_96 : decode cX5_copy 96 = .ok (.aload 7, 2) := by decide +kernel
theorem dX5_copy_98 : decode cX5_copy 98 = .ok (.getfield 230, 3) := by decide +kernel
theorem dX5_copy_101 : decode cX5_copy 101 = .ok (.iload 4, 2) := by decide +kernel
theorem dX5_copy_103 : decode cX5_copy 103 = .ok (.iload 5, 2) := by decide +kernel
theorem dX5_copy_105 : decode cX5_copy 105 = .ok (.invokestatic 258, 3) := by decide +kernel
theorem dX5_copy_108 : decode cX5_copy 108 = .ok (.iload 5, 2) := by decide +kernel
theorem dX5_copy_110 : decode cX5_copy 110 = .ok (.ireturn, 1) := by decide +kernel
set_option maxRecDepth 20000 in
theorem dX5_suits_0 : decode cX5_suits 0 = .ok (.aload_n 0, 1) := by decide +kernel
theorem dX5_suits_1 : decode cX5_suits 1 = .ok (.iload_n 1, 1) := by decide +kernel
theorem dX5_suits_2 : decode cX5_suits 2 = .ok (.invokevirtual 207, 3) := by decide +kernel
theorem dX5_suits_5 : decode cX5_suits 5 = .ok (.astore 5, 2) := by decide +kernel
theorem dX5_suits_7 : decode cX5_suits 7 = .ok (.aload 5, 2) := by decide +kernel
theorem dX5_suits_9 : decode cX5_suits 9 = .ok (.ifnull 20, 3) := by decide +kernel
theorem dX5_suits_12 : decode cX5_suits 12 = .ok (.iload_n 2, 1) := by decide +kernel
theorem dX5_suits_13 : decode cX5_suits 13 = .ok (.iconst 2, 1) := by decide +kernel
theorem dX5_suits_14 : decode cX5_suits 14 = .ok (.invokestatic 104, 3) := by decide +kernel
theorem dX5_suits_17 : decode cX5_suits 17 = .ok (.ifCond .eq 12, 3) := by decide +kernel
theorem dX5_suits_20 : decode cX5_suits 20 = .ok (.iload 4, 2) := by decide +kernel
theorem dX5_suits_22 : decode cX5_suits 22 = .ok (.iconst 5, 1) := by decide +kernel
theorem dX5_suits_23 : decode cX5_suits 23 = .ok (.invokestatic 104, 3) := by decide +kernel
theorem dX5_suits_26 : decode cX5_suits 26 = .ok (.ifCond .ne 6, 3) := by decide +kernel
theorem dX5_suits_29 : decode cX5_suits 29 = .ok (.bipush (-2), 2) := by decide +kernel
theorem dX5_suits_31 : decode cX5_suits 31 = .ok (.ireturn, 1) := by decide +kernel
theorem dX5_suits_32 : decode cX5_suits 32 = .ok (.aload 5, 2) := by decide +kernel
theorem dX5_suits_34 : decode cX5_suits 34 = .ok (.getfield 211, 3) := by decide +kernel
theorem dX5_suits_37 : decode cX5_suits 37 = .ok (.iconst (-1), 1) := by decide +kernel
theorem dX5_suits_38 : decode cX5_suits 38 = .ok (.if_icmp .ne 6, 3) := by decide +kernel
theorem dX5_suits_41 : decode cX5_suits 41 = .ok (.bipush (-11), 2) := by decide +kernel
theorem dX5_suits_43 : decode cX5_suits 43 = .ok (.ireturn, 1) := by decide +kernel
theorem dX5_suits_44 : decode cX5_suits 44 = .ok (.aload 5, 2) := by decide +kernel
theorem dX5_suits_46 : decode cX5_suits 46 = .ok (.getfield 211, 3) := by decide +kernel
theorem dX5_suits_49 : decode cX5_suits 49 = .ok (.iload_n 2, 1) := by decide +kernel
theorem dX5_suits_50 : decode cX5_suits 50 = .ok (.if_icmp .eq 6, 3) := by decide +kernel
theorem dX5_suits_53 : decode cX5_suits 53 = .ok (.bipush (-13), 2) := by decide +kernel
theorem dX5_suits_55 : decode cX5_suits 55 = .ok (.ireturn, 1) := by decide +kernel
theorem dX5_suits_56 : decode cX5_suits 56 = .ok (.iconst 0, 1) := by decide +kernel
theorem dX5_suits_57 : decode cX5_suits 57 = .ok (.istore 6, 2) := by decide +kernel
theorem dX5_suits_59 : decode cX5_suits 59 = .ok (.iconst 0, 1) := by decide +kernel
theorem dX5_suits_60 : decode cX5_suits 60 = .ok (.istore 7, 2) := by decide +kernel
theorem dX5_suits_62 : decode cX5_suits 62 = .ok (.iload 7, 2) := by decide +kernel
theorem dX5_suits_64 : decode cX5_suits 64 = .ok (.iload 4, 2) := by decide +kernel
theorem dX5_suits_66 : decode cX5_suits 66 = .ok (.if_icmp .ge 69, 3) := by decide +kernel
theorem dX5_suits_69 : decode cX5_suits 69 = .ok (.iload_n 3, 1) := by decide +kernel
