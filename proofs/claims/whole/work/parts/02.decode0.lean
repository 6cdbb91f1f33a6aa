theorem dX0_init_0 : decode cX0_init 0 = .ok (.aload_n 0, 1) := by decide +kernel
theorem dX0_init_1 : decode cX0_init 1 = .ok (.invokespecial 3, 3) := by decide +kernel
theorem dX0_init_4 : decode cX0_init 4 = .ok (.aload_n 0, 1) := by decide +kernel
theorem dX0_init_5 : decode cX0_init 5 = .ok (.iconst 5, 1) := by decide +kernel
theorem dX0_init_6 : decode cX0_init 6 = .ok (.newarray .int, 2) := by decide +kernel
theorem dX0_init_8 : decode cX0_init 8 = .ok (.putfield 9, 3) := by decide +kernel
theorem dX0_init_11 : decode cX0_init 11 = .ok (.aload_n 0, 1) := by decide +kernel
theorem dX0_init_12 : decode cX0_init 12 = .ok (.iconst 5, 1) := by decide +kernel
theorem dX0_init_13 : decode cX0_init 13 = .ok (.newarray .int, 2) := by decide +kernel
theorem dX0_init_15 : decode cX0_init 15 = .ok (.putfield 15, 3) := by decide +kernel
theorem dX0_init_18 : decode cX0_init 18 = .ok (.aload_n 0, 1) := by decide +kernel
theorem dX0_init_19 : decode cX0_init 19 = .ok (.iconst 5, 1) := by decide +kernel
theorem dX0_init_20 : decode cX0_init 20 = .ok (.newarray .int, 2) := by decide +kernel
theorem dX0_init_22 : decode cX0_init 22 = .ok (.putfield 18, 3) := by decide +kernel
theorem dX0_init_25 : decode cX0_init 25 = .ok (.aload_n 0, 1) := by decide +kernel
theorem dX0_init_26 : decode cX0_init 26 = .ok (.iconst 5, 1) := by decide +kernel
theorem dX0_init_27 : decode cX0_init 27 = .ok (.newarray .int, 2) := by decide +kernel
theorem dX0_init_29 : decode cX0_init 29 = .ok (.putfield 21, 3) := by decide +kernel
theorem dX0_init_32 : decode cX0_init 32 = .ok (.return_, 1) := by decide +kernel
theorem dX0_become_0 : decode cX0_become 0 = .ok (.aload_n 0, 1) := by decide +kernel
theorem dX0_become_1 : decode cX0_become 1 = .ok (.aload_n 1, 1) := by decide +kernel
theorem dX0_become_2 : decode cX0_become 2 = .ok (.getfield 24, 3) := by decide +kernel
theorem dX0_become_5 : decode cX0_become 5 = .ok (.putfield 24, 3) := by decide +kernel
theorem dX0_become_8 : decode cX0_become 8 = .ok (.aload_n 0, 1) := by decide +kernel
theorem dX0_become_9 : decode cX0_become 9 = .ok (.aload_n 1, 1) := by decide +kernel
theorem dX0_become_10 : decode cX0_become 10 = .ok (.getfield 28, 3) := by decide +kernel
theorem dX0_become_13 : decode cX0_become 13 = .ok (.putfield 28, 3) := by decide +kernel
theorem dX0_become_16 : decode cX0_become 16 = .ok (.aload_n 0, 1) := by decide +kernel
theorem dX0_become_17 : decode cX0_become 17 = .ok (.aload_n 1, 1) := by decide +kernel
theorem dX0_become_18 : decode cX0_become 18 = .ok (.getfield 31, 3) := by decide +kernel
theorem dX0_become_21 : decode cX0_become 21 = .ok (.putfield 31, 3) := by decide +kernel
theorem dX0_become_24 : decode cX0_become 24 = .ok (.aload_n 0, 1) := by decide +kernel
theorem dX0_become_25 : decode cX0_become 25 = .ok (.aload_n 1, 1) := by decide +kernel
theorem dX0_become_26 : decode cX0_become 26 = .ok (.getfield 35, 3) := by decide +kernel
theorem dX0_become_29 : decode cX0_become 29 = .ok (.putfield 35, 3) := by decide +kernel
theorem dX0_become_32 : decode cX0_become 32 = .ok (.aload_n 0, 1) := by decide +kernel
theorem dX0_become_33 : decode cX0_become 33 = .ok (.aload_n 1, 1) := by decide +kernel
theorem dX0_become_34 : decode cX0_become 34 = .ok (.getfield 38, 3) := by decide +kernel
theorem dX0_become_37 : decode cX0_become 37 = .ok (.putfield 38, 3) := by decide +kernel
theorem dX0_become_40 : decode cX0_become 40 = .ok (.aload_n 1, 1) := by decide +kernel
theorem dX0_become_41 : decode cX0_become 41 = .ok (.getfield 9, 3) := by decide +kernel
theorem dX0_become_44 : decode cX0_become 44 = .ok (.iconst 0, 1) := by decide +kernel
theorem dX0_become_45 : decode cX0_become 45 = .ok (.aload_n 0, 1) := by decide +kernel
theorem dX0_become_46 : decode cX0_become 46 = .ok (.getfield 9, 3) := by decide +kernel
theorem dX0_become_49 : decode cX0_become 49 = .ok (.iconst 0, 1) := by decide +kernel
theorem dX0_become_50 : decode cX0_become 50 = .ok (.iconst 5, 1) := by decide +kernel
theorem dX0_become_51 : decode cX0_become 51 = .ok (.invokestatic 41, 3) := by decide +kernel
theorem dX0_become_54 : decode cX0_become 54 = .ok (.aload_n 1, 1) := by decide +kernel
theorem dX0_become_55 : decode cX0_become 55 = .ok (.getfield 15, 3) := by decide +kernel
theorem dX0_become_58 : decode cX0_become 58 = .ok (.iconst 0, 1) := by decide +kernel
theorem dX0_become_59 : decode cX0_become 59 = .ok (.aload_n 0, 1) := by decide +kernel
theorem dX0_become_60 : decode cX0_become 60 = .ok (.getfield 15, 3) := by decide +kernel
theorem dX0_become_63 : decode cX0_become 63 = .ok (.iconst 0, 1) := by decide +kernel
theorem dX0_become_64 : decode cX0_become 64 = .ok (.iconst 5, 1) := by decide +kernel
theorem dX0_become_65 : decode cX0_become 65 = .ok (.invokestatic 41, 3) := by decide +kernel
theorem dX0_become_68 : decode cX0_become 68 = .ok (.aload_n 1, 1) := by decide +kernel
theorem dX0_become_69 : decode cX0_become 69 = .ok (.getfield 18, 3) := by decide +kernel
theorem dX0_become_72 : decode cX0_become 72 = .ok (.iconst 0, 1) := by decide +kernel
theorem dX0_become_73 : decode cX0_become 73 = .ok (.aload_n 0, 1) := by decide +kernel
theorem dX0_become_74 : decode cX0_become 74 = .ok (.getfield 18, 3) := by decide +kernel
theorem dX0_become_77 : decode cX0_become 77 = .ok (.iconst 0, 1) := by decide +kernel
theorem dX0_become_78 : decode cX0_become 78 = .ok (.iconst 5, 1) := by decide +kernel
theorem dX0_become_79 : decode cX0_become 79 = .ok (.invokestatic 41, 3) := by decide +kernel
theorem dX0_become_82 : decode cX0_become 82 = .ok (.aload_n 1, 1) := by decide +kernel
theorem dX0_become_83 : decode cX0_become 83 = .ok (.getfield 21, 3) := by decide +kernel
theorem dX0_become_86 : decode cX0_become 86 = .ok (.iconst 0, 1) := by decide +kernel
theorem dX0_become_87 : decode cX0_become 87 = .ok (.aload_n 0, 1) := by decide +kernel
theorem dX0_become_88 : decode cX0_become 88 = .ok (.getfield 21, 3) := by decide +kernel
theorem dX0_become_91 : decode cX0_become 91 = .ok (.iconst 0, 1) := by decide +kernel
theorem dX0_become_92 : decode cX0_become 92 = .ok (.iconst 5, 1) := by decide +kernel
theorem dX0_become_93 : decode cX0_become 93 = .ok (.invokestatic 41, 3) := by decide +kernel
theorem dX0_become_96 : decode cX0_become 96 = .ok (.return_, 1) := by decide +kernel
set_option maxRecDepth 20000 in
theorem dX0_isRed_0 : decode cX0_isRed 0 = .ok (.aload_n 0, 1) := by decide +kernel
theorem dX0_isRed_1 : decode cX0_isRed 1 = .ok (.getfield 24, 3) := by decide +kernel
theorem dX0_isRed_4 : decode cX0_isRed 4 = .ok (.iload_n 1, 1) := by decide +kernel
theorem dX0_isRed_5 : decode cX0_isRed 5 = .ok (.invokestatic 47, 3) := by decide +kernel
theorem dX0_isRed_8 : decode cX0_isRed 8 = .ok (.ireturn, 1) := by decide +kernel
set_option maxRecDepth 20000 in
theorem dX0_isHollow_0 : decode cX0_isHollow 0 = .ok (.aload_n 0, 1) := by decide +kernel
theorem dX0_isHollow_1 : decode cX0_isHollow 1 = .ok (.getfield 28, 3) := by decide +kernel
theorem dX0_isHollow_4 : decode cX0_isHollow 4 = .ok (.iload_n 1, 1) := by decide +kernel
theorem dX0_isHollow_5 : decode cX0_isHollow 5 = .ok (.invokestatic 47, 3) := by decide +kernel
theorem dX0_isHollow_8 : decode cX0_isHollow 8 = .ok (.ireturn, 1) := by decide +kernel
theorem dX0_whoIsOn_0 : decode cX0_whoIsOn 0 = .ok (.iconst 0, 1) := by decide +kernel
theorem dX0_whoIsOn_1 : decode cX0_whoIsOn 1 = .ok (.istore_n 2, 1) := by decide +kernel
theorem dX0_whoIsOn_2 : decode cX0_whoIsOn 2 = .ok (.iconst 0, 1) := by decide +kernel
theorem dX0_whoIsOn_3 : decode cX0_whoIsOn 3 = .ok (.istore_n 3, 1) := by decide +kernel
theorem dX0_whoIsOn_4 : decode cX0_whoIsOn 4 = .ok (.iload_n 3, 1) := by decide +kernel
theorem dX0_whoIsOn_5 : decode cX0_whoIsOn 5 = .ok (.aload_n 0, 1) := by decide +kernel
theorem dX0_whoIsOn_6 : decode cX0_whoIsOn 6 = .ok (.getfield 35, 3) := by decide +kernel
theorem dX0_whoIsOn_9 : decode cX0_whoIsOn 9 = .ok (.if_icmp .ge 29, 3) := by decide +kernel
theorem dX0_whoIsOn_12 : decode cX0_whoIsOn 12 = .ok (.iload_n 2, 1) := by decide +kernel
theorem dX0_whoIsOn_13 : decode cX0_whoIsOn 13 = .ok (.aload_n 0, 1) := by decide +kernel
theorem dX0_whoIsOn_14 : decode cX0_whoIsOn 14 = .ok (.getfield 18, 3) := by decide +kernel
theorem dX0_whoIsOn_17 : decode cX0_whoIsOn 17 = .ok (.iload_n 3, 1) := by decide +kernel
theorem dX0_whoIsOn_18 : decode cX0_whoIsOn 18 = .ok (.iaload, 1) := by decide +kernel
theorem dX0_whoIsOn_19 : decode cX0_whoIsOn 19 = .ok (.iload_n 1, 1) := by decide +kernel
theorem dX0_whoIsOn_20 : decode cX0_whoIsOn 20 = .ok (.if_icmp .ne 9, 3) := by decide +kernel
theorem dX0_whoIsOn_23 : decode cX0_whoIsOn 23 = .ok (.iconst 1, 1) := by decide +kernel
theorem dX0_whoIsOn_24 : decode cX0_whoIsOn 24 = .ok (.iload_n 3, 1) := by decide +kernel
theorem dX0_whoIsOn_25 : decode cX0_whoIsOn 25 = .ok (.ishl, 1) := by decide +kernel
theorem dX0_whoIsOn_26 : decode cX0_whoIsOn 26 = .ok (.goto 4, 3) := by decide +kernel
theorem dX0_whoIsOn_29 : decode cX0_whoIsOn 29 = .ok (.iconst 0, 1) := by decide +kernel
theorem dX0_whoIsOn_30 : decode cX0_whoIsOn 30 = .ok (.ior, 1) := by decide +kernel
theorem dX0_whoIsOn_31 : decode cX0_whoIsOn 31 = .ok (.istore_n 2, 1) := by decide +kernel
theorem dX0_whoIsOn_32 : decode cX0_whoIsOn 32 = .ok (.iinc 3 1, 3) := by decide +kernel
theorem dX0_whoIsOn_35 : decode cX0_whoIsOn 35 = .ok (.goto (-31), 3) := by decide +kernel
theorem dX0_whoIsOn_38 : decode cX0_whoIsOn 38 = .ok (.iload_n 2, 1) := by decide +kernel
theorem dX0_whoIsOn_39 : decode cX0_whoIsOn 39 = .ok (.ireturn, 1) := by decide +kernel
theorem dX0_stoodOn_0 : decode cX0_stoodOn 0 = .ok (.lconst 0, 1) := by decide +kernel
theorem dX0_stoodOn_1 : decode cX0_stoodOn 1 = .ok (.lstore_n 1, 1) := by decide +kernel
theorem dX0_stoodOn_2 : decode cX0_stoodOn 2 = .ok (.iconst 0, 1) := by decide +kernel
theorem dX0_stoodOn_3 : decode cX0_stoodOn 3 = .ok (.istore_n 3, 1) := by decide +kernel
theorem dX0_stoodOn_4 : decode cX0_stoodOn 4 = .ok (.iload_n 3, 1) := by decide +kernel
theorem dX0_stoodOn_5 : decode cX0_stoodOn 5 = .ok (.aload_n 0, 1) := by decide +kernel
theorem dX0_stoodOn_6 : decode cX0_stoodOn 6 = .ok (.getfield 35, 3) := by decide +kernel
theorem dX0_stoodOn_9 : decode cX0_stoodOn 9 = .ok (.if_icmp .ge 20, 3) := by decide +kernel
theorem dX0_stoodOn_12 : decode cX0_stoodOn 12 = .ok (.lload_n 1, 1) := by decide +kernel
theorem dX0_stoodOn_13 : decode cX0_stoodOn 13 = .ok (.lconst 1, 1) := by decide +kernel
theorem dX0_stoodOn_14 : decode cX0_stoodOn 14 = .ok (.aload_n 0, 1) := by decide +kernel
theorem dX0_stoodOn_15 : decode cX0_stoodOn 15 = .ok (.getfield 18, 3) := by decide +kernel
theorem dX0_stoodOn_18 : decode cX0_stoodOn 18 = .ok (.iload_n 3, 1) := by decide +kernel
theorem dX0_stoodOn_19 : decode cX0_stoodOn 19 = .ok (.iaload, 1) := by decide +kernel
theorem dX0_stoodOn_20 : decode cX0_stoodOn 20 = .ok (.lshl, 1) := by decide +kernel
theorem dX0_stoodOn_21 : decode cX0_stoodOn 21 = .ok (.lor, 1) := by decide +kernel
theorem dX0_stoodOn_22 : decode cX0_stoodOn 22 = .ok (.lstore_n 1, 1) := by decide +kernel
theorem dX0_stoodOn_23 : decode cX0_stoodOn 23 = .ok (.iinc 3 1, 3) := by decide +kernel
theorem dX0_stoodOn_26 : decode cX0_stoodOn 26 = .ok (.goto (-22), 3) := by decide +kernel
theorem dX0_stoodOn_29 : decode cX0_stoodOn 29 = .ok (.lload_n 1, 1) := by decide +kernel
theorem dX0_stoodOn_30 : decode cX0_stoodOn 30 = .ok (.lreturn, 1) := by decide +kernel
set_option maxRecDepth 20000 in
theorem dX0_isFoundBy_0 : decode cX0_isFoundBy 0 = .ok (.aload_n 0, 1) := by decide +kernel
theorem dX0_isFoundBy_1 : decode cX0_isFoundBy 1 = .ok (.iload_n 1, 1) := by decide +kernel
theorem dX0_isFoundBy_2 : decode cX0_isFoundBy 2 = .ok (.invokevirtual 51, 3) := by decide +kernel
theorem dX0_isFoundBy_5 : decode cX0_isFoundBy 5 = .ok (.ifCond .eq 5, 3) := by decide +kernel
theorem dX0_isFoundBy_8 : decode cX0_isFoundBy 8 = .ok (.iconst 2, 1) := by decide +kernel
theorem dX0_isFoundBy_9 : decode cX0_isFoundBy 9 = .ok (.ireturn, 1) := by decide +kernel
theorem dX0_isFoundBy_10 : decode cX0_isFoundBy 10 = .ok (.iload_n 1, 1) := by decide +kernel
theorem dX0_isFoundBy_11 : decode cX0_isFoundBy 11 = .ok (.bipush 8, 2) := by decide +kernel
theorem dX0_isFoundBy_13 : decode cX0_isFoundBy 13 = .ok (.irem, 1) := by decide +kernel
theorem dX0_isFoundBy_14 : decode cX0_isFoundBy 14 = .ok (.iload_n 1, 1) := by decide +kernel
theorem dX0_isFoundBy_15 : decode cX0_isFoundBy 15 = .ok (.bipush 8, 2) := by decide +kernel
theorem dX0_isFoundBy_17 : decode cX0_isFoundBy 17 = .ok (.idiv, 1) := by decide +kernel
theorem dX0_isFoundBy_18 : decode cX0_isFoundBy 18 = .ok (.iadd, 1) := by decide +kernel
theorem dX0_isFoundBy_19 : decode cX0_isFoundBy 19 = .ok (.iconst 2, 1) := by decide +kernel
theorem dX0_isFoundBy_20 : decode cX0_isFoundBy 20 = .ok (.irem, 1) := by decide +kernel
theorem dX0_isFoundBy_21 : decode cX0_isFoundBy 21 = .ok (.iconst 1, 1) := by decide +kernel
theorem dX0_isFoundBy_22 : decode cX0_isFoundBy 22 = .ok (.if_icmp .ne 7, 3) := by decide +kernel
theorem dX0_isFoundBy_25 : decode cX0_isFoundBy 25 = .ok (.iconst 1, 1) := by decide +kernel
theorem dX0_isFoundBy_26 : decode cX0_isFoundBy 26 = .ok (.goto 4, 3) := by decide +kernel
theorem dX0_isFoundBy_29 : decode cX0_isFoundBy 29 = .ok (.iconst 0, 1) := by decide +kernel
theorem dX0_isFoundBy_30 : decode cX0_isFoundBy 30 = .ok (.ireturn, 1) := by decide +kernel
set_option maxRecDepth 20000 in
theorem dX0_foundOf_0 : decode cX0_foundOf 0 = .ok (.aload_n 0, 1) := by decide +kernel
theorem dX0_foundOf_1 : decode cX0_foundOf 1 = .ok (.aload_n 0, 1) := by decide +kernel
theorem dX0_foundOf_2 : decode cX0_foundOf 2 = .ok (.getfield 18, 3) := by decide +kernel
theorem dX0_foundOf_5 : decode cX0_foundOf 5 = .ok (.iload_n 1, 1) := by decide +kernel
theorem dX0_foundOf_6 : decode cX0_foundOf 6 = .ok (.iaload, 1) := by decide +kernel
theorem dX0_foundOf_7 : decode cX0_foundOf 7 = .ok (.invokevirtual 55, 3) := by decide +kernel
theorem dX0_foundOf_10 : decode cX0_foundOf 10 = .ok (.istore_n 2, 1) := by decide +kernel
theorem dX0_foundOf_11 : decode cX0_foundOf 11 = .ok (.aload_n 0, 1) := by decide +kernel
theorem dX0_foundOf_12 : decode cX0_foundOf 12 = .ok (.getfield 9, 3) := by decide +kernel
theorem dX0_foundOf_15 : decode cX0_foundOf 15 = .ok (.iload_n 1, 1) := by decide +kernel
theorem dX0_foundOf_16 : decode cX0_foundOf 16 = .ok (.iaload, 1) := by decide +kernel
theorem dX0_foundOf_17 : decode cX0_foundOf 17 = .ok (.tableswitch 84 1 5 #[35, 84, 35, 56, 67], 35) := by decide +kernel
theorem dX0_foundOf_52 : decode cX0_foundOf 52 = .ok (.aload_n 0, 1) := by decide +kernel
theorem dX0_foundOf_53 : decode cX0_foundOf 53 = .ok (.getfield 21, 3) := by decide +kernel
theorem dX0_foundOf_56 : decode cX0_foundOf 56 = .ok (.iload_n 1, 1) := by decide +kernel
theorem dX0_foundOf_57 : decode cX0_foundOf 57 = .ok (.iaload, 1) := by decide +kernel
theorem dX0_foundOf_58 : decode cX0_foundOf 58 = .ok (.iconst 5, 1) := by decide +kernel
theorem dX0_foundOf_59 : decode cX0_foundOf 59 = .ok (.if_icmp .ge 12, 3) := by decide +kernel
theorem dX0_foundOf_62 : decode cX0_foundOf 62 = .ok (.iload_n 2, 1) := by decide +kernel
theorem dX0_foundOf_63 : decode cX0_foundOf 63 = .ok (.iconst 2, 1) := by decide +kernel
theorem dX0_foundOf_64 : decode cX0_foundOf 64 = .ok (.if_icmp .eq 7, 3) := by decide +kernel
theorem dX0_foundOf_67 : decode cX0_foundOf 67 = .ok (.iconst 1, 1) := by decide +kernel
theorem dX0_foundOf_68 : decode cX0_foundOf 68 = .ok (.goto 4, 3) := by decide +kernel
theorem dX0_foundOf_71 : decode cX0_foundOf 71 = .ok (.iload_n 2, 1) := by decide +kernel
theorem dX0_foundOf_72 : decode cX0_foundOf 72 = .ok (.ireturn, 1) := by decide +kernel
theorem dX0_foundOf_73 : decode cX0_foundOf 73 = .ok (.iload_n 2, 1) := by decide +kernel
theorem dX0_foundOf_74 : decode cX0_foundOf 74 = .ok (.iconst 2, 1) := by decide +kernel
theorem dX0_foundOf_75 : decode cX0_foundOf 75 = .ok (.if_icmp .ne 7, 3) := by decide +kernel
theorem dX0_foundOf_78 : decode cX0_foundOf 78 = .ok (.iconst 2, 1) := by decide +kernel
theorem dX0_foundOf_79 : decode cX0_foundOf 79 = .ok (.goto 4, 3) := by decide +kernel
theorem dX0_foundOf_82 : decode cX0_foundOf 82 = .ok (.iconst 0, 1) := by decide +kernel
theorem dX0_foundOf_83 : decode cX0_foundOf 83 = .ok (.ireturn, 1) := by decide +kernel
theorem dX0_foundOf_84 : decode cX0_foundOf 84 = .ok (.aload_n 0, 1) := by decide +kernel
theorem dX0_foundOf_85 : decode cX0_foundOf 85 = .ok (.getfield 21, 3) := by decide +kernel
theorem dX0_foundOf_88 : decode cX0_foundOf 88 = .ok (.iload_n 1, 1) := by decide +kernel
theorem dX0_foundOf_89 : decode cX0_foundOf 89 = .ok (.iaload, 1) := by decide +kernel
theorem dX0_foundOf_90 : decode cX0_foundOf 90 = .ok (.bipush 50, 2) := by decide +kernel
theorem dX0_foundOf_92 : decode cX0_foundOf 92 = .ok (.if_icmp .lt 7, 3) := by decide +kernel
theorem dX0_foundOf_95 : decode cX0_foundOf 95 = .ok (.iconst 2, 1) := by decide +kernel
theorem dX0_foundOf_96 : decode cX0_foundOf 96 = .ok (.goto 4, 3) := by decide +kernel
theorem dX0_foundOf_99 : decode cX0_foundOf 99 = .ok (.iload_n 2, 1) := by decide +kernel
theorem dX0_foundOf_100 : decode cX0_foundOf 100 = .ok (.ireturn, 1) := by decide +kernel
theorem dX0_foundOf_101 : decode cX0_foundOf 101 = .ok (.iload_n 2, 1) := by decide +kernel
theorem dX0_foundOf_102 : decode cX0_foundOf 102 = .ok (.ireturn, 1) := by decide +kernel
set_option maxRecDepth 20000 in
theorem dX0_howManyFound_0 : decode cX0_howManyFound 0 = .ok (.iconst 0, 1) := by decide +kernel
theorem dX0_howManyFound_1 : decode cX0_howManyFound 1 = .ok (.istore_n 2, 1) := by decide +kernel
theorem dX0_howManyFound_2 : decode cX0_howManyFound 2 = .ok (.iconst 0, 1) := by decide +kernel
theorem dX0_howManyFound_3 : decode cX0_howManyFound 3 = .ok (.istore_n 3, 1) := by decide +kernel
theorem dX0_howManyFound_4 : decode cX0_howManyFound 4 = .ok (.iload_n 3, 1) := by decide +kernel
theorem dX0_howManyFound_5 : decode cX0_howManyFound 5 = .ok (.aload_n 0, 1) := by decide +kernel
theorem dX0_howManyFound_6 : decode cX0_howManyFound 6 = .ok (.getfield 35, 3) := by decide +kernel
theorem dX0_howManyFound_9 : decode cX0_howManyFound 9 = .ok (.if_icmp .ge 26, 3) := by decide +kernel
theorem dX0_howManyFound_12 : decode cX0_howManyFound 12 = .ok (.iload_n 2, 1) := by decide +kernel
theorem dX0_howManyFound_13 : decode cX0_howManyFound 13 = .ok (.aload_n 0, 1) := by decide +kernel
theorem dX0_howManyFound_14 : decode cX0_howManyFound 14 = .ok (.iload_n 3, 1) := by decide +kernel
theorem dX0_howManyFound_15 : decode cX0_howManyFound 15 = .ok (.invokevirtual 59, 3) := by decide +kernel
theorem dX0_howManyFound_18 : decode cX0_howManyFound 18 = .ok (.iload_n 1, 1) := by decide +kernel
theorem dX0_howManyFound_19 : decode cX0_howManyFound 19 = .ok (.if_icmp .ne 7, 3) := by decide +kernel
theorem dX0_howManyFound_22 : decode cX0_howManyFound 22 = .ok (.iconst 1, 1) := by decide +kernel
theorem dX0_howManyFound_23 : decode cX0_howManyFound 23 = .ok (.goto 4, 3) := by decide +kernel
theorem dX0_howManyFound_26 : decode cX0_howManyFound 26 = .ok (.iconst 0, 1) := by decide +kernel
theorem dX0_howManyFound_27 : decode cX0_howManyFound 27 = .ok (.iadd, 1) := by decide +kernel
theorem dX0_howManyFound_28 : decode cX0_howManyFound 28 = .ok (.istore_n 2, 1) := by decide +kernel
theorem dX0_howManyFound_29 : decode cX0_howManyFound 29 = .ok (.iinc 3 1, 3) := by decide +kernel
theorem dX0_howManyFound_32 : decode cX0_howManyFound 32 = .ok (.goto (-28), 3) := by decide +kernel
theorem dX0_howManyFound_35 : decode cX0_howManyFound 35 = .ok (.iload_n 2, 1) := by decide +kernel
theorem dX0_howManyFound_36 : decode cX0_howManyFound 36 = .ok (.ireturn, 1) := by decide +kernel
set_option maxRecDepth 20000 in
theorem dX0_landing_0 : decode cX0_landing 0 = .ok (.aload_n 0, 1) := by decide +kernel
theorem dX0_landing_1 : decode cX0_landing 1 = .ok (.iload_n 1, 1) := by decide +kernel
theorem dX0_landing_2 : decode cX0_landing 2 = .ok (.iload_n 3, 1) := by decide +kernel
theorem dX0_landing_3 : decode cX0_landing 3 = .ok (.invokevirtual 62, 3) := by decide +kernel
theorem dX0_landing_6 : decode cX0_landing 6 = .ok (.ifCond .ne 5, 3) := by decide +kernel
theorem dX0_landing_9 : decode cX0_landing 9 = .ok (.iconst (-1), 1) := by decide +kernel
theorem dX0_landing_10 : decode cX0_landing 10 = .ok (.ireturn, 1) := by decide +kernel
theorem dX0_landing_11 : decode cX0_landing 11 = .ok (.getstatic 66, 3) := by decide +kernel
theorem dX0_landing_14 : decode cX0_landing 14 = .ok (.iload_n 3, 1) := by decide +kernel
theorem dX0_landing_15 : decode cX0_landing 15 = .ok (.iaload, 1) := by decide +kernel
theorem dX0_landing_16 : decode cX0_landing 16 = .ok (.istore 4, 2) := by decide +kernel
theorem dX0_landing_18 : decode cX0_landing 18 = .ok (.getstatic 69, 3) := by decide +kernel
theorem dX0_landing_21 : decode cX0_landing 21 = .ok (.iload_n 3, 1) := by decide +kernel
theorem dX0_landing_22 : decode cX0_landing 22 = .ok (.iaload, 1) := by decide +kernel
theorem dX0_landing_23 : decode cX0_landing 23 = .ok (.istore 5, 2) := by decide +kernel
theorem dX0_landing_25 : decode cX0_landing 25 = .ok (.aload_n 0, 1) := by decide +kernel
theorem dX0_landing_26 : decode cX0_landing 26 = .ok (.getfield 9, 3) := by decide +kernel
theorem dX0_landing_29 : decode cX0_landing 29 = .ok (.iload_n 1, 1) := by decide +kernel
theorem dX0_landing_30 : decode cX0_landing 30 = .ok (.iaload, 1) := by decide +kernel
theorem dX0_landing_31 : decode cX0_landing 31 = .ok (.iconst 1, 1) := by decide +kernel
theorem dX0_landing_32 : decode cX0_landing 32 = .ok (.if_icmp .eq 13, 3) := by decide +kernel
theorem dX0_landing_35 : decode cX0_landing 35 = .ok (.aload_n 0, 1) := by decide +kernel
theorem dX0_landing_36 : decode cX0_landing 36 = .ok (.getfield 9, 3) := by decide +kernel
theorem dX0_landing_39 : decode cX0_landing 39 = .ok (.iload_n 1, 1) := by decide +kernel
theorem dX0_landing_40 : decode cX0_landing 40 = .ok (.iaload, 1) := by decide +kernel
theorem dX0_landing_41 : decode cX0_landing 41 = .ok (.iconst 3, 1) := by decide +kernel
theorem dX0_landing_42 : decode cX0_landing 42 = .ok (.if_icmp .ne 20, 3) := by decide +kernel
theorem dX0_landing_45 : decode cX0_landing 45 = .ok (.getstatic 72, 3) := by decide +kernel
theorem dX0_landing_48 : decode cX0_landing 48 = .ok (.iload_n 3, 1) := by decide +kernel
theorem dX0_landing_49 : decode cX0_landing 49 = .ok (.iaload, 1) := by decide +kernel
theorem dX0_landing_50 : decode cX0_landing 50 = .ok (.istore 4, 2) := by decide +kernel
theorem dX0_landing_52 : decode cX0_landing 52 = .ok (.getstatic 75, 3) := by decide +kernel
theorem dX0_landing_55 : decode cX0_landing 55 = .ok (.iload_n 3, 1) := by decide +kernel
theorem dX0_landing_56 : decode cX0_landing 56 = .ok (.iaload, 1) := by decide +kernel
theorem dX0_landing_57 : decode cX0_landing 57 = .ok (.istore 5, 2) := by decide +kernel
theorem dX0_landing_59 : decode cX0_landing 59 = .ok (.goto 37, 3) := by decide +kernel
theorem dX0_landing_62 : decode cX0_landing 62 = .ok (.aload_n 0, 1) := by decide +kernel
theorem dX0_landing_63 : decode cX0_landing 63 = .ok (.getfield 9, 3) := by decide +kernel
theorem dX0_landing_66 : decode cX0_landing 66 = .ok (.iload_n 1, 1) := by decide +kernel
theorem dX0_landing_67 : decode cX0_landing 67 = .ok (.iaload, 1) := by decide +kernel
theorem dX0_landing_68 : decode cX0_landing 68 = .ok (.iconst 2, 1) := by decide +kernel
theorem dX0_landing_69 : decode cX0_landing 69 = .ok (.if_icmp .eq 13, 3) := by decide +kernel
theorem dX0_landing_72 : decode cX0_landing 72 = .ok (.aload_n 0, 1) := by decide +kernel
theorem dX0_landing_73 : decode cX0_landing 73 = .ok (.getfield 9, 3) := by decide +kernel
theorem dX0_landing_76 : decode cX0_landing 76 = .ok (.iload_n 1, 1) := by decide +kernel
theorem dX0_landing_77 : decode cX0_landing 77 = .ok (.iaload, 1) := by decide +kernel
theorem dX0_landing_78 : decode cX0_landing 78 = .ok (.iconst 4, 1) := by decide +kernel
theorem dX0_landing_79 : decode cX0_landing 79 = .ok (.if_icmp .ne 17, 3) := by decide +kernel
theorem dX0_landing_82 : decode cX0_landing 82 = .ok (.getstatic 78, 3) := by decide +kernel
theorem dX0_landing_85 : decode cX0_landing 85 = .ok (.iload_n 3, 1) := by decide +kernel
theorem dX0_landing_86 : decode cX0_landing 86 = .ok (.iaload, 1) := by decide +kernel
theorem dX0_landing_87 : decode cX0_landing 87 = .ok (.istore 4, 2) := by decide +kernel
theorem dX0_landing_89 : decode cX0_landing 89 = .ok (.getstatic 81, 3) := by decide +kernel
theorem dX0_landing_92 : decode cX0_landing 92 = .ok (.iload_n 3, 1) := by decide +kernel
theorem dX0_landing_93 : decode cX0_landing 93 = .ok (.iaload, 1) := by decide +kernel
theorem dX0_landing_94 : decode cX0_landing 94 = .ok (.istore 5, 2) := by decide +kernel
theorem dX0_landing_96 : decode cX0_landing 96 = .ok (.iload_n 2, 1) := by decide +kernel
theorem dX0_landing_97 : decode cX0_landing 97 = .ok (.bipush 8, 2) := by decide +kernel
theorem dX0_landing_99 : decode cX0_landing 99 = .ok (.irem, 1) := by decide +kernel
theorem dX0_landing_100 : decode cX0_landing 100 = .ok (.iload 4, 2) := by decide +kernel
theorem dX0_landing_102 : decode cX0_landing 102 = .ok (.iadd, 1) := by decide +kernel
theorem dX0_landing_103 : decode cX0_landing 103 = .ok (.istore 6, 2) := by decide +kernel
theorem dX0_landing_105 : decode cX0_landing 105 = .ok (.iload_n 2, 1) := by decide +kernel
theorem dX0_landing_106 : decode cX0_landing 106 = .ok (.bipush 8, 2) := by decide +kernel
theorem dX0_landing_108 : decode cX0_landing 108 = .ok (.idiv, 1) := by decide +kernel
theorem dX0_landing_109 : decode cX0_landing 109 = .ok (.iload 5, 2) := by decide +kernel
theorem dX0_landing_111 : decode cX0_landing 111 = .ok (.iadd, 1) := by decide +kernel
theorem dX0_landing_112 : decode cX0_landing 112 = .ok (.istore 7, 2) := by decide +kernel
theorem dX0_landing_114 : decode cX0_landing 114 = .ok (.iload 6, 2) := by decide +kernel
theorem dX0_landing_116 : decode cX0_landing 116 = .ok (.bipush 7, 2) := by decide +kernel
theorem dX0_landing_118 : decode cX0_landing 118 = .ok (.invokestatic 84, 3) := by decide +kernel
theorem dX0_landing_121 : decode cX0_landing 121 = .ok (.ifCond .eq 28, 3) := by decide +kernel
theorem dX0_landing_124 : decode cX0_landing 124 = .ok (.iload 7, 2) := by decide +kernel
theorem dX0_landing_126 : decode cX0_landing 126 = .ok (.bipush 7, 2) := by decide +kernel
theorem dX0_landing_128 : decode cX0_landing 128 = .ok (.invokestatic 84, 3) := by decide +kernel
theorem dX0_landing_131 : decode cX0_landing 131 = .ok (.ifCond .eq 18, 3) := by decide +kernel
theorem dX0_landing_134 : decode cX0_landing 134 = .ok (.aload_n 0, 1) := by decide +kernel
theorem dX0_landing_135 : decode cX0_landing 135 = .ok (.bipush 8, 2) := by decide +kernel
theorem dX0_landing_137 : decode cX0_landing 137 = .ok (.iload 7, 2) := by decide +kernel
theorem dX0_landing_139 : decode cX0_landing 139 = .ok (.imul, 1) := by decide +kernel
theorem dX0_landing_140 : decode cX0_landing 140 = .ok (.iload 6, 2) := by decide +kernel
theorem dX0_landing_142 : decode cX0_landing 142 = .ok (.iadd, 1) := by decide +kernel
theorem dX0_landing_143 : decode cX0_landing 143 = .ok (.invokevirtual 87, 3) := by decide +kernel
theorem dX0_landing_146 : decode cX0_landing 146 = .ok (.ifCond .eq 5, 3) := by decide +kernel
theorem dX0_landing_149 : decode cX0_landing 149 = .ok (.iconst (-1), 1) := by decide +kernel
theorem dX0_landing_150 : decode cX0_landing 150 = .ok (.ireturn, 1) := by decide +kernel
theorem dX0_landing_151 : decode cX0_landing 151 = .ok (.bipush 8, 2) := by decide +kernel
theorem dX0_landing_153 : decode cX0_landing 153 = .ok (.iload 7, 2) := by decide +kernel
theorem dX0_landing_155 : decode cX0_landing 155 = .ok (.imul, 1) := by decide +kernel
theorem dX0_landing_156 : decode cX0_landing 156 = .ok (.iload 6, 2) := by decide +kernel
theorem dX0_landing_158 : decode cX0_landing 158 = .ok (.iadd, 1) := by decide +kernel
theorem dX0_landing_159 : decode cX0_landing 159 = .ok (.ireturn, 1) := by decide +kernel
theorem dX0_leapsBy_0 : decode cX0_leapsBy 0 = .ok (.aload_n 0, 1) := by decide +kernel
theorem dX0_leapsBy_1 : decode cX0_leapsBy 1 = .ok (.getfield 9, 3) := by decide +kernel
theorem dX0_leapsBy_4 : decode cX0_leapsBy 4 = .ok (.iload_n 1, 1) := by decide +kernel
theorem dX0_leapsBy_5 : decode cX0_leapsBy 5 = .ok (.iaload, 1) := by decide +kernel
theorem dX0_leapsBy_6 : decode cX0_leapsBy 6 = .ok (.tableswitch 96 2 5 #[30, 42, 58, 79], 30) := by decide +kernel
theorem dX0_leapsBy_36 : decode cX0_leapsBy 36 = .ok (.iload_n 2, 1) := by decide +kernel
theorem dX0_leapsBy_37 : decode cX0_leapsBy 37 = .ok (.iconst 2, 1) := by decide +kernel
theorem dX0_leapsBy_38 : decode cX0_leapsBy 38 = .ok (.irem, 1) := by decide +kernel
theorem dX0_leapsBy_39 : decode cX0_leapsBy 39 = .ok (.ifCond .ne 7, 3) := by decide +kernel
theorem dX0_leapsBy_42 : decode cX0_leapsBy 42 = .ok (.iconst 1, 1) := by decide +kernel
theorem dX0_leapsBy_43 : decode cX0_leapsBy 43 = .ok (.goto 4, 3) := by decide +kernel
theorem dX0_leapsBy_46 : decode cX0_leapsBy 46 = .ok (.iconst 0, 1) := by decide +kernel
theorem dX0_leapsBy_47 : decode cX0_leapsBy 47 = .ok (.ireturn, 1) := by decide +kernel
theorem dX0_leapsBy_48 : decode cX0_leapsBy 48 = .ok (.iload_n 2, 1) := by decide +kernel
theorem dX0_leapsBy_49 : decode cX0_leapsBy 49 = .ok (.aload_n 0, 1) := by decide +kernel
theorem dX0_leapsBy_50 : decode cX0_leapsBy 50 = .ok (.getfield 15, 3) := by decide +kernel
theorem dX0_leapsBy_53 : decode cX0_leapsBy 53 = .ok (.iload_n 1, 1) := by decide +kernel
theorem dX0_leapsBy_54 : decode cX0_leapsBy 54 = .ok (.iaload, 1) := by decide +kernel
theorem dX0_leapsBy_55 : decode cX0_leapsBy 55 = .ok (.if_icmp .eq 7, 3) := by decide +kernel
theorem dX0_leapsBy_58 : decode cX0_leapsBy 58 = .ok (.iconst 1, 1) := by decide +kernel
theorem dX0_leapsBy_59 : decode cX0_leapsBy 59 = .ok (.goto 4, 3) := by decide +kernel
theorem dX0_leapsBy_62 : decode cX0_leapsBy 62 = .ok (.iconst 0, 1) := by decide +kernel
theorem dX0_leapsBy_63 : decode cX0_leapsBy 63 = .ok (.ireturn, 1) := by decide +kernel
theorem dX0_leapsBy_64 : decode cX0_leapsBy 64 = .ok (.iload_n 2, 1) := by decide +kernel
theorem dX0_leapsBy_65 : decode cX0_leapsBy 65 = .ok (.iconst 2, 1) := by decide +kernel
theorem dX0_leapsBy_66 : decode cX0_leapsBy 66 = .ok (.irem, 1) := by decide +kernel
theorem dX0_leapsBy_67 : decode cX0_leapsBy 67 = .ok (.ifCond .ne 16, 3) := by decide +kernel
theorem dX0_leapsBy_70 : decode cX0_leapsBy 70 = .ok (.aload_n 0, 1) := by decide +kernel
theorem dX0_leapsBy_71 : decode cX0_leapsBy 71 = .ok (.getfield 31, 3) := by decide +kernel
theorem dX0_leapsBy_74 : decode cX0_leapsBy 74 = .ok (.iconst 2, 1) := by decide +kernel
theorem dX0_leapsBy_75 : decode cX0_leapsBy 75 = .ok (.irem, 1) := by decide +kernel
theorem dX0_leapsBy_76 : decode cX0_leapsBy 76 = .ok (.ifCond .ne 7, 3) := by decide +kernel
theorem dX0_leapsBy_79 : decode cX0_leapsBy 79 = .ok (.iconst 1, 1) := by decide +kernel
theorem dX0_leapsBy_80 : decode cX0_leapsBy 80 = .ok (.goto 4, 3) := by decide +kernel
theorem dX0_leapsBy_83 : decode cX0_leapsBy 83 = .ok (.iconst 0, 1) := by decide +kernel
theorem dX0_leapsBy_84 : decode cX0_leapsBy 84 = .ok (.ireturn, 1) := by decide +kernel
theorem dX0_leapsBy_85 : decode cX0_leapsBy 85 = .ok (.aload_n 0, 1) := by decide +kernel
theorem dX0_leapsBy_86 : decode cX0_leapsBy 86 = .ok (.getfield 21, 3) := by decide +kernel
theorem dX0_leapsBy_89 : decode cX0_leapsBy 89 = .ok (.iload_n 1, 1) := by decide +kernel
theorem dX0_leapsBy_90 : decode cX0_leapsBy 90 = .ok (.iaload, 1) := by decide +kernel
theorem dX0_leapsBy_91 : decode cX0_leapsBy 91 = .ok (.bipush 50, 2) := by decide +kernel
theorem dX0_leapsBy_93 : decode cX0_leapsBy 93 = .ok (.if_icmp .ge 7, 3) := by decide +kernel
theorem dX0_leapsBy_96 : decode cX0_leapsBy 96 = .ok (.iconst 1, 1) := by decide +kernel
theorem dX0_leapsBy_97 : decode cX0_leapsBy 97 = .ok (.goto 4, 3) := by decide +kernel
theorem dX0_leapsBy_100 : decode cX0_leapsBy 100 = .ok (.iconst 0, 1) := by decide +kernel
theorem dX0_leapsBy_101 : decode cX0_leapsBy 101 = .ok (.ireturn, 1) := by decide +kernel
theorem dX0_leapsBy_102 : decode cX0_leapsBy 102 = .ok (.iconst 1, 1) := by decide +kernel
theorem dX0_leapsBy_103 : decode cX0_leapsBy 103 = .ok (.ireturn, 1) := by decide +kernel
set_option maxRecDepth 20000 in
theorem dX0_aLeapFurther_0 : decode cX0_aLeapFurther 0 = .ok (.lload_n 2, 1) := by decide +kernel
theorem dX0_aLeapFurther_1 : decode cX0_aLeapFurther 1 = .ok (.lstore 4, 2) := by decide +kernel
theorem dX0_aLeapFurther_3 : decode cX0_aLeapFurther 3 = .ok (.iconst 0, 1) := by decide +kernel
theorem dX0_aLeapFurther_4 : decode cX0_aLeapFurther 4 = .ok (.istore 6, 2) := by decide +kernel
theorem dX0_aLeapFurther_6 : decode cX0_aLeapFurther 6 = .ok (.iload 6, 2) := by decide +kernel
theorem dX0_aLeapFurther_8 : decode cX0_aLeapFurther 8 = .ok (.bipush 64, 2) := by decide +kernel
theorem dX0_aLeapFurther_10 : decode cX0_aLeapFurther 10 = .ok (.if_icmp .ge 64, 3) := by decide +kernel
theorem dX0_aLeapFurther_13 : decode cX0_aLeapFurther 13 = .ok (.iconst 0, 1) := by decide +kernel
theorem dX0_aLeapFurther_14 : decode cX0_aLeapFurther 14 = .ok (.istore 7, 2) := by decide +kernel
theorem dX0_aLeapFurther_16 : decode cX0_aLeapFurther 16 = .ok (.iload 7, 2) := by decide +kernel
theorem dX0_aLeapFurther_18 : decode cX0_aLeapFurther 18 = .ok (.bipush 8, 2) := by decide +kernel
theorem dX0_aLeapFurther_20 : decode cX0_aLeapFurther 20 = .ok (.if_icmp .ge 48, 3) := by decide +kernel
theorem dX0_aLeapFurther_23 : decode cX0_aLeapFurther 23 = .ok (.lload_n 2, 1) := by decide +kernel
theorem dX0_aLeapFurther_24 : decode cX0_aLeapFurther 24 = .ok (.iload 6, 2) := by decide +kernel
theorem dX0_aLeapFurther_26 : decode cX0_aLeapFurther 26 = .ok (.invokestatic 47, 3) := by decide +kernel
theorem dX0_aLeapFurther_29 : decode cX0_aLeapFurther 29 = .ok (.ifCond .eq 39, 3) := by decide +kernel
theorem dX0_aLeapFurther_32 : decode cX0_aLeapFurther 32 = .ok (.aload_n 0, 1) := by decide +kernel
theorem dX0_aLeapFurther_33 : decode cX0_aLeapFurther 33 = .ok (.iload_n 1, 1) := by decide +kernel
theorem dX0_aLeapFurther_34 : decode cX0_aLeapFurther 34 = .ok (.iload 6, 2) := by decide +kernel
theorem dX0_aLeapFurther_36 : decode cX0_aLeapFurther 36 = .ok (.iload 7, 2) := by decide +kernel
theorem dX0_aLeapFurther_38 : decode cX0_aLeapFurther 38 = .ok (.invokevirtual 90, 3) := by decide +kernel
theorem dX0_aLeapFurther_41 : decode cX0_aLeapFurther 41 = .ok (.istore 8, 2) := by decide +kernel
theorem dX0_aLeapFurther_43 : decode cX0_aLeapFurther 43 = .ok (.lload 4, 2) := by decide +kernel
theorem dX0_aLeapFurther_45 : decode cX0_aLeapFurther 45 = .ok (.iload 8, 2) := by decide +kernel
theorem dX0_aLeapFurther_47 : decode cX0_aLeapFurther 47 = .ok (.iconst (-1), 1) := by decide +kernel
theorem dX0_aLeapFurther_48 : decode cX0_aLeapFurther 48 = .ok (.if_icmp .ne 7, 3) := by decide +kernel
theorem dX0_aLeapFurther_51 : decode cX0_aLeapFurther 51 = .ok (.lconst 0, 1) := by decide +kernel
theorem dX0_aLeapFurther_52 : decode cX0_aLeapFurther 52 = .ok (.goto 7, 3) := by decide +kernel
theorem dX0_aLeapFurther_55 : decode cX0_aLeapFurther 55 = .ok (.lconst 1, 1) := by decide +kernel
theorem dX0_aLeapFurther_56 : decode cX0_aLeapFurther 56 = .ok (.iload 8, 2) := by decide +kernel
theorem dX0_aLeapFurther_58 : decode cX0_aLeapFurther 58 = .ok (.lshl, 1) := by decide +kernel
theorem dX0_aLeapFurther_59 : decode cX0_aLeapFurther 59 = .ok (.lor, 1) := by decide +kernel
theorem dX0_aLeapFurther_60 : decode cX0_aLeapFurther 60 = .ok (.lstore 4, 2) := by decide +kernel
theorem dX0_aLeapFurther_62 : decode cX0_aLeapFurther 62 = .ok (.iinc 7 1, 3) := by decide +kernel
theorem dX0_aLeapFurther_65 : decode cX0_aLeapFurther 65 = .ok (.goto (-49), 3) := by decide +kernel
theorem dX0_aLeapFurther_68 : decode cX0_aLeapFurther 68 = .ok (.iinc 6 1, 3) := by decide +kernel
theorem dX0_aLeapFurther_71 : decode cX0_aLeapFurther 71 = .ok (.goto (-65), 3) := by decide +kernel
theorem dX0_aLeapFurther_74 : decode cX0_aLeapFurther 74 = .ok (.lload 4, 2) := by decide +kernel
theorem dX0_aLeapFurther_76 : decode cX0_aLeapFurther 76 = .ok (.lreturn, 1) := by decide +kernel
set_option maxRecDepth 20000 in
theorem dX0_whereDrawn_0 : decode cX0_whereDrawn 0 = .ok (.iload_n 1, 1) := by decide +kernel
theorem dX0_whereDrawn_1 : decode cX0_whereDrawn 1 = .ok (.istore 4, 2) := by decide +kernel
theorem dX0_whereDrawn_3 : decode cX0_whereDrawn 3 = .ok (.aload_n 0, 1) := by decide +kernel
theorem dX0_whereDrawn_4 : decode cX0_whereDrawn 4 = .ok (.getfield 18, 3) := by decide +kernel
theorem dX0_whereDrawn_7 : decode cX0_whereDrawn 7 = .ok (.iload_n 2, 1) := by decide +kernel
theorem dX0_whereDrawn_8 : decode cX0_whereDrawn 8 = .ok (.iaload, 1) := by decide +kernel
theorem dX0_whereDrawn_9 : decode cX0_whereDrawn 9 = .ok (.istore 5, 2) := by decide +kernel
theorem dX0_whereDrawn_11 : decode cX0_whereDrawn 11 = .ok (.iconst 0, 1) := by decide +kernel
theorem dX0_whereDrawn_12 : decode cX0_whereDrawn 12 = .ok (.istore 6, 2) := by decide +kernel
theorem dX0_whereDrawn_14 : decode cX0_whereDrawn 14 = .ok (.iload 6, 2) := by decide +kernel
theorem dX0_whereDrawn_16 : decode cX0_whereDrawn 16 = .ok (.iload_n 3, 1) := by decide +kernel
theorem dX0_whereDrawn_17 : decode cX0_whereDrawn 17 = .ok (.if_icmp .ge 52, 3) := by decide +kernel
theorem dX0_whereDrawn_20 : decode cX0_whereDrawn 20 = .ok (.iload 4, 2) := by decide +kernel
theorem dX0_whereDrawn_22 : decode cX0_whereDrawn 22 = .ok (.ldc 94, 2) := by decide +kernel
theorem dX0_whereDrawn_24 : decode cX0_whereDrawn 24 = .ok (.imul, 1) := by decide +kernel
theorem dX0_whereDrawn_25 : decode cX0_whereDrawn 25 = .ok (.sipush 12345, 3) := by decide +kernel
theorem dX0_whereDrawn_28 : decode cX0_whereDrawn 28 = .ok (.iadd, 1) := by decide +kernel
theorem dX0_whereDrawn_29 : decode cX0_whereDrawn 29 = .ok (.istore 4, 2) := by decide +kernel
theorem dX0_whereDrawn_31 : decode cX0_whereDrawn 31 = .ok (.aload_n 0, 1) := by decide +kernel
theorem dX0_whereDrawn_32 : decode cX0_whereDrawn 32 = .ok (.iload_n 2, 1) := by decide +kernel
theorem dX0_whereDrawn_33 : decode cX0_whereDrawn 33 = .ok (.iload 5, 2) := by decide +kernel
theorem dX0_whereDrawn_35 : decode cX0_whereDrawn 35 = .ok (.iload 4, 2) := by decide +kernel
theorem dX0_whereDrawn_37 : decode cX0_whereDrawn 37 = .ok (.bipush 9, 2) := by decide +kernel
theorem dX0_whereDrawn_39 : decode cX0_whereDrawn 39 = .ok (.iushr, 1) := by decide +kernel
theorem dX0_whereDrawn_40 : decode cX0_whereDrawn 40 = .ok (.bipush 8, 2) := by decide +kernel
theorem dX0_whereDrawn_42 : decode cX0_whereDrawn 42 = .ok (.irem, 1) := by decide +kernel
theorem dX0_whereDrawn_43 : decode cX0_whereDrawn 43 = .ok (.invokevirtual 90, 3) := by decide +kernel
theorem dX0_whereDrawn_46 : decode cX0_whereDrawn 46 = .ok (.istore 7, 2) := by decide +kernel
theorem dX0_whereDrawn_48 : decode cX0_whereDrawn 48 = .ok (.iload 7, 2) := by decide +kernel
theorem dX0_whereDrawn_50 : decode cX0_whereDrawn 50 = .ok (.iconst (-1), 1) := by decide +kernel
theorem dX0_whereDrawn_51 : decode cX0_whereDrawn 51 = .ok (.if_icmp .ne 8, 3) := by decide +kernel
theorem dX0_whereDrawn_54 : decode cX0_whereDrawn 54 = .ok (.iload 5, 2) := by decide +kernel
theorem dX0_whereDrawn_56 : decode cX0_whereDrawn 56 = .ok (.goto 5, 3) := by decide +kernel
theorem dX0_whereDrawn_59 : decode cX0_whereDrawn 59 = .ok (.iload 7, 2) := by decide +kernel
theorem dX0_whereDrawn_61 : decode cX0_whereDrawn 61 = .ok (.istore 5, 2) := by decide +kernel
theorem dX0_whereDrawn_63 : decode cX0_whereDrawn 63 = .ok (.iinc 6 1, 3) := by decide +kernel
theorem dX0_whereDrawn_66 : decode cX0_whereDrawn 66 = .ok (.goto (-52), 3) := by decide +kernel
theorem dX0_whereDrawn_69 : decode cX0_whereDrawn 69 = .ok (.iload 5, 2) := by decide +kernel
theorem dX0_whereDrawn_71 : decode cX0_whereDrawn 71 = .ok (.ireturn, 1) := by decide +kernel
theorem dX0_tires_0 : decode cX0_tires 0 = .ok (.aload_n 0, 1) := by decide +kernel
theorem dX0_tires_1 : decode cX0_tires 1 = .ok (.getfield 9, 3) := by decide +kernel
theorem dX0_tires_4 : decode cX0_tires 4 = .ok (.iload_n 1, 1) := by decide +kernel
theorem dX0_tires_5 : decode cX0_tires 5 = .ok (.iaload, 1) := by decide +kernel
theorem dX0_tires_6 : decode cX0_tires 6 = .ok (.tableswitch 64 1 5 #[34, 38, 42, 53, 59], 34) := by decide +kernel
theorem dX0_tires_40 : decode cX0_tires 40 = .ok (.iload_n 2, 1) := by decide +kernel
theorem dX0_tires_41 : decode cX0_tires 41 = .ok (.iconst 2, 1) := by decide +kernel
theorem dX0_tires_42 : decode cX0_tires 42 = .ok (.idiv, 1) := by decide +kernel
theorem dX0_tires_43 : decode cX0_tires 43 = .ok (.ireturn, 1) := by decide +kernel
theorem dX0_tires_44 : decode cX0_tires 44 = .ok (.iload_n 2, 1) := by decide +kernel
theorem dX0_tires_45 : decode cX0_tires 45 = .ok (.iconst 1, 1) := by decide +kernel
theorem dX0_tires_46 : decode cX0_tires 46 = .ok (.iadd, 1) := by decide +kernel
theorem dX0_tires_47 : decode cX0_tires 47 = .ok (.ireturn, 1) := by decide +kernel
theorem dX0_tires_48 : decode cX0_tires 48 = .ok (.iload_n 2, 1) := by decide +kernel
theorem dX0_tires_49 : decode cX0_tires 49 = .ok (.iconst 2, 1) := by decide +kernel
theorem dX0_tires_50 : decode cX0_tires 50 = .ok (.idiv, 1) := by decide +kernel
theorem dX0_tires_51 : decode cX0_tires 51 = .ok (.aload_n 0, 1) := by decide +kernel
theorem dX0_tires_52 : decode cX0_tires 52 = .ok (.getfield 15, 3) := by decide +kernel
theorem dX0_tires_55 : decode cX0_tires 55 = .ok (.iload_n 1, 1) := by decide +kernel
theorem dX0_tires_56 : decode cX0_tires 56 = .ok (.iaload, 1) := by decide +kernel
theorem dX0_tires_57 : decode cX0_tires 57 = .ok (.iadd, 1) := by decide +kernel
theorem dX0_tires_58 : decode cX0_tires 58 = .ok (.ireturn, 1) := by decide +kernel
theorem dX0_tires_59 : decode cX0_tires 59 = .ok (.iconst 2, 1) := by decide +kernel
theorem dX0_tires_60 : decode cX0_tires 60 = .ok (.iload_n 2, 1) := by decide +kernel
theorem dX0_tires_61 : decode cX0_tires 61 = .ok (.iconst 1, 1) := by decide +kernel
theorem dX0_tires_62 : decode cX0_tires 62 = .ok (.iadd, 1) := by decide +kernel
theorem dX0_tires_63 : decode cX0_tires 63 = .ok (.imul, 1) := by decide +kernel
theorem dX0_tires_64 : decode cX0_tires 64 = .ok (.ireturn, 1) := by decide +kernel
theorem dX0_tires_65 : decode cX0_tires 65 = .ok (.iload_n 2, 1) := by decide +kernel
theorem dX0_tires_66 : decode cX0_tires 66 = .ok (.bipush 10, 2) := by decide +kernel
theorem dX0_tires_68 : decode cX0_tires 68 = .ok (.iadd, 1) := by decide +kernel
theorem dX0_tires_69 : decode cX0_tires 69 = .ok (.ireturn, 1) := by decide +kernel
theorem dX0_tires_70 : decode cX0_tires 70 = .ok (.iload_n 2, 1) := by decide +kernel
theorem dX0_tires_71 : decode cX0_tires 71 = .ok (.ireturn, 1) := by decide +kernel
theorem dX0_rests_0 : decode cX0_rests 0 = .ok (.aload_n 0, 1) := by decide +kernel
theorem dX0_rests_1 : decode cX0_rests 1 = .ok (.getfield 9, 3) := by decide +kernel
theorem dX0_rests_4 : decode cX0_rests 4 = .ok (.iload_n 1, 1) := by decide +kernel
theorem dX0_rests_5 : decode cX0_rests 5 = .ok (.iaload, 1) := by decide +kernel
theorem dX0_rests_6 : decode cX0_rests 6 = .ok (.tableswitch 47 2 5 #[30, 32, 36, 43], 30) := by decide +kernel
theorem dX0_rests_36 : decode cX0_rests 36 = .ok (.iconst 0, 1) := by decide +kernel
theorem dX0_rests_37 : decode cX0_rests 37 = .ok (.ireturn, 1) := by decide +kernel
theorem dX0_rests_38 : decode cX0_rests 38 = .ok (.iload_n 2, 1) := by decide +kernel
theorem dX0_rests_39 : decode cX0_rests 39 = .ok (.iconst 2, 1) := by decide +kernel
theorem dX0_rests_40 : decode cX0_rests 40 = .ok (.idiv, 1) := by decide +kernel
theorem dX0_rests_41 : decode cX0_rests 41 = .ok (.ireturn, 1) := by decide +kernel
theorem dX0_rests_42 : decode cX0_rests 42 = .ok (.aload_n 0, 1) := by decide +kernel
theorem dX0_rests_43 : decode cX0_rests 43 = .ok (.getfield 15, 3) := by decide +kernel
theorem dX0_rests_46 : decode cX0_rests 46 = .ok (.iload_n 1, 1) := by decide +kernel
theorem dX0_rests_47 : decode cX0_rests 47 = .ok (.iaload, 1) := by decide +kernel
theorem dX0_rests_48 : decode cX0_rests 48 = .ok (.ireturn, 1) := by decide +kernel
theorem dX0_rests_49 : decode cX0_rests 49 = .ok (.iconst 2, 1) := by decide +kernel
theorem dX0_rests_50 : decode cX0_rests 50 = .ok (.iload_n 2, 1) := by decide +kernel
theorem dX0_rests_51 : decode cX0_rests 51 = .ok (.imul, 1) := by decide +kernel
theorem dX0_rests_52 : decode cX0_rests 52 = .ok (.ireturn, 1) := by decide +kernel
theorem dX0_rests_53 : decode cX0_rests 53 = .ok (.iload_n 2, 1) := by decide +kernel
theorem dX0_rests_54 : decode cX0_rests 54 = .ok (.ireturn, 1) := by decide +kernel
set_option maxRecDepth 20000 in
theorem dX0_named_0 : decode cX0_named 0 = .ok (.iload_n 1, 1) := by decide +kernel
theorem dX0_named_1 : decode cX0_named 1 = .ok (.tableswitch 74 (-5) (-1) #[69, 62, 52, 42, 35], 35) := by decide +kernel
theorem dX0_named_36 : decode cX0_named 36 = .ok (.aload_n 0, 1) := by decide +kernel
theorem dX0_named_37 : decode cX0_named 37 = .ok (.getfield 21, 3) := by decide +kernel
theorem dX0_named_40 : decode cX0_named 40 = .ok (.iload_n 2, 1) := by decide +kernel
theorem dX0_named_41 : decode cX0_named 41 = .ok (.iaload, 1) := by decide +kernel
theorem dX0_named_42 : decode cX0_named 42 = .ok (.ireturn, 1) := by decide +kernel
theorem dX0_named_43 : decode cX0_named 43 = .ok (.aload_n 0, 1) := by decide +kernel
theorem dX0_named_44 : decode cX0_named 44 = .ok (.getfield 18, 3) := by decide +kernel
theorem dX0_named_47 : decode cX0_named 47 = .ok (.iload_n 2, 1) := by decide +kernel
theorem dX0_named_48 : decode cX0_named 48 = .ok (.iaload, 1) := by decide +kernel
theorem dX0_named_49 : decode cX0_named 49 = .ok (.bipush 8, 2) := by decide +kernel
theorem dX0_named_51 : decode cX0_named 51 = .ok (.irem, 1) := by decide +kernel
theorem dX0_named_52 : decode cX0_named 52 = .ok (.ireturn, 1) := by decide +kernel
theorem dX0_named_53 : decode cX0_named 53 = .ok (.aload_n 0, 1) := by decide +kernel
theorem dX0_named_54 : decode cX0_named 54 = .ok (.getfield 18, 3) := by decide +kernel
theorem dX0_named_57 : decode cX0_named 57 = .ok (.iload_n 2, 1) := by decide +kernel
theorem dX0_named_58 : decode cX0_named 58 = .ok (.iaload, 1) := by decide +kernel
theorem dX0_named_59 : decode cX0_named 59 = .ok (.bipush 8, 2) := by decide +kernel
theorem dX0_named_61 : decode cX0_named 61 = .ok (.idiv, 1) := by decide +kernel
theorem dX0_named_62 : decode cX0_named 62 = .ok (.ireturn, 1) := by decide +kernel
theorem dX0_named_63 : decode cX0_named 63 = .ok (.aload_n 0, 1) := by decide +kernel
theorem dX0_named_64 : decode cX0_named 64 = .ok (.getfield 15, 3) := by decide +kernel
theorem dX0_named_67 : decode cX0_named 67 = .ok (.iload_n 2, 1) := by decide +kernel
theorem dX0_named_68 : decode cX0_named 68 = .ok (.iaload, 1) := by decide +kernel
theorem dX0_named_69 : decode cX0_named 69 = .ok (.ireturn, 1) := by decide +kernel
theorem dX0_named_70 : decode cX0_named 70 = .ok (.aload_n 0, 1) := by decide +kernel
theorem dX0_named_71 : decode cX0_named 71 = .ok (.getfield 31, 3) := by decide +kernel
theorem dX0_named_74 : decode cX0_named 74 = .ok (.ireturn, 1) := by decide +kernel
theorem dX0_named_75 : decode cX0_named 75 = .ok (.aload_n 0, 1) := by decide +kernel
theorem dX0_named_76 : decode cX0_named 76 = .ok (.getfield 28, 3) := by decide +kernel
theorem dX0_named_79 : decode cX0_named 79 = .ok (.invokestatic 95, 3) := by decide +kernel
theorem dX0_named_82 : decode cX0_named 82 = .ok (.ireturn, 1) := by decide +kernel
theorem dX1_init_0 : decode cX1_init 0 = .ok (.aload_n 0, 1) := by decide +kernel
theorem dX1_init_1 : decode cX1_init 1 = .ok (.invokespecial 3, 3) := by decide +kernel
theorem dX1_init_4 : decode cX1_init 4 = .ok (.aload_n 0, 1) := by decide +kernel
theorem dX1_init_5 : decode cX1_init 5 = .ok (.bipush 6, 2) := by decide +kernel
theorem dX1_init_7 : decode cX1_init 7 = .ok (.anewarray 9, 3) := by decide +kernel
theorem dX1_init_10 : decode cX1_init 10 = .ok (.putfield 11, 3) := by decide +kernel
theorem dX1_init_13 : decode cX1_init 13 = .ok (.aload_n 0, 1) := by decide +kernel
theorem dX1_init_14 : decode cX1_init 14 = .ok (.bipush 40, 2) := by decide +kernel
theorem dX1_init_16 : decode cX1_init 16 = .ok (.newarray .int, 2) := by decide +kernel
theorem dX1_init_18 : decode cX1_init 18 = .ok (.putfield 17, 3) := by decide +kernel
theorem dX1_init_21 : decode cX1_init 21 = .ok (.return_, 1) := by decide +kernel
theorem dX1_add_0 : decode cX1_add 0 = .ok (.aload_n 0, 1) := by decide +kernel
theorem dX1_add_1 : decode cX1_add 1 = .ok (.getfield 21, 3) := by decide +kernel
theorem dX1_add_4 : decode cX1_add 4 = .ok (.bipush 6, 2) := by decide +kernel
theorem dX1_add_6 : decode cX1_add 6 = .ok (.if_icmp .lt 6, 3) := by decide +kernel
theorem dX1_add_9 : decode cX1_add 9 = .ok (.bipush (-4), 2) := by decide +kernel
theorem dX1_add_11 : decode cX1_add 11 = .ok (.ireturn, 1) := by decide +kernel
theorem dX1_add_12 : decode cX1_add 12 = .ok (.aload_n 0, 1) := by decide +kernel
theorem dX1_add_13 : decode cX1_add 13 = .ok (.getfield 11, 3) := by decide +kernel
theorem dX1_add_16 : decode cX1_add 16 = .ok (.aload_n 0, 1) := by decide +kernel
theorem dX1_add_17 : decode cX1_add 17 = .ok (.getfield 21, 3) := by decide +kernel
theorem dX1_add_20 : decode cX1_add 20 = .ok (.aload_n 1, 1) := by decide +kernel
theorem dX1_add_21 : decode cX1_add 21 = .ok (.aastore, 1) := by decide +kernel
theorem dX1_add_22 : decode cX1_add 22 = .ok (.aload_n 0, 1) := by decide +kernel
theorem dX1_add_23 : decode cX1_add 23 = .ok (.dup, 1) := by decide +kernel
theorem dX1_add_24 : decode cX1_add 24 = .ok (.getfield 21, 3) := by decide +kernel
theorem dX1_add_27 : decode cX1_add 27 = .ok (.iconst 1, 1) := by decide +kernel
theorem dX1_add_28 : decode cX1_add 28 = .ok (.iadd, 1) := by decide +kernel
theorem dX1_add_29 : decode cX1_add 29 = .ok (.putfield 21, 3) := by decide +kernel
theorem dX1_add_32 : decode cX1_add 32 = .ok (.aload_n 0, 1) := by decide +kernel
theorem dX1_add_33 : decode cX1_add 33 = .ok (.getfield 21, 3) := by decide +kernel
theorem dX1_add_36 : decode cX1_add 36 = .ok (.iconst 1, 1) := by decide +kernel
theorem dX1_add_37 : decode cX1_add 37 = .ok (.isub, 1) := by decide +kernel
theorem dX1_add_38 : decode cX1_add 38 = .ok (.ireturn, 1) := by decide +kernel
set_option maxRecDepth 20000 in
theorem dX1_passMinutes_0 : decode cX1_passMinutes 0 = .ok (.iconst 0, 1) := by decide +kernel
theorem dX1_passMinutes_1 : decode cX1_passMinutes 1 = .ok (.istore 4, 2) := by decide +kernel
theorem dX1_passMinutes_3 : decode cX1_passMinutes 3 = .ok (.iconst 0, 1) := by decide +kernel
theorem dX1_passMinutes_4 : decode cX1_passMinutes 4 = .ok (.istore 5, 2) := by decide +kernel
theorem dX1_passMinutes_6 : decode cX1_passMinutes 6 = .ok (.iload 5, 2) := by decide +kernel
theorem dX1_passMinutes_8 : decode cX1_passMinutes 8 = .ok (.iload_n 2, 1) := by decide +kernel
theorem dX1_passMinutes_9 : decode cX1_passMinutes 9 = .ok (.if_icmp .ge 71, 3) := by decide +kernel
theorem dX1_passMinutes_12 : decode cX1_passMinutes 12 = .ok (.iconst 0, 1) := by decide +kernel
theorem dX1_passMinutes_13 : decode cX1_passMinutes 13 = .ok (.istore 6, 2) := by decide +kernel
theorem dX1_passMinutes_15 : decode cX1_passMinutes 15 = .ok (.iload 6, 2) := by decide +kernel
theorem dX1_passMinutes_17 : decode cX1_passMinutes 17 = .ok (.aload_n 1, 1) := by decide +kernel
theorem dX1_passMinutes_18 : decode cX1_passMinutes 18 = .ok (.getfield 25, 3) := by decide +kernel
theorem dX1_passMinutes_21 : decode cX1_passMinutes 21 = .ok (.if_icmp .ge 43, 3) := by decide +kernel
theorem dX1_passMinutes_24 : decode cX1_passMinutes 24 = .ok (.iload 4, 2) := by decide +kernel
theorem dX1_passMinutes_26 : decode cX1_passMinutes 26 = .ok (.aload_n 0, 1) := by decide +kernel
theorem dX1_passMinutes_27 : decode cX1_passMinutes 27 = .ok (.aload_n 1, 1) := by decide +kernel
theorem dX1_passMinutes_28 : decode cX1_passMinutes 28 = .ok (.iload 6, 2) := by decide +kernel
theorem dX1_passMinutes_30 : decode cX1_passMinutes 30 = .ok (.iload 6, 2) := by decide +kernel
theorem dX1_passMinutes_32 : decode cX1_passMinutes 32 = .ok (.iload_n 3, 1) := by decide +kernel
theorem dX1_passMinutes_33 : decode cX1_passMinutes 33 = .ok (.if_icmp .ne 7, 3) := by decide +kernel
theorem dX1_passMinutes_36 : decode cX1_passMinutes 36 = .ok (.iconst 1, 1) := by decide +kernel
theorem dX1_passMinutes_37 : decode cX1_passMinutes 37 = .ok (.goto 4, 3) := by decide +kernel
theorem dX1_passMinutes_40 : decode cX1_passMinutes 40 = .ok (.iconst 0, 1) := by decide +kernel
theorem dX1_passMinutes_41 : decode cX1_passMinutes 41 = .ok (.invokevirtual 30, 3) := by decide +kernel
theorem dX1_passMinutes_44 : decode cX1_passMinutes 44 = .ok (.ifCond .eq 10, 3) := by decide +kernel
theorem dX1_passMinutes_47 : decode cX1_passMinutes 47 = .ok (.iconst 1, 1) := by decide +kernel
theorem dX1_passMinutes_48 : decode cX1_passMinutes 48 = .ok (.iload 6, 2) := by decide +kernel
theorem dX1_passMinutes_50 : decode cX1_passMinutes 50 = .ok (.ishl, 1) := by decide +kernel
theorem dX1_passMinutes_51 : decode cX1_passMinutes 51 = .ok (.goto 4, 3) := by decide +kernel
theorem dX1_passMinutes_54 : decode cX1_passMinutes 54 = .ok (.iconst 0, 1) := by decide +kernel
theorem dX1_passMinutes_55 : decode cX1_passMinutes 55 = .ok (.ior, 1) := by decide +kernel
theorem dX1_passMinutes_56 : decode cX1_passMinutes 56 = .ok (.istore 4, 2) := by decide +kernel
theorem dX1_passMinutes_58 : decode cX1_passMinutes 58 = .ok (.iinc 6 1, 3) := by decide +kernel
theorem dX1_passMinutes_61 : decode cX1_passMinutes 61 = .ok (.goto (-46), 3) := by decide +kernel
theorem dX1_passMinutes_64 : decode cX1_passMinutes 64 = .ok (.aload_n 1, 1) := by decide +kernel
theorem dX1_passMinutes_65 : decode cX1_passMinutes 65 = .ok (.dup, 1) := by decide +kernel
theorem dX1_passMinutes_66 : decode cX1_passMinutes 66 = .ok (.getfield 34, 3) := by decide +kernel
theorem dX1_passMinutes_69 : decode cX1_passMinutes 69 = .ok (.iconst 1, 1) := by decide +kernel
theorem dX1_passMinutes_70 : decode cX1_passMinutes 70 = .ok (.iadd, 1) := by decide +kernel
theorem dX1_passMinutes_71 : decode cX1_passMinutes 71 = .ok (.putfield 34, 3) := by decide +kernel
theorem dX1_passMinutes_74 : decode cX1_passMinutes 74 = .ok (.iinc 5 1, 3) := by decide +kernel
theorem dX1_passMinutes_77 : decode cX1_passMinutes 77 = .ok (.goto (-71), 3) := by decide +kernel
theorem dX1_passMinutes_80 : decode cX1_passMinutes 80 = .ok (.iload 4, 2) := by decide +kernel
theorem dX1_passMinutes_82 : decode cX1_passMinutes 82 = .ok (.ireturn, 1) := by decide +kernel
set_option maxRecDepth 20000 in
theorem dX1_passOne_0 : decode cX1_passOne 0 = .ok (.iload_n 3, 1) := by decide +kernel
theorem dX1_passOne_1 : decode cX1_passOne 1 = .ok (.ifCond .eq 7, 3) := by decide +kernel
theorem dX1_passOne_4 : decode cX1_passOne 4 = .ok (.iconst (-1), 1) := by decide +kernel
theorem dX1_passOne_5 : decode cX1_passOne 5 = .ok (.goto 20, 3) := by decide +kernel
theorem dX1_passOne_8 : decode cX1_passOne 8 = .ok (.aload_n 1, 1) := by decide +kernel
theorem dX1_passOne_9 : decode cX1_passOne 9 = .ok (.iload_n 2, 1) := by decide +kernel
theorem dX1_passOne_10 : decode cX1_passOne 10 = .ok (.aload_n 1, 1) := by decide +kernel
theorem dX1_passOne_11 : decode cX1_passOne 11 = .ok (.getfield 37, 3) := by decide +kernel
theorem dX1_passOne_14 : decode cX1_passOne 14 = .ok (.iload_n 2, 1) := by decide +kernel
theorem dX1_passOne_15 : decode cX1_passOne 15 = .ok (.iaload, 1) := by decide +kernel
theorem dX1_passOne_16 : decode cX1_passOne 16 = .ok (.aload_n 0, 1) := by decide +kernel
theorem dX1_passOne_17 : decode cX1_passOne 17 = .ok (.aload_n 1, 1) := by decide +kernel
theorem dX1_passOne_18 : decode cX1_passOne 18 = .ok (.iload_n 2, 1) := by decide +kernel
theorem dX1_passOne_19 : decode cX1_passOne 19 = .ok (.invokevirtual 40, 3) := by decide +kernel
theorem dX1_passOne_22 : decode cX1_passOne 22 = .ok (.invokevirtual 44, 3) := by decide +kernel
theorem dX1_passOne_25 : decode cX1_passOne 25 = .ok (.istore 4, 2) := by decide +kernel
theorem dX1_passOne_27 : decode cX1_passOne 27 = .ok (.iload 4, 2) := by decide +kernel
theorem dX1_passOne_29 : decode cX1_passOne 29 = .ok (.iconst (-1), 1) := by decide +kernel
theorem dX1_passOne_30 : decode cX1_passOne 30 = .ok (.if_icmp .ne 28, 3) := by decide +kernel
theorem dX1_passOne_33 : decode cX1_passOne 33 = .ok (.aload_n 1, 1) := by decide +kernel
theorem dX1_passOne_34 : decode cX1_passOne 34 = .ok (.getfield 48, 3) := by decide +kernel
theorem dX1_passOne_37 : decode cX1_passOne 37 = .ok (.iload_n 2, 1) := by decide +kernel
theorem dX1_passOne_38 : decode cX1_passOne 38 = .ok (.iconst 0, 1) := by decide +kernel
theorem dX1_passOne_39 : decode cX1_passOne 39 = .ok (.aload_n 1, 1) := by decide +kernel
theorem dX1_passOne_40 : decode cX1_passOne 40 = .ok (.getfield 48, 3) := by decide +kernel
theorem dX1_passOne_43 : decode cX1_passOne 43 = .ok (.iload_n 2, 1) := by decide +kernel
theorem dX1_passOne_44 : decode cX1_passOne 44 = .ok (.iaload, 1) := by decide +kernel
theorem dX1_passOne_45 : decode cX1_passOne 45 = .ok (.aload_n 0, 1) := by decide +kernel
theorem dX1_passOne_46 : decode cX1_passOne 46 = .ok (.aload_n 1, 1) := by decide +kernel
theorem dX1_passOne_47 : decode cX1_passOne 47 = .ok (.iload_n 2, 1) := by decide +kernel
theorem dX1_passOne_48 : decode cX1_passOne 48 = .ok (.invokevirtual 51, 3) := by decide +kernel
theorem dX1_passOne_51 : decode cX1_passOne 51 = .ok (.isub, 1) := by decide +kernel
theorem dX1_passOne_52 : decode cX1_passOne 52 = .ok (.invokestatic 54, 3) := by decide +kernel
theorem dX1_passOne_55 : decode cX1_passOne 55 = .ok (.iastore, 1) := by decide +kernel
theorem dX1_passOne_56 : decode cX1_passOne 56 = .ok (.iconst 0, 1) := by decide +kernel
theorem dX1_passOne_57 : decode cX1_passOne 57 = .ok (.ireturn, 1) := by decide +kernel
theorem dX1_passOne_58 : decode cX1_passOne 58 = .ok (.aload_n 1, 1) := by decide +kernel
theorem dX1_passOne_59 : decode cX1_passOne 59 = .ok (.getfield 48, 3) := by decide +kernel
theorem dX1_passOne_62 : decode cX1_passOne 62 = .ok (.iload_n 2, 1) := by decide +kernel
theorem dX1_passOne_63 : decode cX1_passOne 63 = .ok (.bipush 99, 2) := by decide +kernel
theorem dX1_passOne_65 : decode cX1_passOne 65 = .ok (.aload_n 1, 1) := by decide +kernel
theorem dX1_passOne_66 : decode cX1_passOne 66 = .ok (.getfield 48, 3) := by decide +kernel
theorem dX1_passOne_69 : decode cX1_passOne 69 = .ok (.iload_n 2, 1) := by decide +kernel
theorem dX1_passOne_70 : decode cX1_passOne 70 = .ok (.iaload, 1) := by decide +kernel
theorem dX1_passOne_71 : decode cX1_passOne 71 = .ok (.aload_n 0, 1) := by decide +kernel
theorem dX1_passOne_72 : decode cX1_passOne 72 = .ok (.aload_n 1, 1) := by decide +kernel
theorem dX1_passOne_73 : decode cX1_passOne 73 = .ok (.iload_n 2, 1) := by decide +kernel
theorem dX1_passOne_74 : decode cX1_passOne 74 = .ok (.invokevirtual 60, 3) := by decide +kernel
theorem dX1_passOne_77 : decode cX1_passOne 77 = .ok (.iadd, 1) := by decide +kernel
theorem dX1_passOne_78 : decode cX1_passOne 78 = .ok (.invokestatic 63, 3) := by decide +kernel
theorem dX1_passOne_81 : decode cX1_passOne 81 = .ok (.iastore, 1) := by decide +kernel
theorem dX1_passOne_82 : decode cX1_passOne 82 = .ok (.aload_n 1, 1) := by decide +kernel
theorem dX1_passOne_83 : decode cX1_passOne 83 = .ok (.getfield 37, 3) := by decide +kernel
theorem dX1_passOne_86 : decode cX1_passOne 86 = .ok (.iload_n 2, 1) := by decide +kernel
theorem dX1_passOne_87 : decode cX1_passOne 87 = .ok (.iload 4, 2) := by decide +kernel
theorem dX1_passOne_89 : decode cX1_passOne 89 = .ok (.iastore, 1) := by decide +kernel
theorem dX1_passOne_90 : decode cX1_passOne 90 = .ok (.iconst 1, 1) := by decide +kernel
theorem dX1_passOne_91 : decode cX1_passOne 91 = .ok (.ireturn, 1) := by decide +kernel
set_option maxRecDepth 20000 in
theorem dX1_wayOf_0 : decode cX1_wayOf 0 = .ok (.aload_n 0, 1) := by decide +kernel
theorem dX1_wayOf_1 : decode cX1_wayOf 1 = .ok (.aload_n 1, 1) := by decide +kernel
theorem dX1_wayOf_2 : decode cX1_wayOf 2 = .ok (.iload_n 2, 1) := by decide +kernel
theorem dX1_wayOf_3 : decode cX1_wayOf 3 = .ok (.iconst 0, 1) := by decide +kernel
theorem dX1_wayOf_4 : decode cX1_wayOf 4 = .ok (.invokevirtual 66, 3) := by decide +kernel
theorem dX1_wayOf_7 : decode cX1_wayOf 7 = .ok (.bipush (-99), 2) := by decide +kernel
theorem dX1_wayOf_9 : decode cX1_wayOf 9 = .ok (.bipush 99, 2) := by decide +kernel
theorem dX1_wayOf_11 : decode cX1_wayOf 11 = .ok (.invokestatic 70, 3) := by decide +kernel
theorem dX1_wayOf_14 : decode cX1_wayOf 14 = .ok (.bipush 8, 2) := by decide +kernel
theorem dX1_wayOf_16 : decode cX1_wayOf 16 = .ok (.invokestatic 73, 3) := by decide +kernel
theorem dX1_wayOf_19 : decode cX1_wayOf 19 = .ok (.ireturn, 1) := by decide +kernel
set_option maxRecDepth 20000 in
theorem dX1_tiresOf_0 : decode cX1_tiresOf 0 = .ok (.aload_n 1, 1) := by decide +kernel
theorem dX1_tiresOf_1 : decode cX1_tiresOf 1 = .ok (.iload_n 2, 1) := by decide +kernel
theorem dX1_tiresOf_2 : decode cX1_tiresOf 2 = .ok (.aload_n 0, 1) := by decide +kernel
theorem dX1_tiresOf_3 : decode cX1_tiresOf 3 = .ok (.aload_n 1, 1) := by decide +kernel
theorem dX1_tiresOf_4 : decode cX1_tiresOf 4 = .ok (.iload_n 2, 1) := by decide +kernel
theorem dX1_tiresOf_5 : decode cX1_tiresOf 5 = .ok (.iconst 1, 1) := by decide +kernel
theorem dX1_tiresOf_6 : decode cX1_tiresOf 6 = .ok (.invokevirtual 66, 3) := by decide +kernel
theorem dX1_tiresOf_9 : decode cX1_tiresOf 9 = .ok (.iconst 0, 1) := by decide +kernel
theorem dX1_tiresOf_10 : decode cX1_tiresOf 10 = .ok (.bipush 99, 2) := by decide +kernel
theorem dX1_tiresOf_12 : decode cX1_tiresOf 12 = .ok (.invokestatic 70, 3) := by decide +kernel
theorem dX1_tiresOf_15 : decode cX1_tiresOf 15 = .ok (.invokevirtual 76, 3) := by decide +kernel
theorem dX1_tiresOf_18 : decode cX1_tiresOf 18 = .ok (.iconst 0, 1) := by decide +kernel
theorem dX1_tiresOf_19 : decode cX1_tiresOf 19 = .ok (.bipush 99, 2) := by decide +kernel
theorem dX1_tiresOf_21 : decode cX1_tiresOf 21 = .ok (.invokestatic 70, 3) := by decide +kernel
theorem dX1_tiresOf_24 : decode cX1_tiresOf 24 = .ok (.ireturn, 1) := by decide +kernel
set_option maxRecDepth 20000 in
theorem dX1_restsOf_0 : decode cX1_restsOf 0 = .ok (.aload_n 1, 1) := by decide +kernel
theorem dX1_restsOf_1 : decode cX1_restsOf 1 = .ok (.iload_n 2, 1) := by decide +kernel
theorem dX1_restsOf_2 : decode cX1_restsOf 2 = .ok (.aload_n 0, 1) := by decide +kernel
theorem dX1_restsOf_3 : decode cX1_restsOf 3 = .ok (.aload_n 1, 1) := by decide +kernel
theorem dX1_restsOf_4 : decode cX1_restsOf 4 = .ok (.iload_n 2, 1) := by decide +kernel
theorem dX1_restsOf_5 : decode cX1_restsOf 5 = .ok (.iconst 2, 1) := by decide +kernel
theorem dX1_restsOf_6 : decode cX1_restsOf 6 = .ok (.invokevirtual 66, 3) := by decide +kernel
theorem dX1_restsOf_9 : decode cX1_restsOf 9 = .ok (.iconst 0, 1) := by decide +kernel
theorem dX1_restsOf_10 : decode cX1_restsOf 10 = .ok (.bipush 99, 2) := by decide +kernel
theorem dX1_restsOf_12 : decode cX1_restsOf 12 = .ok (.invokestatic 70, 3) := by decide +kernel
theorem dX1_restsOf_15 : decode cX1_restsOf 15 = .ok (.invokevirtual 79, 3) := by decide +kernel
theorem dX1_restsOf_18 : decode cX1_restsOf 18 = .ok (.iconst 0, 1) := by decide +kernel
theorem dX1_restsOf_19 : decode cX1_restsOf 19 = .ok (.bipush 99, 2) := by decide +kernel
theorem dX1_restsOf_21 : decode cX1_restsOf 21 = .ok (.invokestatic 70, 3) := by decide +kernel
theorem dX1_restsOf_24 : decode cX1_restsOf 24 = .ok (.ireturn, 1) := by decide +kernel
set_option maxRecDepth 20000 in
theorem dX1_value_0 : decode cX1_value 0 = .ok (.aload_n 1, 1) := by decide +kernel
theorem dX1_value_1 : decode cX1_value 1 = .ok (.getfield 82, 3) := by decide +kernel
theorem dX1_value_4 : decode cX1_value 4 = .ok (.aload_n 0, 1) := by decide +kernel
theorem dX1_value_5 : decode cX1_value 5 = .ok (.getfield 21, 3) := by decide +kernel
theorem dX1_value_8 : decode cX1_value 8 = .ok (.iconst 1, 1) := by decide +kernel
theorem dX1_value_9 : decode cX1_value 9 = .ok (.isub, 1) := by decide +kernel
theorem dX1_value_10 : decode cX1_value 10 = .ok (.invokestatic 85, 3) := by decide +kernel
theorem dX1_value_13 : decode cX1_value 13 = .ok (.ifCond .eq 15, 3) := by decide +kernel
theorem dX1_value_16 : decode cX1_value 16 = .ok (.aload_n 0, 1) := by decide +kernel
theorem dX1_value_17 : decode cX1_value 17 = .ok (.getfield 11, 3) := by decide +kernel
theorem dX1_value_20 : decode cX1_value 20 = .ok (.aload_n 1, 1) := by decide +kernel
theorem dX1_value_21 : decode cX1_value 21 = .ok (.getfield 82, 3) := by decide +kernel
theorem dX1_value_24 : decode cX1_value 24 = .ok (.aaload, 1) := by decide +kernel
theorem dX1_value_25 : decode cX1_value 25 = .ok (.goto 4, 3) := by decide +kernel
theorem dX1_value_28 : decode cX1_value 28 = .ok (.aconst_null, 1) := by decide +kernel
theorem dX1_value_29 : decode cX1_value 29 = .ok (.astore 4, 2) := by decide +kernel
theorem dX1_value_31 : decode cX1_value 31 = .ok (.aload 4, 2) := by decide +kernel
theorem dX1_value_33 : decode cX1_value 33 = .ok (.ifnonnull 5, 3) := by decide +kernel
theorem dX1_value_36 : decode cX1_value 36 = .ok (.iconst 0, 1) := by decide +kernel
theorem dX1_value_37 : decode cX1_value 37 = .ok (.ireturn, 1) := by decide +kernel
theorem dX1_value_38 : decode cX1_value 38 = .ok (.aload 4, 2) := by decide +kernel
theorem dX1_value_40 : decode cX1_value 40 = .ok (.iload_n 3, 1) := by decide +kernel
theorem dX1_value_41 : decode cX1_value 41 = .ok (.invokevirtual 89, 3) := by decide +kernel
theorem dX1_value_44 : decode cX1_value 44 = .ok (.istore 5, 2) := by decide +kernel
theorem dX1_value_46 : decode cX1_value 46 = .ok (.iconst 0, 1) := by decide +kernel
theorem dX1_value_47 : decode cX1_value 47 = .ok (.istore 6, 2) := by decide +kernel
theorem dX1_value_49 : decode cX1_value 49 = .ok (.aload 4, 2) := by decide +kernel
theorem dX1_value_51 : decode cX1_value 51 = .ok (.iload_n 3, 1) := by decide +kernel
theorem dX1_value_52 : decode cX1_value 52 = .ok (.invokevirtual 93, 3) := by decide +kernel
theorem dX1_value_55 : decode cX1_value 55 = .ok (.istore 7, 2) := by decide +kernel
theorem dX1_value_57 : decode cX1_value 57 = .ok (.iload 7, 2) := by decide +kernel
theorem dX1_value_59 : decode cX1_value 59 = .ok (.iload 5, 2) := by decide +kernel
theorem dX1_value_61 : decode cX1_value 61 = .ok (.if_icmp .ge 164, 3) := by decide +kernel
theorem dX1_value_64 : decode cX1_value 64 = .ok (.aload 4, 2) := by decide +kernel
theorem dX1_value_66 : decode cX1_value 66 = .ok (.getfield 96, 3) := by decide +kernel
theorem dX1_value_69 : decode cX1_value 69 = .ok (.iload 7, 2) := by decide +kernel
theorem dX1_value_71 : decode cX1_value 71 = .ok (.iaload, 1) := by decide +kernel
theorem dX1_value_72 : decode cX1_value 72 = .ok (.istore 8, 2) := by decide +kernel
theorem dX1_value_74 : decode cX1_value 74 = .ok (.iload 8, 2) := by decide +kernel
theorem dX1_value_76 : decode cX1_value 76 = .ok (.bipush (-6), 2) := by decide +kernel
theorem dX1_value_78 : decode cX1_value 78 = .ok (.if_icmp .lt 40, 3) := by decide +kernel
theorem dX1_value_81 : decode cX1_value 81 = .ok (.iload 6, 2) := by decide +kernel
theorem dX1_value_83 : decode cX1_value 83 = .ok (.bipush 40, 2) := by decide +kernel
theorem dX1_value_85 : decode cX1_value 85 = .ok (.if_icmp .ge 134, 3) := by decide +kernel
theorem dX1_value_88 : decode cX1_value 88 = .ok (.aload_n 0, 1) := by decide +kernel
theorem dX1_value_89 : decode cX1_value 89 = .ok (.getfield 17, 3) := by decide +kernel
theorem dX1_value_92 : decode cX1_value 92 = .ok (.iload 6, 2) := by decide +kernel
theorem dX1_value_94 : decode cX1_value 94 = .ok (.iload 8, 2) := by decide +kernel
theorem dX1_value_96 : decode cX1_value 96 = .ok (.ifCond .lt 8, 3) := by decide +kernel
theorem dX1_value_99 : decode cX1_value 99 = .ok (.iload 8, 2) := by decide +kernel
theorem dX1_value_101 : decode cX1_value 101 = .ok (.goto 10, 3) := by decide +kernel
theorem dX1_value_104 : decode cX1_value 104 = .ok (.aload_n 1, 1) := by decide +kernel
theorem dX1_value_105 : decode cX1_value 105 = .ok (.iload 8, 2) := by decide +kernel
theorem dX1_value_107 : decode cX1_value 107 = .ok (.iload_n 2, 1) := by decide +kernel
theorem dX1_value_108 : decode cX1_value 108 = .ok (.invokevirtual 99, 3) := by decide +kernel
theorem dX1_value_111 : decode cX1_value 111 = .ok (.iastore, 1) := by decide +kernel
theorem dX1_value_112 : decode cX1_value 112 = .ok (.iinc 6 1, 3) := by decide +kernel
theorem dX1_value_115 : decode cX1_value 115 = .ok (.goto 104, 3) := by decide +kernel
theorem dX1_value_118 : decode cX1_value 118 = .ok (.iload 8, 2) := by decide +kernel
theorem dX1_value_120 : decode cX1_value 120 = .ok (.bipush (-8), 2) := by decide +kernel
theorem dX1_value_122 : decode cX1_value 122 = .ok (.if_icmp .lt 58, 3) := by decide +kernel
theorem dX1_value_125 : decode cX1_value 125 = .ok (.iload 6, 2) := by decide +kernel
theorem dX1_value_127 : decode cX1_value 127 = .ok (.iconst 1, 1) := by decide +kernel
theorem dX1_value_128 : decode cX1_value 128 = .ok (.if_icmp .lt 91, 3) := by decide +kernel
theorem dX1_value_131 : decode cX1_value 131 = .ok (.aload_n 0, 1) := by decide +kernel
theorem dX1_value_132 : decode cX1_value 132 = .ok (.getfield 17, 3) := by decide +kernel
theorem dX1_value_135 : decode cX1_value 135 = .ok (.iload 6, 2) := by decide +kernel
theorem dX1_value_137 : decode cX1_value 137 = .ok (.iconst 1, 1) := by decide +kernel
theorem dX1_value_138 : decode cX1_value 138 = .ok (.isub, 1) := by decide +kernel
theorem dX1_value_139 : decode cX1_value 139 = .ok (.iload 8, 2) := by decide +kernel
theorem dX1_value_141 : decode cX1_value 141 = .ok (.bipush (-8), 2) := by decide +kernel
theorem dX1_value_143 : decode cX1_value 143 = .ok (.if_icmp .ne 16, 3) := by decide +kernel
theorem dX1_value_146 : decode cX1_value 146 = .ok (.aload_n 0, 1) := by decide +kernel
theorem dX1_value_147 : decode cX1_value 147 = .ok (.getfield 17, 3) := by decide +kernel
theorem dX1_value_150 : decode cX1_value 150 = .ok (.iload 6, 2) := by decide +kernel
theorem dX1_value_152 : decode cX1_value 152 = .ok (.iconst 1, 1) := by decide +kernel
theorem dX1_value_153 : decode cX1_value 153 = .ok (.isub, 1) := by decide +kernel
theorem dX1_value_154 : decode cX1_value 154 = .ok (.iaload, 1) := by decide +kernel
theorem dX1_value_155 : decode cX1_value 155 = .ok (.ineg, 1) := by decide +kernel
theorem dX1_value_156 : decode cX1_value 156 = .ok (.goto 20, 3) := by decide +kernel
theorem dX1_value_159 : decode cX1_value 159 = .ok (.aload_n 0, 1) := by decide +kernel
theorem dX1_value_160 : decode cX1_value 160 = .ok (.getfield 17, 3) := by decide +kernel
theorem dX1_value_163 : decode cX1_value 163 = .ok (.iload 6, 2) := by decide +kernel
theorem dX1_value_165 : decode cX1_value 165 = .ok (.iconst 1, 1) := by decide +kernel
theorem dX1_value_166 : decode cX1_value 166 = .ok (.isub, 1) := by decide +kernel
theorem dX1_value_167 : decode cX1_value 167 = .ok (.iaload, 1) := by decide +kernel
theorem dX1_value_168 : decode cX1_value 168 = .ok (.ifCond .ne 7, 3) := by decide +kernel
theorem dX1_value_171 : decode cX1_value 171 = .ok (.iconst 1, 1) := by decide +kernel
theorem dX1_value_172 : decode cX1_value 172 = .ok (.goto 4, 3) := by decide +kernel
theorem dX1_value_175 : decode cX1_value 175 = .ok (.iconst 0, 1) := by decide +kernel
theorem dX1_value_176 : decode cX1_value 176 = .ok (.iastore, 1) := by decide +kernel
theorem dX1_value_177 : decode cX1_value 177 = .ok (.goto 42, 3) := by decide +kernel
theorem dX1_value_180 : decode cX1_value 180 = .ok (.iload 6, 2) := by decide +kernel
theorem dX1_value_182 : decode cX1_value 182 = .ok (.iconst 2, 1) := by decide +kernel
theorem dX1_value_183 : decode cX1_value 183 = .ok (.if_icmp .lt 36, 3) := by decide +kernel
theorem dX1_value_186 : decode cX1_value 186 = .ok (.iinc 6 (-1), 3) := by decide +kernel
theorem dX1_value_189 : decode cX1_value 189 = .ok (.aload_n 0, 1) := by decide +kernel
theorem dX1_value_190 : decode cX1_value 190 = .ok (.getfield 17, 3) := by decide +kernel
theorem dX1_value_193 : decode cX1_value 193 = .ok (.iload 6, 2) := by decide +kernel
theorem dX1_value_195 : decode cX1_value 195 = .ok (.iconst 1, 1) := by decide +kernel
theorem dX1_value_196 : decode cX1_value 196 = .ok (.isub, 1) := by decide +kernel
theorem dX1_value_197 : decode cX1_value 197 = .ok (.iload 8, 2) := by decide +kernel
theorem dX1_value_199 : decode cX1_value 199 = .ok (.aload_n 0, 1) := by decide +kernel
theorem dX1_value_200 : decode cX1_value 200 = .ok (.getfield 17, 3) := by decide +kernel
theorem dX1_value_203 : decode cX1_value 203 = .ok (.iload 6, 2) := by decide +kernel
theorem dX1_value_205 : decode cX1_value 205 = .ok (.iconst 1, 1) := by decide +kernel
theorem dX1_value_206 : decode cX1_value 206 = .ok (.isub, 1) := by decide +kernel
theorem dX1_value_207 : decode cX1_value 207 = .ok (.iaload, 1) := by decide +kernel
theorem dX1_value_208 : decode cX1_value 208 = .ok (.aload_n 0, 1) := by decide +kernel
theorem dX1_value_209 : decode cX1_value 209 = .ok (.getfield 17, 3) := by decide +kernel
theorem dX1_value_212 : decode cX1_value 212 = .ok (.iload 6, 2) := by decide +kernel
theorem dX1_value_214 : decode cX1_value 214 = .ok (.iaload, 1) := by decide +kernel
theorem dX1_value_215 : decode cX1_value 215 = .ok (.invokestatic 102, 3) := by decide +kernel
theorem dX1_value_218 : decode cX1_value 218 = .ok (.iastore, 1) := by decide +kernel
theorem dX1_value_219 : decode cX1_value 219 = .ok (.iinc 7 1, 3) := by decide +kernel
theorem dX1_value_222 : decode cX1_value 222 = .ok (.goto (-165), 3) := by decide +kernel
theorem dX1_value_225 : decode cX1_value 225 = .ok (.aload_n 0, 1) := by decide +kernel
theorem dX1_value_226 : decode cX1_value 226 = .ok (.getfield 17, 3) := by decide +kernel
theorem dX1_value_229 : decode cX1_value 229 = .ok (.iconst 0, 1) := by decide +kernel
theorem dX1_value_230 : decode cX1_value 230 = .ok (.iaload, 1) := by decide +kernel
theorem dX1_value_231 : decode cX1_value 231 = .ok (.ireturn, 1) := by decide +kernel
theorem dX1_joined_0 : decode cX1_joined 0 = .ok (.iload_n 0, 1) := by decide +kernel
theorem dX1_joined_1 : decode cX1_joined 1 = .ok (.tableswitch 97 (-14) (-9) #[93, 89, 78, 67, 53, 39], 39) := by decide +kernel
theorem dX1_joined_40 : decode cX1_joined 40 = .ok (.iload_n 1, 1) := by decide +kernel
theorem dX1_joined_41 : decode cX1_joined 41 = .ok (.ifCond .ne 7, 3) := by decide +kernel
theorem dX1_joined_44 : decode cX1_joined 44 = .ok (.iload_n 2, 1) := by decide +kernel
theorem dX1_joined_45 : decode cX1_joined 45 = .ok (.ifCond .eq 7, 3) := by decide +kernel
theorem dX1_joined_48 : decode cX1_joined 48 = .ok (.iconst 1, 1) := by decide +kernel
theorem dX1_joined_49 : decode cX1_joined 49 = .ok (.goto 4, 3) := by decide +kernel
theorem dX1_joined_52 : decode cX1_joined 52 = .ok (.iconst 0, 1) := by decide +kernel
theorem dX1_joined_53 : decode cX1_joined 53 = .ok (.ireturn, 1) := by decide +kernel
theorem dX1_joined_54 : decode cX1_joined 54 = .ok (.iload_n 1, 1) := by decide +kernel
theorem dX1_joined_55 : decode cX1_joined 55 = .ok (.ifCond .eq 11, 3) := by decide +kernel
theorem dX1_joined_58 : decode cX1_joined 58 = .ok (.iload_n 2, 1) := by decide +kernel
theorem dX1_joined_59 : decode cX1_joined 59 = .ok (.ifCond .eq 7, 3) := by decide +kernel
theorem dX1_joined_62 : decode cX1_joined 62 = .ok (.iconst 1, 1) := by decide +kernel
theorem dX1_joined_63 : decode cX1_joined 63 = .ok (.goto 4, 3) := by decide +kernel
theorem dX1_joined_66 : decode cX1_joined 66 = .ok (.iconst 0, 1) := by decide +kernel
theorem dX1_joined_67 : decode cX1_joined 67 = .ok (.ireturn, 1) := by decide +kernel
theorem dX1_joined_68 : decode cX1_joined 68 = .ok (.iload_n 1, 1) := by decide +kernel
theorem dX1_joined_69 : decode cX1_joined 69 = .ok (.iload_n 2, 1) := by decide +kernel
theorem dX1_joined_70 : decode cX1_joined 70 = .ok (.if_icmp .ge 7, 3) := by decide +kernel
theorem dX1_joined_73 : decode cX1_joined 73 = .ok (.iconst 1, 1) := by decide +kernel
theorem dX1_joined_74 : decode cX1_joined 74 = .ok (.goto 4, 3) := by decide +kernel
theorem dX1_joined_77 : decode cX1_joined 77 = .ok (.iconst 0, 1) := by decide +kernel
theorem dX1_joined_78 : decode cX1_joined 78 = .ok (.ireturn, 1) := by decide +kernel
theorem dX1_joined_79 : decode cX1_joined 79 = .ok (.iload_n 1, 1) := by decide +kernel
theorem dX1_joined_80 : decode cX1_joined 80 = .ok (.iload_n 2, 1) := by decide +kernel
theorem dX1_joined_81 : decode cX1_joined 81 = .ok (.if_icmp .ne 7, 3) := by decide +kernel
theorem dX1_joined_84 : decode cX1_joined 84 = .ok (.iconst 1, 1) := by decide +kernel
theorem dX1_joined_85 : decode cX1_joined 85 = .ok (.goto 4, 3) := by decide +kernel
theorem dX1_joined_88 : decode cX1_joined 88 = .ok (.iconst 0, 1) := by decide +kernel
theorem dX1_joined_89 : decode cX1_joined 89 = .ok (.ireturn, 1) := by decide +kernel
theorem dX1_joined_90 : decode cX1_joined 90 = .ok (.iload_n 1, 1) := by decide +kernel
theorem dX1_joined_91 : decode cX1_joined 91 = .ok (.iload_n 2, 1) := by decide +kernel
theorem dX1_joined_92 : decode cX1_joined 92 = .ok (.iadd, 1) := by decide +kernel
theorem dX1_joined_93 : decode cX1_joined 93 = .ok (.ireturn, 1) := by decide +kernel
theorem dX1_joined_94 : decode cX1_joined 94 = .ok (.iload_n 1, 1) := by decide +kernel
theorem dX1_joined_95 : decode cX1_joined 95 = .ok (.iload_n 2, 1) := by decide +kernel
theorem dX1_joined_96 : decode cX1_joined 96 = .ok (.isub, 1) := by decide +kernel
theorem dX1_joined_97 : decode cX1_joined 97 = .ok (.ireturn, 1) := by decide +kernel
theorem dX1_joined_98 : decode cX1_joined 98 = .ok (.iload_n 1, 1) := by decide +kernel
theorem dX1_joined_99 : decode cX1_joined 99 = .ok (.iload_n 2, 1) := by decide +kernel
theorem dX1_joined_100 : decode cX1_joined 100 = .ok (.imul, 1) := by decide +kernel
theorem dX1_joined_101 : decode cX1_joined 101 = .ok (.ireturn, 1) := by decide +kernel
theorem dX2_init_0 : decode cX2_init 0 = .ok (.aload_n 0, 1) := by decide +kernel
theorem dX2_init_1 : decode cX2_init 1 = .ok (.invokespecial 3, 3) := by decide +kernel
theorem dX2_init_4 : decode cX2_init 4 = .ok (.aload_n 0, 1) := by decide +kernel
theorem dX2_init_5 : decode cX2_init 5 = .ok (.sipush 160, 3) := by decide +kernel
theorem dX2_init_8 : decode cX2_init 8 = .ok (.newarray .int, 2) := by decide +kernel
theorem dX2_init_10 : decode cX2_init 10 = .ok (.putfield 9, 3) := by decide +kernel
theorem dX2_init_13 : decode cX2_init 13 = .ok (.aload_n 0, 1) := by decide +kernel
theorem dX2_init_14 : decode cX2_init 14 = .ok (.sipush 160, 3) := by decide +kernel
theorem dX2_init_17 : decode cX2_init 17 = .ok (.newarray .int, 2) := by decide +kernel
theorem dX2_init_19 : decode cX2_init 19 = .ok (.putfield 15, 3) := by decide +kernel
theorem dX2_init_22 : decode cX2_init 22 = .ok (.return_, 1) := by decide +kernel
theorem dX2_takeIn_0 : decode cX2_takeIn 0 = .ok (.aload_n 0, 1) := by decide +kernel
theorem dX2_takeIn_1 : decode cX2_takeIn 1 = .ok (.getfield 18, 3) := by decide +kernel
theorem dX2_takeIn_4 : decode cX2_takeIn 4 = .ok (.sipush 160, 3) := by decide +kernel
theorem dX2_takeIn_7 : decode cX2_takeIn 7 = .ok (.if_icmp .lt 5, 3) := by decide +kernel
theorem dX2_takeIn_10 : decode cX2_takeIn 10 = .ok (.iconst 0, 1) := by decide +kernel
theorem dX2_takeIn_11 : decode cX2_takeIn 11 = .ok (.ireturn, 1) := by decide +kernel
theorem dX2_takeIn_12 : decode cX2_takeIn 12 = .ok (.aload_n 0, 1) := by decide +kernel
theorem dX2_takeIn_13 : decode cX2_takeIn 13 = .ok (.getfield 9, 3) := by decide +kernel
theorem dX2_takeIn_16 : decode cX2_takeIn 16 = .ok (.aload_n 0, 1) := by decide +kernel
theorem dX2_takeIn_17 : decode cX2_takeIn 17 = .ok (.getfield 18, 3) := by decide +kernel
theorem dX2_takeIn_20 : decode cX2_takeIn 20 = .ok (.iload_n 1, 1) := by decide +kernel
theorem dX2_takeIn_21 : decode cX2_takeIn 21 = .ok (.iastore, 1) := by decide +kernel
theorem dX2_takeIn_22 : decode cX2_takeIn 22 = .ok (.aload_n 0, 1) := by decide +kernel
theorem dX2_takeIn_23 : decode cX2_takeIn 23 = .ok (.dup, 1) := by decide +kernel
theorem dX2_takeIn_24 : decode cX2_takeIn 24 = .ok (.getfield 18, 3) := by decide +kernel
theorem dX2_takeIn_27 : decode cX2_takeIn 27 = .ok (.iconst 1, 1) := by decide +kernel
theorem dX2_takeIn_28 : decode cX2_takeIn 28 = .ok (.iadd, 1) := by decide +kernel
theorem dX2_takeIn_29 : decode cX2_takeIn 29 = .ok (.putfield 18, 3) := by decide +kernel
theorem dX2_takeIn_32 : decode cX2_takeIn 32 = .ok (.iconst 1, 1) := by decide +kernel
theorem dX2_takeIn_33 : decode cX2_takeIn 33 = .ok (.ireturn, 1) := by decide +kernel
theorem dX2_clear_0 : decode cX2_clear 0 = .ok (.aload_n 0, 1) := by decide +kernel
theorem dX2_clear_1 : decode cX2_clear 1 = .ok (.iconst 0, 1) := by decide +kernel
theorem dX2_clear_2 : decode cX2_clear 2 = .ok (.putfield 18, 3) := by decide +kernel
theorem dX2_clear_5 : decode cX2_clear 5 = .ok (.return_, 1) := by decide +kernel
set_option maxRecDepth 20000 in
theorem dX2_readText_0 : decode cX2_readText 0 = .ok (.aload_n 0, 1) := by decide +kernel
theorem dX2_readText_1 : decode cX2_readText 1 = .ok (.iconst (-1), 1) := by decide +kernel
theorem dX2_readText_2 : decode cX2_readText 2 = .ok (.putfield 22, 3) := by decide +kernel
theorem dX2_readText_5 : decode cX2_readText 5 = .ok (.aload_n 0, 1) := by decide +kernel
theorem dX2_readText_6 : decode cX2_readText 6 = .ok (.iconst 0, 1) := by decide +kernel
theorem dX2_readText_7 : decode cX2_readText 7 = .ok (.putfield 25, 3) := by decide +kernel
theorem dX2_readText_10 : decode cX2_readText 10 = .ok (.aload_n 0, 1) := by decide +kernel
theorem dX2_readText_11 : decode cX2_readText 11 = .ok (.iconst 0, 1) := by decide +kernel
theorem dX2_readText_12 : decode cX2_readText 12 = .ok (.putfield 28, 3) := by decide +kernel
theorem dX2_readText_15 : decode cX2_readText 15 = .ok (.aload_n 0, 1) := by decide +kernel
theorem dX2_readText_16 : decode cX2_readText 16 = .ok (.invokevirtual 31, 3) := by decide +kernel
theorem dX2_readText_19 : decode cX2_readText 19 = .ok (.aload_n 0, 1) := by decide +kernel
theorem dX2_readText_20 : decode cX2_readText 20 = .ok (.sipush 259, 3) := by decide +kernel
theorem dX2_readText_23 : decode cX2_readText 23 = .ok (.invokevirtual 34, 3) := by decide +kernel
theorem dX2_readText_26 : decode cX2_readText 26 = .ok (.istore_n 1, 1) := by decide +kernel
theorem dX2_readText_27 : decode cX2_readText 27 = .ok (.aload_n 0, 1) := by decide +kernel
theorem dX2_readText_28 : decode cX2_readText 28 = .ok (.sipush 260, 3) := by decide +kernel
theorem dX2_readText_31 : decode cX2_readText 31 = .ok (.invokevirtual 34, 3) := by decide +kernel
theorem dX2_readText_34 : decode cX2_readText 34 = .ok (.istore_n 2, 1) := by decide +kernel
theorem dX2_readText_35 : decode cX2_readText 35 = .ok (.aload_n 0, 1) := by decide +kernel
theorem dX2_readText_36 : decode cX2_readText 36 = .ok (.sipush 261, 3) := by decide +kernel
theorem dX2_readText_39 : decode cX2_readText 39 = .ok (.invokevirtual 34, 3) := by decide +kernel
theorem dX2_readText_42 : decode cX2_readText 42 = .ok (.pop, 1) := by decide +kernel
theorem dX2_readText_43 : decode cX2_readText 43 = .ok (.aload_n 0, 1) := by decide +kernel
theorem dX2_readText_44 : decode cX2_readText 44 = .ok (.sipush 256, 3) := by decide +kernel
theorem dX2_readText_47 : decode cX2_readText 47 = .ok (.invokevirtual 38, 3) := by decide +kernel
theorem dX2_readText_50 : decode cX2_readText 50 = .ok (.aload_n 0, 1) := by decide +kernel
theorem dX2_readText_51 : decode cX2_readText 51 = .ok (.getfield 22, 3) := by decide +kernel
theorem dX2_readText_54 : decode cX2_readText 54 = .ok (.iconst (-1), 1) := by decide +kernel
theorem dX2_readText_55 : decode cX2_readText 55 = .ok (.if_icmp .ne 26, 3) := by decide +kernel
theorem dX2_readText_58 : decode cX2_readText 58 = .ok (.new 42, 3) := by decide +kernel
theorem dX2_readText_61 : decode cX2_readText 61 = .ok (.dup, 1) := by decide +kernel
theorem dX2_readText_62 : decode cX2_readText 62 = .ok (.aload_n 0, 1) := by decide +kernel
theorem dX2_readText_63 : decode cX2_readText 63 = .ok (.getfield 15, 3) := by decide +kernel
theorem dX2_readText_66 : decode cX2_readText 66 = .ok (.aload_n 0, 1) := by decide +kernel
theorem dX2_readText_67 : decode cX2_readText 67 = .ok (.getfield 28, 3) := by decide +kernel
theorem dX2_readText_70 : decode cX2_readText 70 = .ok (.invokestatic 44, 3) := by decide +kernel
theorem dX2_readText_73 : decode cX2_readText 73 = .ok (.iload_n 1, 1) := by decide +kernel
theorem dX2_readText_74 : decode cX2_readText 74 = .ok (.iload_n 2, 1) := by decide +kernel
theorem dX2_readText_75 : decode cX2_readText 75 = .ok (.invokespecial 50, 3) := by decide +kernel
theorem dX2_readText_78 : decode cX2_readText 78 = .ok (.goto 4, 3) := by decide +kernel
theorem dX2_readText_81 : decode cX2_readText 81 = .ok (.aconst_null, 1) := by decide +kernel
theorem dX2_readText_82 : decode cX2_readText 82 = .ok (.areturn, 1) := by decide +kernel
set_option maxRecDepth 20000 in
theorem dX2_readPart_0 : decode cX2_readPart 0 = .ok (.aload_n 0, 1) := by decide +kernel
theorem dX2_readPart_1 : decode cX2_readPart 1 = .ok (.iload_n 1, 1) := by decide +kernel
theorem dX2_readPart_2 : decode cX2_readPart 2 = .ok (.invokevirtual 38, 3) := by decide +kernel
theorem dX2_readPart_5 : decode cX2_readPart 5 = .ok (.aload_n 0, 1) := by decide +kernel
theorem dX2_readPart_6 : decode cX2_readPart 6 = .ok (.iconst 0, 1) := by decide +kernel
theorem dX2_readPart_7 : decode cX2_readPart 7 = .ok (.invokevirtual 53, 3) := by decide +kernel
theorem dX2_readPart_10 : decode cX2_readPart 10 = .ok (.aload_n 0, 1) := by decide +kernel
theorem dX2_readPart_11 : decode cX2_readPart 11 = .ok (.bipush 59, 2) := by decide +kernel
theorem dX2_readPart_13 : decode cX2_readPart 13 = .ok (.invokevirtual 38, 3) := by decide +kernel
theorem dX2_readPart_16 : decode cX2_readPart 16 = .ok (.aload_n 0, 1) := by decide +kernel
theorem dX2_readPart_17 : decode cX2_readPart 17 = .ok (.getfield 28, 3) := by decide +kernel
theorem dX2_readPart_20 : decode cX2_readPart 20 = .ok (.ireturn, 1) := by decide +kernel
set_option maxRecDepth 20000 in
theorem dX2_readE_0 : decode cX2_readE 0 = .ok (.aload_n 0, 1) := by decide +kernel
theorem dX2_readE_1 : decode cX2_readE 1 = .ok (.iload_n 1, 1) := by decide +kernel
theorem dX2_readE_2 : decode cX2_readE 2 = .ok (.invokevirtual 56, 3) := by decide +kernel
theorem dX2_readE_5 : decode cX2_readE 5 = .ok (.iconst 0, 1) := by decide +kernel
theorem dX2_readE_6 : decode cX2_readE 6 = .ok (.istore_n 2, 1) := by decide +kernel
theorem dX2_readE_7 : decode cX2_readE 7 = .ok (.iload_n 2, 1) := by decide +kernel
theorem dX2_readE_8 : decode cX2_readE 8 = .ok (.sipush 160, 3) := by decide +kernel
theorem dX2_readE_11 : decode cX2_readE 11 = .ok (.if_icmp .ge 34, 3) := by decide +kernel
theorem dX2_readE_14 : decode cX2_readE 14 = .ok (.aload_n 0, 1) := by decide +kernel
theorem dX2_readE_15 : decode cX2_readE 15 = .ok (.getfield 59, 3) := by decide +kernel
theorem dX2_readE_18 : decode cX2_readE 18 = .ok (.sipush 262, 3) := by decide +kernel
theorem dX2_readE_21 : decode cX2_readE 21 = .ok (.if_icmp .ne 24, 3) := by decide +kernel
theorem dX2_readE_24 : decode cX2_readE 24 = .ok (.aload_n 0, 1) := by decide +kernel
theorem dX2_readE_25 : decode cX2_readE 25 = .ok (.invokevirtual 31, 3) := by decide +kernel
theorem dX2_readE_28 : decode cX2_readE 28 = .ok (.aload_n 0, 1) := by decide +kernel
theorem dX2_readE_29 : decode cX2_readE 29 = .ok (.iload_n 1, 1) := by decide +kernel
theorem dX2_readE_30 : decode cX2_readE 30 = .ok (.invokevirtual 56, 3) := by decide +kernel
theorem dX2_readE_33 : decode cX2_readE 33 = .ok (.aload_n 0, 1) := by decide +kernel
theorem dX2_readE_34 : decode cX2_readE 34 = .ok (.bipush (-9), 2) := by decide +kernel
theorem dX2_readE_36 : decode cX2_readE 36 = .ok (.invokevirtual 62, 3) := by decide +kernel
theorem dX2_readE_39 : decode cX2_readE 39 = .ok (.iinc 2 1, 3) := by decide +kernel
theorem dX2_readE_42 : decode cX2_readE 42 = .ok (.goto (-35), 3) := by decide +kernel
theorem dX2_readE_45 : decode cX2_readE 45 = .ok (.return_, 1) := by decide +kernel
set_option maxRecDepth 20000 in
theorem dX2_readAnd_0 : decode cX2_readAnd 0 = .ok (.aload_n 0, 1) := by decide +kernel
theorem dX2_readAnd_1 : decode cX2_readAnd 1 = .ok (.iload_n 1, 1) := by decide +kernel
theorem dX2_readAnd_2 : decode cX2_readAnd 2 = .ok (.invokevirtual 65, 3) := by decide +kernel
theorem dX2_readAnd_5 : decode cX2_readAnd 5 = .ok (.iconst 0, 1) := by decide +kernel
theorem dX2_readAnd_6 : decode cX2_readAnd 6 = .ok (.istore_n 2, 1) := by decide +kernel
theorem dX2_readAnd_7 : decode cX2_readAnd 7 = .ok (.iload_n 2, 1) := by decide +kernel
theorem dX2_readAnd_8 : decode cX2_readAnd 8 = .ok (.sipush 160, 3) := by decide +kernel
theorem dX2_readAnd_11 : decode cX2_readAnd 11 = .ok (.if_icmp .ge 34, 3) := by decide +kernel
theorem dX2_readAnd_14 : decode cX2_readAnd 14 = .ok (.aload_n 0, 1) := by decide +kernel
theorem dX2_readAnd_15 : decode cX2_readAnd 15 = .ok (.getfield 59, 3) := by decide +kernel
theorem dX2_readAnd_18 : decode cX2_readAnd 18 = .ok (.sipush 263, 3) := by decide +kernel
theorem dX2_readAnd_21 : decode cX2_readAnd 21 = .ok (.if_icmp .ne 24, 3) := by decide +kernel
theorem dX2_readAnd_24 : decode cX2_readAnd 24 = .ok (.aload_n 0, 1) := by decide +kernel
theorem dX2_readAnd_25 : decode cX2_readAnd 25 = .ok (.invokevirtual 31, 3) := by decide +kernel
theorem dX2_readAnd_28 : decode cX2_readAnd 28 = .ok (.aload_n 0, 1) := by decide +kernel
theorem dX2_readAnd_29 : decode cX2_readAnd 29 = .ok (.iload_n 1, 1) := by decide +kernel
theorem dX2_readAnd_30 : decode cX2_readAnd 30 = .ok (.invokevirtual 65, 3) := by decide +kernel
theorem dX2_readAnd_33 : decode cX2_readAnd 33 = .ok (.aload_n 0, 1) := by decide +kernel
theorem dX2_readAnd_34 : decode cX2_readAnd 34 = .ok (.bipush (-10), 2) := by decide +kernel
theorem dX2_readAnd_36 : decode cX2_readAnd 36 = .ok (.invokevirtual 62, 3) := by decide +kernel
theorem dX2_readAnd_39 : decode cX2_readAnd 39 = .ok (.iinc 2 1, 3) := by decide +kernel
theorem dX2_readAnd_42 : decode cX2_readAnd 42 = .ok (.goto (-35), 3) := by decide +kernel
theorem dX2_readAnd_45 : decode cX2_readAnd 45 = .ok (.return_, 1) := by decide +kernel
set_option maxRecDepth 20000 in
theorem dX2_readNot_0 : decode cX2_readNot 0 = .ok (.aload_n 0, 1) := by decide +kernel
theorem dX2_readNot_1 : decode cX2_readNot 1 = .ok (.getfield 59, 3) := by decide +kernel
theorem dX2_readNot_4 : decode cX2_readNot 4 = .ok (.sipush 264, 3) := by decide +kernel
theorem dX2_readNot_7 : decode cX2_readNot 7 = .ok (.if_icmp .ne 26, 3) := by decide +kernel
theorem dX2_readNot_10 : decode cX2_readNot 10 = .ok (.iload_n 1, 1) := by decide +kernel
theorem dX2_readNot_11 : decode cX2_readNot 11 = .ok (.iconst 5, 1) := by decide +kernel
theorem dX2_readNot_12 : decode cX2_readNot 12 = .ok (.if_icmp .ge 21, 3) := by decide +kernel
theorem dX2_readNot_15 : decode cX2_readNot 15 = .ok (.aload_n 0, 1) := by decide +kernel
theorem dX2_readNot_16 : decode cX2_readNot 16 = .ok (.invokevirtual 31, 3) := by decide +kernel
theorem dX2_readNot_19 : decode cX2_readNot 19 = .ok (.aload_n 0, 1) := by decide +kernel
theorem dX2_readNot_20 : decode cX2_readNot 20 = .ok (.iload_n 1, 1) := by decide +kernel
theorem dX2_readNot_21 : decode cX2_readNot 21 = .ok (.iconst 1, 1) := by decide +kernel
theorem dX2_readNot_22 : decode cX2_readNot 22 = .ok (.iadd, 1) := by decide +kernel
theorem dX2_readNot_23 : decode cX2_readNot 23 = .ok (.invokevirtual 65, 3) := by decide +kernel
theorem dX2_readNot_26 : decode cX2_readNot 26 = .ok (.aload_n 0, 1) := by decide +kernel
theorem dX2_readNot_27 : decode cX2_readNot 27 = .ok (.bipush (-7), 2) := by decide +kernel
theorem dX2_readNot_29 : decode cX2_readNot 29 = .ok (.invokevirtual 62, 3) := by decide +kernel
theorem dX2_readNot_32 : decode cX2_readNot 32 = .ok (.return_, 1) := by decide +kernel
theorem dX2_readNot_33 : decode cX2_readNot 33 = .ok (.aload_n 0, 1) := by decide +kernel
theorem dX2_readNot_34 : decode cX2_readNot 34 = .ok (.iload_n 1, 1) := by decide +kernel
theorem dX2_readNot_35 : decode cX2_readNot 35 = .ok (.invokevirtual 68, 3) := by decide +kernel
theorem dX2_readNot_38 : decode cX2_readNot 38 = .ok (.aload_n 0, 1) := by decide +kernel
theorem dX2_readNot_39 : decode cX2_readNot 39 = .ok (.getfield 59, 3) := by decide +kernel
theorem dX2_readNot_42 : decode cX2_readNot 42 = .ok (.bipush 60, 2) := by decide +kernel
theorem dX2_readNot_44 : decode cX2_readNot 44 = .ok (.if_icmp .eq 12, 3) := by decide +kernel
theorem dX2_readNot_47 : decode cX2_readNot 47 = .ok (.aload_n 0, 1) := by decide +kernel
theorem dX2_readNot_48 : decode cX2_readNot 48 = .ok (.getfield 59, 3) := by decide +kernel
theorem dX2_readNot_51 : decode cX2_readNot 51 = .ok (.bipush 61, 2) := by decide +kernel
theorem dX2_readNot_53 : decode cX2_readNot 53 = .ok (.if_icmp .ne 34, 3) := by decide +kernel
theorem dX2_readNot_56 : decode cX2_readNot 56 = .ok (.aload_n 0, 1) := by decide +kernel
theorem dX2_readNot_57 : decode cX2_readNot 57 = .ok (.getfield 59, 3) := by decide +kernel
theorem dX2_readNot_60 : decode cX2_readNot 60 = .ok (.bipush 60, 2) := by decide +kernel
theorem dX2_readNot_62 : decode cX2_readNot 62 = .ok (.if_icmp .ne 8, 3) := by decide +kernel
theorem dX2_readNot_65 : decode cX2_readNot 65 = .ok (.bipush (-11), 2) := by decide +kernel
theorem dX2_readNot_67 : decode cX2_readNot 67 = .ok (.goto 5, 3) := by decide +kernel
theorem dX2_readNot_70 : decode cX2_readNot 70 = .ok (.bipush (-12), 2) := by decide +kernel
theorem dX2_readNot_72 : decode cX2_readNot 72 = .ok (.istore_n 2, 1) := by decide +kernel
theorem dX2_readNot_73 : decode cX2_readNot 73 = .ok (.aload_n 0, 1) := by decide +kernel
theorem dX2_readNot_74 : decode cX2_readNot 74 = .ok (.invokevirtual 31, 3) := by decide +kernel
theorem dX2_readNot_77 : decode cX2_readNot 77 = .ok (.aload_n 0, 1) := by decide +kernel
theorem dX2_readNot_78 : decode cX2_readNot 78 = .ok (.iload_n 1, 1) := by decide +kernel
theorem dX2_readNot_79 : decode cX2_readNot 79 = .ok (.invokevirtual 68, 3) := by decide +kernel
theorem dX2_readNot_82 : decode cX2_readNot 82 = .ok (.aload_n 0, 1) := by decide +kernel
theorem dX2_readNot_83 : decode cX2_readNot 83 = .ok (.iload_n 2, 1) := by decide +kernel
theorem dX2_readNot_84 : decode cX2_readNot 84 = .ok (.invokevirtual 62, 3) := by decide +kernel
theorem dX2_readNot_87 : decode cX2_readNot 87 = .ok (.return_, 1) := by decide +kernel
set_option maxRecDepth 20000 in
theorem dX2_readSum_0 : decode cX2_readSum 0 = .ok (.aload_n 0, 1) := by decide +kernel
theorem dX2_readSum_1 : decode cX2_readSum 1 = .ok (.iload_n 1, 1) := by decide +kernel
theorem dX2_readSum_2 : decode cX2_readSum 2 = .ok (.invokevirtual 71, 3) := by decide +kernel
theorem dX2_readSum_5 : decode cX2_readSum 5 = .ok (.iconst 0, 1) := by decide +kernel
theorem dX2_readSum_6 : decode cX2_readSum 6 = .ok (.istore_n 2, 1) := by decide +kernel
theorem dX2_readSum_7 : decode cX2_readSum 7 = .ok (.iload_n 2, 1) := by decide +kernel
theorem dX2_readSum_8 : decode cX2_readSum 8 = .ok (.sipush 160, 3) := by decide +kernel
theorem dX2_readSum_11 : decode cX2_readSum 11 = .ok (.if_icmp .ge 58, 3) := by decide +kernel
theorem dX2_readSum_14 : decode cX2_readSum 14 = .ok (.aload_n 0, 1) := by decide +kernel
theorem dX2_readSum_15 : decode cX2_readSum 15 = .ok (.getfield 59, 3) := by decide +kernel
theorem dX2_readSum_18 : decode cX2_readSum 18 = .ok (.bipush 43, 2) := by decide +kernel
theorem dX2_readSum_20 : decode cX2_readSum 20 = .ok (.if_icmp .eq 12, 3) := by decide +kernel
theorem dX2_readSum_23 : decode cX2_readSum 23 = .ok (.aload_n 0, 1) := by decide +kernel
theorem dX2_readSum_24 : decode cX2_readSum 24 = .ok (.getfield 59, 3) := by decide +kernel
theorem dX2_readSum_27 : decode cX2_readSum 27 = .ok (.bipush 45, 2) := by decide +kernel
theorem dX2_readSum_29 : decode cX2_readSum 29 = .ok (.if_icmp .ne 40, 3) := by decide +kernel
theorem dX2_readSum_32 : decode cX2_readSum 32 = .ok (.aload_n 0, 1) := by decide +kernel
theorem dX2_readSum_33 : decode cX2_readSum 33 = .ok (.getfield 59, 3) := by decide +kernel
theorem dX2_readSum_36 : decode cX2_readSum 36 = .ok (.bipush 43, 2) := by decide +kernel
theorem dX2_readSum_38 : decode cX2_readSum 38 = .ok (.if_icmp .ne 8, 3) := by decide +kernel
theorem dX2_readSum_41 : decode cX2_readSum 41 = .ok (.bipush (-13), 2) := by decide +kernel
theorem dX2_readSum_43 : decode cX2_readSum 43 = .ok (.goto 5, 3) := by decide +kernel
theorem dX2_readSum_46 : decode cX2_readSum 46 = .ok (.bipush (-14), 2) := by decide +kernel
theorem dX2_readSum_48 : decode cX2_readSum 48 = .ok (.istore_n 3, 1) := by decide +kernel
theorem dX2_readSum_49 : decode cX2_readSum 49 = .ok (.aload_n 0, 1) := by decide +kernel
theorem dX2_readSum_50 : decode cX2_readSum 50 = .ok (.invokevirtual 31, 3) := by decide +kernel
theorem dX2_readSum_53 : decode cX2_readSum 53 = .ok (.aload_n 0, 1) := by decide +kernel
theorem dX2_readSum_54 : decode cX2_readSum 54 = .ok (.iload_n 1, 1) := by decide +kernel
theorem dX2_readSum_55 : decode cX2_readSum 55 = .ok (.invokevirtual 71, 3) := by decide +kernel
theorem dX2_readSum_58 : decode cX2_readSum 58 = .ok (.aload_n 0, 1) := by decide +kernel
theorem dX2_readSum_59 : decode cX2_readSum 59 = .ok (.iload_n 3, 1) := by decide +kernel
theorem dX2_readSum_60 : decode cX2_readSum 60 = .ok (.invokevirtual 62, 3) := by decide +kernel
theorem dX2_readSum_63 : decode cX2_readSum 63 = .ok (.iinc 2 1, 3) := by decide +kernel
theorem dX2_readSum_66 : decode cX2_readSum 66 = .ok (.goto (-59), 3) := by decide +kernel
theorem dX2_readSum_69 : decode cX2_readSum 69 = .ok (.return_, 1) := by decide +kernel
set_option maxRecDepth 20000 in
theorem dX2_readTerm_0 : decode cX2_readTerm 0 = .ok (.aload_n 0, 1) := by decide +kernel
theorem dX2_readTerm_1 : decode cX2_readTerm 1 = .ok (.iload_n 1, 1) := by decide +kernel
theorem dX2_readTerm_2 : decode cX2_readTerm 2 = .ok (.invokevirtual 74, 3) := by decide +kernel
theorem dX2_readTerm_5 : decode cX2_readTerm 5 = .ok (.iconst 0, 1) := by decide +kernel
theorem dX2_readTerm_6 : decode cX2_readTerm 6 = .ok (.istore_n 2, 1) := by decide +kernel
theorem dX2_readTerm_7 : decode cX2_readTerm 7 = .ok (.iload_n 2, 1) := by decide +kernel
theorem dX2_readTerm_8 : decode cX2_readTerm 8 = .ok (.sipush 160, 3) := by decide +kernel
theorem dX2_readTerm_11 : decode cX2_readTerm 11 = .ok (.if_icmp .ge 33, 3) := by decide +kernel
theorem dX2_readTerm_14 : decode cX2_readTerm 14 = .ok (.aload_n 0, 1) := by decide +kernel
theorem dX2_readTerm_15 : decode cX2_readTerm 15 = .ok (.getfield 59, 3) := by decide +kernel
theorem dX2_readTerm_18 : decode cX2_readTerm 18 = .ok (.bipush 42, 2) := by decide +kernel
theorem dX2_readTerm_20 : decode cX2_readTerm 20 = .ok (.if_icmp .ne 24, 3) := by decide +kernel
theorem dX2_readTerm_23 : decode cX2_readTerm 23 = .ok (.aload_n 0, 1) := by decide +kernel
theorem dX2_readTerm_24 : decode cX2_readTerm 24 = .ok (.invokevirtual 31, 3) := by decide +kernel
theorem dX2_readTerm_27 : decode cX2_readTerm 27 = .ok (.aload_n 0, 1) := by decide +kernel
theorem dX2_readTerm_28 : decode cX2_readTerm 28 = .ok (.iload_n 1, 1) := by decide +kernel
theorem dX2_readTerm_29 : decode cX2_readTerm 29 = .ok (.invokevirtual 74, 3) := by decide +kernel
theorem dX2_readTerm_32 : decode cX2_readTerm 32 = .ok (.aload_n 0, 1) := by decide +kernel
theorem dX2_readTerm_33 : decode cX2_readTerm 33 = .ok (.bipush (-15), 2) := by decide +kernel
theorem dX2_readTerm_35 : decode cX2_readTerm 35 = .ok (.invokevirtual 62, 3) := by decide +kernel
theorem dX2_readTerm_38 : decode cX2_readTerm 38 = .ok (.iinc 2 1, 3) := by decide +kernel
theorem dX2_readTerm_41 : decode cX2_readTerm 41 = .ok (.goto (-34), 3) := by decide +kernel
theorem dX2_readTerm_44 : decode cX2_readTerm 44 = .ok (.return_, 1) := by decide +kernel
set_option maxRecDepth 20000 in
theorem dX2_readOne_0 : decode cX2_readOne 0 = .ok (.aload_n 0, 1) := by decide +kernel
theorem dX2_readOne_1 : decode cX2_readOne 1 = .ok (.getfield 59, 3) := by decide +kernel
theorem dX2_readOne_4 : decode cX2_readOne 4 = .ok (.sipush 257, 3) := by decide +kernel
theorem dX2_readOne_7 : decode cX2_readOne 7 = .ok (.if_icmp .ne 18, 3) := by decide +kernel
theorem dX2_readOne_10 : decode cX2_readOne 10 = .ok (.aload_n 0, 1) := by decide +kernel
theorem dX2_readOne_11 : decode cX2_readOne 11 = .ok (.aload_n 0, 1) := by decide +kernel
theorem dX2_readOne_12 : decode cX2_readOne 12 = .ok (.getfield 77, 3) := by decide +kernel
theorem dX2_readOne_15 : decode cX2_readOne 15 = .ok (.invokevirtual 62, 3) := by decide +kernel
theorem dX2_readOne_18 : decode cX2_readOne 18 = .ok (.aload_n 0, 1) := by decide +kernel
theorem dX2_readOne_19 : decode cX2_readOne 19 = .ok (.invokevirtual 31, 3) := by decide +kernel
theorem dX2_readOne_22 : decode cX2_readOne 22 = .ok (.goto 111, 3) := by decide +kernel
theorem dX2_readOne_25 : decode cX2_readOne 25 = .ok (.aload_n 0, 1) := by decide +kernel
theorem dX2_readOne_26 : decode cX2_readOne 26 = .ok (.getfield 59, 3) := by decide +kernel
theorem dX2_readOne_29 : decode cX2_readOne 29 = .ok (.ifCond .ge 18, 3) := by decide +kernel
theorem dX2_readOne_32 : decode cX2_readOne 32 = .ok (.aload_n 0, 1) := by decide +kernel
theorem dX2_readOne_33 : decode cX2_readOne 33 = .ok (.aload_n 0, 1) := by decide +kernel
theorem dX2_readOne_34 : decode cX2_readOne 34 = .ok (.getfield 59, 3) := by decide +kernel
theorem dX2_readOne_37 : decode cX2_readOne 37 = .ok (.invokevirtual 62, 3) := by decide +kernel
theorem dX2_readOne_40 : decode cX2_readOne 40 = .ok (.aload_n 0, 1) := by decide +kernel
theorem dX2_readOne_41 : decode cX2_readOne 41 = .ok (.invokevirtual 31, 3) := by decide +kernel
theorem dX2_readOne_44 : decode cX2_readOne 44 = .ok (.goto 89, 3) := by decide +kernel
theorem dX2_readOne_47 : decode cX2_readOne 47 = .ok (.aload_n 0, 1) := by decide +kernel
theorem dX2_readOne_48 : decode cX2_readOne 48 = .ok (.getfield 59, 3) := by decide +kernel
theorem dX2_readOne_51 : decode cX2_readOne 51 = .ok (.bipush 45, 2) := by decide +kernel
theorem dX2_readOne_53 : decode cX2_readOne 53 = .ok (.if_icmp .ne 28, 3) := by decide +kernel
theorem dX2_readOne_56 : decode cX2_readOne 56 = .ok (.iload_n 1, 1) := by decide +kernel
theorem dX2_readOne_57 : decode cX2_readOne 57 = .ok (.iconst 5, 1) := by decide +kernel
theorem dX2_readOne_58 : decode cX2_readOne 58 = .ok (.if_icmp .ge 23, 3) := by decide +kernel
theorem dX2_readOne_61 : decode cX2_readOne 61 = .ok (.aload_n 0, 1) := by decide +kernel
theorem dX2_readOne_62 : decode cX2_readOne 62 = .ok (.invokevirtual 31, 3) := by decide +kernel
theorem dX2_readOne_65 : decode cX2_readOne 65 = .ok (.aload_n 0, 1) := by decide +kernel
theorem dX2_readOne_66 : decode cX2_readOne 66 = .ok (.iload_n 1, 1) := by decide +kernel
theorem dX2_readOne_67 : decode cX2_readOne 67 = .ok (.iconst 1, 1) := by decide +kernel
theorem dX2_readOne_68 : decode cX2_readOne 68 = .ok (.iadd, 1) := by decide +kernel
theorem dX2_readOne_69 : decode cX2_readOne 69 = .ok (.invokevirtual 74, 3) := by decide +kernel
theorem dX2_readOne_72 : decode cX2_readOne 72 = .ok (.aload_n 0, 1) := by decide +kernel
theorem dX2_readOne_73 : decode cX2_readOne 73 = .ok (.bipush (-8), 2) := by decide +kernel
theorem dX2_readOne_75 : decode cX2_readOne 75 = .ok (.invokevirtual 62, 3) := by decide +kernel
theorem dX2_readOne_78 : decode cX2_readOne 78 = .ok (.goto 55, 3) := by decide +kernel
theorem dX2_readOne_81 : decode cX2_readOne 81 = .ok (.aload_n 0, 1) := by decide +kernel
theorem dX2_readOne_82 : decode cX2_readOne 82 = .ok (.getfield 59, 3) := by decide +kernel
theorem dX2_readOne_85 : decode cX2_readOne 85 = .ok (.bipush 40, 2) := by decide +kernel
theorem dX2_readOne_87 : decode cX2_readOne 87 = .ok (.if_icmp .ne 42, 3) := by decide +kernel
theorem dX2_readOne_90 : decode cX2_readOne 90 = .ok (.iload_n 1, 1) := by decide +kernel
theorem dX2_readOne_91 : decode cX2_readOne 91 = .ok (.iconst 5, 1) := by decide +kernel
theorem dX2_readOne_92 : decode cX2_readOne 92 = .ok (.if_icmp .ge 37, 3) := by decide +kernel
theorem dX2_readOne_95 : decode cX2_readOne 95 = .ok (.aload_n 0, 1) := by decide +kernel
theorem dX2_readOne_96 : decode cX2_readOne 96 = .ok (.invokevirtual 31, 3) := by decide +kernel
theorem dX2_readOne_99 : decode cX2_readOne 99 = .ok (.aload_n 0, 1) := by decide +kernel
theorem dX2_readOne_100 : decode cX2_readOne 100 = .ok (.iload_n 1, 1) := by decide +kernel
theorem dX2_readOne_101 : decode cX2_readOne 101 = .ok (.iconst 1, 1) := by decide +kernel
theorem dX2_readOne_102 : decode cX2_readOne 102 = .ok (.iadd, 1) := by decide +kernel
theorem dX2_readOne_103 : decode cX2_readOne 103 = .ok (.invokevirtual 53, 3) := by decide +kernel
theorem dX2_readOne_106 : decode cX2_readOne 106 = .ok (.aload_n 0, 1) := by decide +kernel
theorem dX2_readOne_107 : decode cX2_readOne 107 = .ok (.getfield 59, 3) := by decide +kernel
theorem dX2_readOne_110 : decode cX2_readOne 110 = .ok (.bipush 41, 2) := by decide +kernel
theorem dX2_readOne_112 : decode cX2_readOne 112 = .ok (.if_icmp .ne 10, 3) := by decide +kernel
theorem dX2_readOne_115 : decode cX2_readOne 115 = .ok (.aload_n 0, 1) := by decide +kernel
theorem dX2_readOne_116 : decode cX2_readOne 116 = .ok (.invokevirtual 31, 3) := by decide +kernel
theorem dX2_readOne_119 : decode cX2_readOne 119 = .ok (.goto 14, 3) := by decide +kernel
theorem dX2_readOne_122 : decode cX2_readOne 122 = .ok (.aload_n 0, 1) := by decide +kernel
theorem dX2_readOne_123 : decode cX2_readOne 123 = .ok (.invokevirtual 80, 3) := by decide +kernel
theorem dX2_readOne_126 : decode cX2_readOne 126 = .ok (.goto 7, 3) := by decide +kernel
theorem dX2_readOne_129 : decode cX2_readOne 129 = .ok (.aload_n 0, 1) := by decide +kernel
theorem dX2_readOne_130 : decode cX2_readOne 130 = .ok (.invokevirtual 80, 3) := by decide +kernel
theorem dX2_readOne_133 : decode cX2_readOne 133 = .ok (.return_, 1) := by decide +kernel
set_option maxRecDepth 20000 in
theorem dX2_need_0 : decode cX2_need 0 = .ok (.aload_n 0, 1) := by decide +kernel
theorem dX2_need_1 : decode cX2_need 1 = .ok (.getfield 59, 3) := by decide +kernel
theorem dX2_need_4 : decode cX2_need 4 = .ok (.iload_n 1, 1) := by decide +kernel
theorem dX2_need_5 : decode cX2_need 5 = .ok (.if_icmp .ne 10, 3) := by decide +kernel
theorem dX2_need_8 : decode cX2_need 8 = .ok (.aload_n 0, 1) := by decide +kernel
theorem dX2_need_9 : decode cX2_need 9 = .ok (.invokevirtual 31, 3) := by decide +kernel
theorem dX2_need_12 : decode cX2_need 12 = .ok (.goto 7, 3) := by decide +kernel
theorem dX2_need_15 : decode cX2_need 15 = .ok (.aload_n 0, 1) := by decide +kernel
theorem dX2_need_16 : decode cX2_need 16 = .ok (.invokevirtual 80, 3) := by decide +kernel
theorem dX2_need_19 : decode cX2_need 19 = .ok (.return_, 1) := by decide +kernel
theorem dX2_refuse_0 : decode cX2_refuse 0 = .ok (.aload_n 0, 1) := by decide +kernel
theorem dX2_refuse_1 : decode cX2_refuse 1 = .ok (.getfield 22, 3) := by decide +kernel
theorem dX2_refuse_4 : decode cX2_refuse 4 = .ok (.iconst (-1), 1) := by decide +kernel
theorem dX2_refuse_5 : decode cX2_refuse 5 = .ok (.if_icmp .ne 11, 3) := by decide +kernel
theorem dX2_refuse_8 : decode cX2_refuse 8 = .ok (.aload_n 0, 1) := by decide +kernel
theorem dX2_refuse_9 : decode cX2_refuse 9 = .ok (.aload_n 0, 1) := by decide +kernel
theorem dX2_refuse_10 : decode cX2_refuse 10 = .ok (.getfield 83, 3) := by decide +kernel
theorem dX2_refuse_13 : decode cX2_refuse 13 = .ok (.putfield 22, 3) := by decide +kernel
theorem dX2_refuse_16 : decode cX2_refuse 16 = .ok (.aload_n 0, 1) := by decide +kernel
theorem dX2_refuse_17 : decode cX2_refuse 17 = .ok (.sipush 258, 3) := by decide +kernel
theorem dX2_refuse_20 : decode cX2_refuse 20 = .ok (.putfield 59, 3) := by decide +kernel
theorem dX2_refuse_23 : decode cX2_refuse 23 = .ok (.return_, 1) := by decide +kernel
theorem dX2_write_0 : decode cX2_write 0 = .ok (.aload_n 0, 1) := by decide +kernel
theorem dX2_write_1 : decode cX2_write 1 = .ok (.getfield 28, 3) := by decide +kernel
theorem dX2_write_4 : decode cX2_write 4 = .ok (.sipush 160, 3) := by decide +kernel
theorem dX2_write_7 : decode cX2_write 7 = .ok (.if_icmp .ge 23, 3) := by decide +kernel
theorem dX2_write_10 : decode cX2_write 10 = .ok (.aload_n 0, 1) := by decide +kernel
theorem dX2_write_11 : decode cX2_write 11 = .ok (.getfield 15, 3) := by decide +kernel
theorem dX2_write_14 : decode cX2_write 14 = .ok (.aload_n 0, 1) := by decide +kernel
theorem dX2_write_15 : decode cX2_write 15 = .ok (.getfield 28, 3) := by decide +kernel
theorem dX2_write_18 : decode cX2_write 18 = .ok (.iload_n 1, 1) := by decide +kernel
theorem dX2_write_19 : decode cX2_write 19 = .ok (.iastore, 1) := by decide +kernel
theorem dX2_write_20 : decode cX2_write 20 = .ok (.aload_n 0, 1) := by decide +kernel
theorem dX2_write_21 : decode cX2_write 21 = .ok (.dup, 1) := by decide +kernel
theorem dX2_write_22 : decode cX2_write 22 = .ok (.getfield 28, 3) := by decide +kernel
theorem dX2_write_25 : decode cX2_write 25 = .ok (.iconst 1, 1) := by decide +kernel
theorem dX2_write_26 : decode cX2_write 26 = .ok (.iadd, 1) := by decide +kernel
theorem dX2_write_27 : decode cX2_write 27 = .ok (.putfield 28, 3) := by decide +kernel
theorem dX2_write_30 : decode cX2_write 30 = .ok (.return_, 1) := by decide +kernel
set_option maxRecDepth 20000 in
theorem dX2_advance_0 : decode cX2_advance 0 = .ok (.aload_n 0, 1) := by decide +kernel
theorem dX2_advance_1 : decode cX2_advance 1 = .ok (.getfield 25, 3) := by decide +kernel
theorem dX2_advance_4 : decode cX2_advance 4 = .ok (.aload_n 0, 1) := by decide +kernel
theorem dX2_advance_5 : decode cX2_advance 5 = .ok (.getfield 18, 3) := by decide +kernel
theorem dX2_advance_8 : decode cX2_advance 8 = .ok (.if_icmp .ge 44, 3) := by decide +kernel
theorem dX2_advance_11 : decode cX2_advance 11 = .ok (.aload_n 0, 1) := by decide +kernel
theorem dX2_advance_12 : decode cX2_advance 12 = .ok (.getfield 9, 3) := by decide +kernel
theorem dX2_advance_15 : decode cX2_advance 15 = .ok (.aload_n 0, 1) := by decide +kernel
theorem dX2_advance_16 : decode cX2_advance 16 = .ok (.getfield 25, 3) := by decide +kernel
theorem dX2_advance_19 : decode cX2_advance 19 = .ok (.iaload, 1) := by decide +kernel
theorem dX2_advance_20 : decode cX2_advance 20 = .ok (.bipush 32, 2) := by decide +kernel
theorem dX2_advance_22 : decode cX2_advance 22 = .ok (.if_icmp .eq 17, 3) := by decide +kernel
theorem dX2_advance_25 : decode cX2_advance 25 = .ok (.aload_n 0, 1) := by decide +kernel
theorem dX2_advance_26 : decode cX2_advance 26 = .ok (.getfield 9, 3) := by decide +kernel
theorem dX2_advance_29 : decode cX2_advance 29 = .ok (.aload_n 0, 1) := by decide +kernel
theorem dX2_advance_30 : decode cX2_advance 30 = .ok (.getfield 25, 3) := by decide +kernel
theorem dX2_advance_33 : decode cX2_advance 33 = .ok (.iaload, 1) := by decide +kernel
theorem dX2_advance_34 : decode cX2_advance 34 = .ok (.bipush 10, 2) := by decide +kernel
theorem dX2_advance_36 : decode cX2_advance 36 = .ok (.if_icmp .ne 16, 3) := by decide +kernel
theorem dX2_advance_39 : decode cX2_advance 39 = .ok (.aload_n 0, 1) := by decide +kernel
theorem dX2_advance_40 : decode cX2_advance 40 = .ok (.dup, 1) := by decide +kernel
theorem dX2_advance_41 : decode cX2_advance 41 = .ok (.getfield 25, 3) := by decide +kernel
theorem dX2_advance_44 : decode cX2_advance 44 = .ok (.iconst 1, 1) := by decide +kernel
theorem dX2_advance_45 : decode cX2_advance 45 = .ok (.iadd, 1) := by decide +kernel
theorem dX2_advance_46 : decode cX2_advance 46 = .ok (.putfield 25, 3) := by decide +kernel
theorem dX2_advance_49 : decode cX2_advance 49 = .ok (.goto (-49), 3) := by decide +kernel
theorem dX2_advance_52 : decode cX2_advance 52 = .ok (.aload_n 0, 1) := by decide +kernel
theorem dX2_advance_53 : decode cX2_advance 53 = .ok (.aload_n 0, 1) := by decide +kernel
theorem dX2_advance_54 : decode cX2_advance 54 = .ok (.getfield 25, 3) := by decide +kernel
theorem dX2_advance_57 : decode cX2_advance 57 = .ok (.putfield 83, 3) := by decide +kernel
theorem dX2_advance_60 : decode cX2_advance 60 = .ok (.aload_n 0, 1) := by decide +kernel
theorem dX2_advance_61 : decode cX2_advance 61 = .ok (.getfield 25, 3) := by decide +kernel
theorem dX2_advance_64 : decode cX2_advance 64 = .ok (.aload_n 0, 1) := by decide +kernel
theorem dX2_advance_65 : decode cX2_advance 65 = .ok (.getfield 18, 3) := by decide +kernel
theorem dX2_advance_68 : decode cX2_advance 68 = .ok (.if_icmp .lt 13, 3) := by decide +kernel
theorem dX2_advance_71 : decode cX2_advance 71 = .ok (.aload_n 0, 1) := by decide +kernel
theorem dX2_advance_72 : decode cX2_advance 72 = .ok (.sipush 256, 3) := by decide +kernel
theorem dX2_advance_75 : decode cX2_advance 75 = .ok (.putfield 59, 3) := by decide +kernel
theorem dX2_advance_78 : decode cX2_advance 78 = .ok (.goto 134, 3) := by decide +kernel
theorem dX2_advance_81 : decode cX2_advance 81 = .ok (.aload_n 0, 1) := by decide +kernel
theorem dX2_advance_82 : decode cX2_advance 82 = .ok (.getfield 9, 3) := by decide +kernel
theorem dX2_advance_85 : decode cX2_advance 85 = .ok (.aload_n 0, 1) := by decide +kernel
theorem dX2_advance_86 : decode cX2_advance 86 = .ok (.getfield 25, 3) := by decide +kernel
theorem dX2_advance_89 : decode cX2_advance 89 = .ok (.iaload, 1) := by decide +kernel
theorem dX2_advance_90 : decode cX2_advance 90 = .ok (.invokestatic 86, 3) := by decide +kernel
theorem dX2_advance_93 : decode cX2_advance 93 = .ok (.ifCond .eq 53, 3) := by decide +kernel
theorem dX2_advance_96 : decode cX2_advance 96 = .ok (.aload_n 0, 1) := by decide +kernel
theorem dX2_advance_97 : decode cX2_advance 97 = .ok (.getfield 25, 3) := by decide +kernel
theorem dX2_advance_100 : decode cX2_advance 100 = .ok (.aload_n 0, 1) := by decide +kernel
theorem dX2_advance_101 : decode cX2_advance 101 = .ok (.getfield 18, 3) := by decide +kernel
theorem dX2_advance_104 : decode cX2_advance 104 = .ok (.if_icmp .ge 31, 3) := by decide +kernel
theorem dX2_advance_107 : decode cX2_advance 107 = .ok (.aload_n 0, 1) := by decide +kernel
theorem dX2_advance_108 : decode cX2_advance 108 = .ok (.getfield 9, 3) := by decide +kernel
theorem dX2_advance_111 : decode cX2_advance 111 = .ok (.aload_n 0, 1) := by decide +kernel
theorem dX2_advance_112 : decode cX2_advance 112 = .ok (.getfield 25, 3) := by decide +kernel
theorem dX2_advance_115 : decode cX2_advance 115 = .ok (.iaload, 1) := by decide +kernel
theorem dX2_advance_116 : decode cX2_advance 116 = .ok (.invokestatic 86, 3) := by decide +kernel
theorem dX2_advance_119 : decode cX2_advance 119 = .ok (.ifCond .eq 16, 3) := by decide +kernel
theorem dX2_advance_122 : decode cX2_advance 122 = .ok (.aload_n 0, 1) := by decide +kernel
theorem dX2_advance_123 : decode cX2_advance 123 = .ok (.dup, 1) := by decide +kernel
theorem dX2_advance_124 : decode cX2_advance 124 = .ok (.getfield 25, 3) := by decide +kernel
theorem dX2_advance_127 : decode cX2_advance 127 = .ok (.iconst 1, 1) := by decide +kernel
theorem dX2_advance_128 : decode cX2_advance 128 = .ok (.iadd, 1) := by decide +kernel
theorem dX2_advance_129 : decode cX2_advance 129 = .ok (.putfield 25, 3) := by decide +kernel
theorem dX2_advance_132 : decode cX2_advance 132 = .ok (.goto (-36), 3) := by decide +kernel
theorem dX2_advance_135 : decode cX2_advance 135 = .ok (.aload_n 0, 1) := by decide +kernel
theorem dX2_advance_136 : decode cX2_advance 136 = .ok (.aload_n 0, 1) := by decide +kernel
theorem dX2_advance_137 : decode cX2_advance 137 = .ok (.invokevirtual 90, 3) := by decide +kernel
theorem dX2_advance_140 : decode cX2_advance 140 = .ok (.putfield 59, 3) := by decide +kernel
theorem dX2_advance_143 : decode cX2_advance 143 = .ok (.goto 69, 3) := by decide +kernel
theorem dX2_advance_146 : decode cX2_advance 146 = .ok (.aload_n 0, 1) := by decide +kernel
theorem dX2_advance_147 : decode cX2_advance 147 = .ok (.getfield 9, 3) := by decide +kernel
theorem dX2_advance_150 : decode cX2_advance 150 = .ok (.aload_n 0, 1) := by decide +kernel
theorem dX2_advance_151 : decode cX2_advance 151 = .ok (.getfield 25, 3) := by decide +kernel
theorem dX2_advance_154 : decode cX2_advance 154 = .ok (.iaload, 1) := by decide +kernel
theorem dX2_advance_155 : decode cX2_advance 155 = .ok (.invokestatic 94, 3) := by decide +kernel
theorem dX2_advance_158 : decode cX2_advance 158 = .ok (.ifCond .eq 10, 3) := by decide +kernel
theorem dX2_advance_161 : decode cX2_advance 161 = .ok (.aload_n 0, 1) := by decide +kernel
theorem dX2_advance_162 : decode cX2_advance 162 = .ok (.invokevirtual 97, 3) := by decide +kernel
theorem dX2_advance_165 : decode cX2_advance 165 = .ok (.goto 47, 3) := by decide +kernel
theorem dX2_advance_168 : decode cX2_advance 168 = .ok (.aload_n 0, 1) := by decide +kernel
theorem dX2_advance_169 : decode cX2_advance 169 = .ok (.aload_n 0, 1) := by decide +kernel
theorem dX2_advance_170 : decode cX2_advance 170 = .ok (.getfield 9, 3) := by decide +kernel
theorem dX2_advance_173 : decode cX2_advance 173 = .ok (.aload_n 0, 1) := by decide +kernel
theorem dX2_advance_174 : decode cX2_advance 174 = .ok (.getfield 25, 3) := by decide +kernel
theorem dX2_advance_177 : decode cX2_advance 177 = .ok (.iaload, 1) := by decide +kernel
theorem dX2_advance_178 : decode cX2_advance 178 = .ok (.invokestatic 100, 3) := by decide +kernel
theorem dX2_advance_181 : decode cX2_advance 181 = .ok (.ifCond .eq 15, 3) := by decide +kernel
theorem dX2_advance_184 : decode cX2_advance 184 = .ok (.aload_n 0, 1) := by decide +kernel
theorem dX2_advance_185 : decode cX2_advance 185 = .ok (.getfield 9, 3) := by decide +kernel
theorem dX2_advance_188 : decode cX2_advance 188 = .ok (.aload_n 0, 1) := by decide +kernel
theorem dX2_advance_189 : decode cX2_advance 189 = .ok (.getfield 25, 3) := by decide +kernel
theorem dX2_advance_192 : decode cX2_advance 192 = .ok (.iaload, 1) := by decide +kernel
theorem dX2_advance_193 : decode cX2_advance 193 = .ok (.goto 6, 3) := by decide +kernel
theorem dX2_advance_196 : decode cX2_advance 196 = .ok (.sipush 258, 3) := by decide +kernel
theorem dX2_advance_199 : decode cX2_advance 199 = .ok (.putfield 59, 3) := by decide +kernel
theorem dX2_advance_202 : decode cX2_advance 202 = .ok (.aload_n 0, 1) := by decide +kernel
theorem dX2_advance_203 : decode cX2_advance 203 = .ok (.dup, 1) := by decide +kernel
theorem dX2_advance_204 : decode cX2_advance 204 = .ok (.getfield 25, 3) := by decide +kernel
theorem dX2_advance_207 : decode cX2_advance 207 = .ok (.iconst 1, 1) := by decide +kernel
theorem dX2_advance_208 : decode cX2_advance 208 = .ok (.iadd, 1) := by decide +kernel
theorem dX2_advance_209 : decode cX2_advance 209 = .ok (.putfield 25, 3) := by decide +kernel
theorem dX2_advance_212 : decode cX2_advance 212 = .ok (.return_, 1) := by decide +kernel
set_option maxRecDepth 20000 in
theorem dX2_readDigits_0 : decode cX2_readDigits 0 = .ok (.aload_n 0, 1) := by decide +kernel
theorem dX2_readDigits_1 : decode cX2_readDigits 1 = .ok (.iconst 0, 1) := by decide +kernel
theorem dX2_readDigits_2 : decode cX2_readDigits 2 = .ok (.putfield 77, 3) := by decide +kernel
theorem dX2_readDigits_5 : decode cX2_readDigits 5 = .ok (.aload_n 0, 1) := by decide +kernel
theorem dX2_readDigits_6 : decode cX2_readDigits 6 = .ok (.getfield 25, 3) := by decide +kernel
theorem dX2_readDigits_9 : decode cX2_readDigits 9 = .ok (.aload_n 0, 1) := by decide +kernel
theorem dX2_readDigits_10 : decode cX2_readDigits 10 = .ok (.getfield 18, 3) := by decide +kernel
theorem dX2_readDigits_13 : decode cX2_readDigits 13 = .ok (.if_icmp .ge 55, 3) := by decide +kernel
theorem dX2_readDigits_16 : decode cX2_readDigits 16 = .ok (.aload_n 0, 1) := by decide +kernel
theorem dX2_readDigits_17 : decode cX2_readDigits 17 = .ok (.getfield 9, 3) := by decide +kernel
theorem dX2_readDigits_20 : decode cX2_readDigits 20 = .ok (.aload_n 0, 1) := by decide +kernel
theorem dX2_readDigits_21 : decode cX2_readDigits 21 = .ok (.getfield 25, 3) := by decide +kernel
theorem dX2_readDigits_24 : decode cX2_readDigits 24 = .ok (.iaload, 1) := by decide +kernel
theorem dX2_readDigits_25 : decode cX2_readDigits 25 = .ok (.invokestatic 94, 3) := by decide +kernel
theorem dX2_readDigits_28 : decode cX2_readDigits 28 = .ok (.ifCond .eq 40, 3) := by decide +kernel
theorem dX2_readDigits_31 : decode cX2_readDigits 31 = .ok (.aload_n 0, 1) := by decide +kernel
theorem dX2_readDigits_32 : decode cX2_readDigits 32 = .ok (.bipush 10, 2) := by decide +kernel
theorem dX2_readDigits_34 : decode cX2_readDigits 34 = .ok (.aload_n 0, 1) := by decide +kernel
theorem dX2_readDigits_35 : decode cX2_readDigits 35 = .ok (.getfield 77, 3) := by decide +kernel
theorem dX2_readDigits_38 : decode cX2_readDigits 38 = .ok (.imul, 1) := by decide +kernel
theorem dX2_readDigits_39 : decode cX2_readDigits 39 = .ok (.aload_n 0, 1) := by decide +kernel
theorem dX2_readDigits_40 : decode cX2_readDigits 40 = .ok (.getfield 9, 3) := by decide +kernel
theorem dX2_readDigits_43 : decode cX2_readDigits 43 = .ok (.aload_n 0, 1) := by decide +kernel
theorem dX2_readDigits_44 : decode cX2_readDigits 44 = .ok (.getfield 25, 3) := by decide +kernel
theorem dX2_readDigits_47 : decode cX2_readDigits 47 = .ok (.iaload, 1) := by decide +kernel
theorem dX2_readDigits_48 : decode cX2_readDigits 48 = .ok (.iadd, 1) := by decide +kernel
theorem dX2_readDigits_49 : decode cX2_readDigits 49 = .ok (.bipush 48, 2) := by decide +kernel
theorem dX2_readDigits_51 : decode cX2_readDigits 51 = .ok (.isub, 1) := by decide +kernel
theorem dX2_readDigits_52 : decode cX2_readDigits 52 = .ok (.putfield 77, 3) := by decide +kernel
theorem dX2_readDigits_55 : decode cX2_readDigits 55 = .ok (.aload_n 0, 1) := by decide +kernel
theorem dX2_readDigits_56 : decode cX2_readDigits 56 = .ok (.dup, 1) := by decide +kernel
theorem dX2_readDigits_57 : decode cX2_readDigits 57 = .ok (.getfield 25, 3) := by decide +kernel
theorem dX2_readDigits_60 : decode cX2_readDigits 60 = .ok (.iconst 1, 1) := by decide +kernel
theorem dX2_readDigits_61 : decode cX2_readDigits 61 = .ok (.iadd, 1) := by decide +kernel
theorem dX2_readDigits_62 : decode cX2_readDigits 62 = .ok (.putfield 25, 3) := by decide +kernel
theorem dX2_readDigits_65 : decode cX2_readDigits 65 = .ok (.goto (-60), 3) := by decide +kernel
theorem dX2_readDigits_68 : decode cX2_readDigits 68 = .ok (.aload_n 0, 1) := by decide +kernel
theorem dX2_readDigits_69 : decode cX2_readDigits 69 = .ok (.aload_n 0, 1) := by decide +kernel
theorem dX2_readDigits_70 : decode cX2_readDigits 70 = .ok (.getfield 25, 3) := by decide +kernel
theorem dX2_readDigits_73 : decode cX2_readDigits 73 = .ok (.aload_n 0, 1) := by decide +kernel
theorem dX2_readDigits_74 : decode cX2_readDigits 74 = .ok (.getfield 83, 3) := by decide +kernel
theorem dX2_readDigits_77 : decode cX2_readDigits 77 = .ok (.isub, 1) := by decide +kernel
theorem dX2_readDigits_78 : decode cX2_readDigits 78 = .ok (.iconst 4, 1) := by decide +kernel
theorem dX2_readDigits_79 : decode cX2_readDigits 79 = .ok (.if_icmp .gt 9, 3) := by decide +kernel
theorem dX2_readDigits_82 : decode cX2_readDigits 82 = .ok (.sipush 257, 3) := by decide +kernel
theorem dX2_readDigits_85 : decode cX2_readDigits 85 = .ok (.goto 6, 3) := by decide +kernel
theorem dX2_readDigits_88 : decode cX2_readDigits 88 = .ok (.sipush 258, 3) := by decide +kernel
theorem dX2_readDigits_91 : decode cX2_readDigits 91 = .ok (.putfield 59, 3) := by decide +kernel
theorem dX2_readDigits_94 : decode cX2_readDigits 94 = .ok (.return_, 1) := by decide +kernel
set_option maxRecDepth 20000 in
theorem dX2_wordRead_0 : decode cX2_wordRead 0 = .ok (.aload_n 0, 1) := by decide +kernel
theorem dX2_wordRead_1 : decode cX2_wordRead 1 = .ok (.ldc 103, 2) := by decide +kernel
theorem dX2_wordRead_3 : decode cX2_wordRead 3 = .ok (.invokevirtual 105, 3) := by decide +kernel
theorem dX2_wordRead_6 : decode cX2_wordRead 6 = .ok (.ifCond .eq 7, 3) := by decide +kernel
theorem dX2_wordRead_9 : decode cX2_wordRead 9 = .ok (.iconst (-1), 1) := by decide +kernel
theorem dX2_wordRead_10 : decode cX2_wordRead 10 = .ok (.goto 166, 3) := by decide +kernel
theorem dX2_wordRead_13 : decode cX2_wordRead 13 = .ok (.aload_n 0, 1) := by decide +kernel
theorem dX2_wordRead_14 : decode cX2_wordRead 14 = .ok (.ldc 109, 2) := by decide +kernel
theorem dX2_wordRead_16 : decode cX2_wordRead 16 = .ok (.invokevirtual 105, 3) := by decide +kernel
theorem dX2_wordRead_19 : decode cX2_wordRead 19 = .ok (.ifCond .eq 8, 3) := by decide +kernel
theorem dX2_wordRead_22 : decode cX2_wordRead 22 = .ok (.bipush (-2), 2) := by decide +kernel
theorem dX2_wordRead_24 : decode cX2_wordRead 24 = .ok (.goto 152, 3) := by decide +kernel
theorem dX2_wordRead_27 : decode cX2_wordRead 27 = .ok (.aload_n 0, 1) := by decide +kernel
theorem dX2_wordRead_28 : decode cX2_wordRead 28 = .ok (.ldc 111, 2) := by decide +kernel
theorem dX2_wordRead_30 : decode cX2_wordRead 30 = .ok (.invokevirtual 105, 3) := by decide +kernel
theorem dX2_wordRead_33 : decode cX2_wordRead 33 = .ok (.ifCond .eq 8, 3) := by decide +kernel
theorem dX2_wordRead_36 : decode cX2_wordRead 36 = .ok (.bipush (-3), 2) := by decide +kernel
theorem dX2_wordRead_38 : decode cX2_wordRead 38 = .ok (.goto 138, 3) := by decide +kernel
theorem dX2_wordRead_41 : decode cX2_wordRead 41 = .ok (.aload_n 0, 1) := by decide +kernel
theorem dX2_wordRead_42 : decode cX2_wordRead 42 = .ok (.ldc 113, 2) := by decide +kernel
theorem dX2_wordRead_44 : decode cX2_wordRead 44 = .ok (.invokevirtual 105, 3) := by decide +kernel
theorem dX2_wordRead_47 : decode cX2_wordRead 47 = .ok (.ifCond .eq 8, 3) := by decide +kernel
theorem dX2_wordRead_50 : decode cX2_wordRead 50 = .ok (.bipush (-4), 2) := by decide +kernel
theorem dX2_wordRead_52 : decode cX2_wordRead 52 = .ok (.goto 124, 3) := by decide +kernel
theorem dX2_wordRead_55 : decode cX2_wordRead 55 = .ok (.aload_n 0, 1) := by decide +kernel
theorem dX2_wordRead_56 : decode cX2_wordRead 56 = .ok (.ldc 114, 2) := by decide +kernel
theorem dX2_wordRead_58 : decode cX2_wordRead 58 = .ok (.invokevirtual 105, 3) := by decide +kernel
theorem dX2_wordRead_61 : decode cX2_wordRead 61 = .ok (.ifCond .eq 8, 3) := by decide +kernel
theorem dX2_wordRead_64 : decode cX2_wordRead 64 = .ok (.bipush (-5), 2) := by decide +kernel
theorem dX2_wordRead_66 : decode cX2_wordRead 66 = .ok (.goto 110, 3) := by decide +kernel
theorem dX2_wordRead_69 : decode cX2_wordRead 69 = .ok (.aload_n 0, 1) := by decide +kernel
theorem dX2_wordRead_70 : decode cX2_wordRead 70 = .ok (.ldc 116, 2) := by decide +kernel
theorem dX2_wordRead_72 : decode cX2_wordRead 72 = .ok (.invokevirtual 105, 3) := by decide +kernel
theorem dX2_wordRead_75 : decode cX2_wordRead 75 = .ok (.ifCond .eq 8, 3) := by decide +kernel
theorem dX2_wordRead_78 : decode cX2_wordRead 78 = .ok (.bipush (-6), 2) := by decide +kernel
theorem dX2_wordRead_80 : decode cX2_wordRead 80 = .ok (.goto 96, 3) := by decide +kernel
theorem dX2_wordRead_83 : decode cX2_wordRead 83 = .ok (.aload_n 0, 1) := by decide +kernel
theorem dX2_wordRead_84 : decode cX2_wordRead 84 = .ok (.ldc 118, 2) := by decide +kernel
theorem dX2_wordRead_86 : decode cX2_wordRead 86 = .ok (.invokevirtual 105, 3) := by decide +kernel
theorem dX2_wordRead_89 : decode cX2_wordRead 89 = .ok (.ifCond .eq 9, 3) := by decide +kernel
theorem dX2_wordRead_92 : decode cX2_wordRead 92 = .ok (.sipush 259, 3) := by decide +kernel
theorem dX2_wordRead_95 : decode cX2_wordRead 95 = .ok (.goto 81, 3) := by decide +kernel
theorem dX2_wordRead_98 : decode cX2_wordRead 98 = .ok (.aload_n 0, 1) := by decide +kernel
theorem dX2_wordRead_99 : decode cX2_wordRead 99 = .ok (.ldc 120, 2) := by decide +kernel
theorem dX2_wordRead_101 : decode cX2_wordRead 101 = .ok (.invokevirtual 105, 3) := by decide +kernel
theorem dX2_wordRead_104 : decode cX2_wordRead 104 = .ok (.ifCond .eq 9, 3) := by decide +kernel
theorem dX2_wordRead_107 : decode cX2_wordRead 107 = .ok (.sipush 260, 3) := by decide +kernel
theorem dX2_wordRead_110 : decode cX2_wordRead 110 = .ok (.goto 66, 3) := by decide +kernel
theorem dX2_wordRead_113 : decode cX2_wordRead 113 = .ok (.aload_n 0, 1) := by decide +kernel
theorem dX2_wordRead_114 : decode cX2_wordRead 114 = .ok (.ldc 122, 2) := by decide +kernel
theorem dX2_wordRead_116 : decode cX2_wordRead 116 = .ok (.invokevirtual 105, 3) := by decide +kernel
theorem dX2_wordRead_119 : decode cX2_wordRead 119 = .ok (.ifCond .eq 9, 3) := by decide +kernel
theorem dX2_wordRead_122 : decode cX2_wordRead 122 = .ok (.sipush 261, 3) := by decide +kernel
theorem dX2_wordRead_125 : decode cX2_wordRead 125 = .ok (.goto 51, 3) := by decide +kernel
theorem dX2_wordRead_128 : decode cX2_wordRead 128 = .ok (.aload_n 0, 1) := by decide +kernel
theorem dX2_wordRead_129 : decode cX2_wordRead 129 = .ok (.ldc 124, 2) := by decide +kernel
theorem dX2_wordRead_131 : decode cX2_wordRead 131 = .ok (.invokevirtual 105, 3) := by decide +kernel
theorem dX2_wordRead_134 : decode cX2_wordRead 134 = .ok (.ifCond .eq 9, 3) := by decide +kernel
theorem dX2_wordRead_137 : decode cX2_wordRead 137 = .ok (.sipush 262, 3) := by decide +kernel
theorem dX2_wordRead_140 : decode cX2_wordRead 140 = .ok (.goto 36, 3) := by decide +kernel
theorem dX2_wordRead_143 : decode cX2_wordRead 143 = .ok (.aload_n 0, 1) := by decide +kernel
theorem dX2_wordRead_144 : decode cX2_wordRead 144 = .ok (.ldc 126, 2) := by decide +kernel
theorem dX2_wordRead_146 : decode cX2_wordRead 146 = .ok (.invokevirtual 105, 3) := by decide +kernel
theorem dX2_wordRead_149 : decode cX2_wordRead 149 = .ok (.ifCond .eq 9, 3) := by decide +kernel
theorem dX2_wordRead_152 : decode cX2_wordRead 152 = .ok (.sipush 263, 3) := by decide +kernel
theorem dX2_wordRead_155 : decode cX2_wordRead 155 = .ok (.goto 21, 3) := by decide +kernel
theorem dX2_wordRead_158 : decode cX2_wordRead 158 = .ok (.aload_n 0, 1) := by decide +kernel
theorem dX2_wordRead_159 : decode cX2_wordRead 159 = .ok (.ldc 128, 2) := by decide +kernel
theorem dX2_wordRead_161 : decode cX2_wordRead 161 = .ok (.invokevirtual 105, 3) := by decide +kernel
theorem dX2_wordRead_164 : decode cX2_wordRead 164 = .ok (.ifCond .eq 9, 3) := by decide +kernel
theorem dX2_wordRead_167 : decode cX2_wordRead 167 = .ok (.sipush 264, 3) := by decide +kernel
theorem dX2_wordRead_170 : decode cX2_wordRead 170 = .ok (.goto 6, 3) := by decide +kernel
theorem dX2_wordRead_173 : decode cX2_wordRead 173 = .ok (.sipush 258, 3) := by decide +kernel
theorem dX2_wordRead_176 : decode cX2_wordRead 176 = .ok (.ireturn, 1) := by decide +kernel
set_option maxRecDepth 20000 in
theorem dX2_spells_0 : decode cX2_spells 0 = .ok (.aload_n 0, 1) := by decide +kernel
theorem dX2_spells_1 : decode cX2_spells 1 = .ok (.getfield 25, 3) := by decide +kernel
theorem dX2_spells_4 : decode cX2_spells 4 = .ok (.aload_n 0, 1) := by decide +kernel
theorem dX2_spells_5 : decode cX2_spells 5 = .ok (.getfield 83, 3) := by decide +kernel
theorem dX2_spells_8 : decode cX2_spells 8 = .ok (.isub, 1) := by decide +kernel
theorem dX2_spells_9 : decode cX2_spells 9 = .ok (.aload_n 1, 1) := by decide +kernel
theorem dX2_spells_10 : decode cX2_spells 10 = .ok (.invokevirtual 130, 3) := by decide +kernel
theorem dX2_spells_13 : decode cX2_spells 13 = .ok (.if_icmp .eq 5, 3) := by decide +kernel
theorem dX2_spells_16 : decode cX2_spells 16 = .ok (.iconst 0, 1) := by decide +kernel
theorem dX2_spells_17 : decode cX2_spells 17 = .ok (.ireturn, 1) := by decide +kernel
theorem dX2_spells_18 : decode cX2_spells 18 = .ok (.iconst 0, 1) := by decide +kernel
theorem dX2_spells_19 : decode cX2_spells 19 = .ok (.istore_n 2, 1) := by decide +kernel
theorem dX2_spells_20 : decode cX2_spells 20 = .ok (.iload_n 2, 1) := by decide +kernel
theorem dX2_spells_21 : decode cX2_spells 21 = .ok (.aload_n 1, 1) := by decide +kernel
theorem dX2_spells_22 : decode cX2_spells 22 = .ok (.invokevirtual 130, 3) := by decide +kernel
theorem dX2_spells_25 : decode cX2_spells 25 = .ok (.if_icmp .ge 30, 3) := by decide +kernel
theorem dX2_spells_28 : decode cX2_spells 28 = .ok (.aload_n 0, 1) := by decide +kernel
theorem dX2_spells_29 : decode cX2_spells 29 = .ok (.getfield 9, 3) := by decide +kernel
theorem dX2_spells_32 : decode cX2_spells 32 = .ok (.aload_n 0, 1) := by decide +kernel
theorem dX2_spells_33 : decode cX2_spells 33 = .ok (.getfield 83, 3) := by decide +kernel
theorem dX2_spells_36 : decode cX2_spells 36 = .ok (.iload_n 2, 1) := by decide +kernel
theorem dX2_spells_37 : decode cX2_spells 37 = .ok (.iadd, 1) := by decide +kernel
theorem dX2_spells_38 : decode cX2_spells 38 = .ok (.iaload, 1) := by decide +kernel
theorem dX2_spells_39 : decode cX2_spells 39 = .ok (.aload_n 1, 1) := by decide +kernel
theorem dX2_spells_40 : decode cX2_spells 40 = .ok (.iload_n 2, 1) := by decide +kernel
theorem dX2_spells_41 : decode cX2_spells 41 = .ok (.invokevirtual 135, 3) := by decide +kernel
theorem dX2_spells_44 : decode cX2_spells 44 = .ok (.if_icmp .eq 5, 3) := by decide +kernel
theorem dX2_spells_47 : decode cX2_spells 47 = .ok (.iconst 0, 1) := by decide +kernel
theorem dX2_spells_48 : decode cX2_spells 48 = .ok (.ireturn, 1) := by decide +kernel
theorem dX2_spells_49 : decode cX2_spells 49 = .ok (.iinc 2 1, 3) := by decide +kernel
theorem dX2_spells_52 : decode cX2_spells 52 = .ok (.goto (-32), 3) := by decide +kernel
theorem dX2_spells_55 : decode cX2_spells 55 = .ok (.iconst 1, 1) := by decide +kernel
theorem dX2_spells_56 : decode cX2_spells 56 = .ok (.ireturn, 1) := by decide +kernel
theorem dX2_isLetter_0 : decode cX2_isLetter 0 = .ok (.iload_n 0, 1) := by decide +kernel
theorem dX2_isLetter_1 : decode cX2_isLetter 1 = .ok (.bipush 97, 2) := by decide +kernel
theorem dX2_isLetter_3 : decode cX2_isLetter 3 = .ok (.if_icmp .lt 13, 3) := by decide +kernel
theorem dX2_isLetter_6 : decode cX2_isLetter 6 = .ok (.iload_n 0, 1) := by decide +kernel
theorem dX2_isLetter_7 : decode cX2_isLetter 7 = .ok (.bipush 122, 2) := by decide +kernel
theorem dX2_isLetter_9 : decode cX2_isLetter 9 = .ok (.if_icmp .gt 7, 3) := by decide +kernel
theorem dX2_isLetter_12 : decode cX2_isLetter 12 = .ok (.iconst 1, 1) := by decide +kernel
theorem dX2_isLetter_13 : decode cX2_isLetter 13 = .ok (.goto 4, 3) := by decide +kernel
theorem dX2_isLetter_16 : decode cX2_isLetter 16 = .ok (.iconst 0, 1) := by decide +kernel
theorem dX2_isLetter_17 : decode cX2_isLetter 17 = .ok (.ireturn, 1) := by decide +kernel
theorem dX2_isDigit_0 : decode cX2_isDigit 0 = .ok (.iload_n 0, 1) := by decide +kernel
theorem dX2_isDigit_1 : decode cX2_isDigit 1 = .ok (.bipush 48, 2) := by decide +kernel
theorem dX2_isDigit_3 : decode cX2_isDigit 3 = .ok (.if_icmp .lt 13, 3) := by decide +kernel
theorem dX2_isDigit_6 : decode cX2_isDigit 6 = .ok (.iload_n 0, 1) := by decide +kernel
theorem dX2_isDigit_7 : decode cX2_isDigit 7 = .ok (.bipush 57, 2) := by decide +kernel
theorem dX2_isDigit_9 : decode cX2_isDigit 9 = .ok (.if_icmp .gt 7, 3) := by decide +kernel
theorem dX2_isDigit_12 : decode cX2_isDigit 12 = .ok (.iconst 1, 1) := by decide +kernel
theorem dX2_isDigit_13 : decode cX2_isDigit 13 = .ok (.goto 4, 3) := by decide +kernel
theorem dX2_isDigit_16 : decode cX2_isDigit 16 = .ok (.iconst 0, 1) := by decide +kernel
theorem dX2_isDigit_17 : decode cX2_isDigit 17 = .ok (.ireturn, 1) := by decide +kernel
theorem dX2_isSign_0 : decode cX2_isSign 0 = .ok (.iload_n 0, 1) := by decide +kernel
theorem dX2_isSign_1 : decode cX2_isSign 1 = .ok (.bipush 40, 2) := by decide +kernel
theorem dX2_isSign_3 : decode cX2_isSign 3 = .ok (.if_icmp .eq 45, 3) := by decide +kernel
theorem dX2_isSign_6 : decode cX2_isSign 6 = .ok (.iload_n 0, 1) := by decide +kernel
theorem dX2_isSign_7 : decode cX2_isSign 7 = .ok (.bipush 41, 2) := by decide +kernel
theorem dX2_isSign_9 : decode cX2_isSign 9 = .ok (.if_icmp .eq 39, 3) := by decide +kernel
theorem dX2_isSign_12 : decode cX2_isSign 12 = .ok (.iload_n 0, 1) := by decide +kernel
theorem dX2_isSign_13 : decode cX2_isSign 13 = .ok (.bipush 59, 2) := by decide +kernel
theorem dX2_isSign_15 : decode cX2_isSign 15 = .ok (.if_icmp .eq 33, 3) := by decide +kernel
theorem dX2_isSign_18 : decode cX2_isSign 18 = .ok (.iload_n 0, 1) := by decide +kernel
theorem dX2_isSign_19 : decode cX2_isSign 19 = .ok (.bipush 43, 2) := by decide +kernel
theorem dX2_isSign_21 : decode cX2_isSign 21 = .ok (.if_icmp .eq 27, 3) := by decide +kernel
theorem dX2_isSign_24 : decode cX2_isSign 24 = .ok (.iload_n 0, 1) := by decide +kernel
theorem dX2_isSign_25 : decode cX2_isSign 25 = .ok (.bipush 45, 2) := by decide +kernel
theorem dX2_isSign_27 : decode cX2_isSign 27 = .ok (.if_icmp .eq 21, 3) := by decide +kernel
theorem dX2_isSign_30 : decode cX2_isSign 30 = .ok (.iload_n 0, 1) := by decide +kernel
theorem dX2_isSign_31 : decode cX2_isSign 31 = .ok (.bipush 42, 2) := by decide +kernel
theorem dX2_isSign_33 : decode cX2_isSign 33 = .ok (.if_icmp .eq 15, 3) := by decide +kernel
theorem dX2_isSign_36 : decode cX2_isSign 36 = .ok (.iload_n 0, 1) := by decide +kernel
theorem dX2_isSign_37 : decode cX2_isSign 37 = .ok (.bipush 60, 2) := by decide +kernel
theorem dX2_isSign_39 : decode cX2_isSign 39 = .ok (.if_icmp .eq 9, 3) := by decide +kernel
theorem dX2_isSign_42 : decode cX2_isSign 42 = .ok (.iload_n 0, 1) := by decide +kernel
theorem dX2_isSign_43 : decode cX2_isSign 43 = .ok (.bipush 61, 2) := by decide +kernel
theorem dX2_isSign_45 : decode cX2_isSign 45 = .ok (.if_icmp .ne 7, 3) := by decide +kernel
theorem dX2_isSign_48 : decode cX2_isSign 48 = .ok (.iconst 1, 1) := by decide +kernel
theorem dX2_isSign_49 : decode cX2_isSign 49 = .ok (.goto 4, 3) := by decide +kernel
theorem dX2_isSign_52 : decode cX2_isSign 52 = .ok (.iconst 0, 1) := by decide +kernel
theorem dX2_isSign_53 : decode cX2_isSign 53 = .ok (.ireturn, 1) := by decide +kernel
theorem dX3_init_0 : decode cX3_init 0 = .ok (.aload_n 0, 1) := by decide +kernel
theorem dX3_init_1 : decode cX3_init 1 = .ok (.invokespecial 3, 3) := by decide +kernel
theorem dX3_init_4 : decode cX3_init 4 = .ok (.aload_n 0, 1) := by decide +kernel
theorem dX3_init_5 : decode cX3_init 5 = .ok (.bipush 40, 2) := by decide +kernel
theorem dX3_init_7 : decode cX3_init 7 = .ok (.newarray .int, 2) := by decide +kernel
theorem dX3_init_9 : decode cX3_init 9 = .ok (.putfield 9, 3) := by decide +kernel
theorem dX3_init_12 : decode cX3_init 12 = .ok (.aload_n 0, 1) := by decide +kernel
theorem dX3_init_13 : decode cX3_init 13 = .ok (.iconst (-1), 1) := by decide +kernel
theorem dX3_init_14 : decode cX3_init 14 = .ok (.putfield 15, 3) := by decide +kernel
theorem dX3_init_17 : decode cX3_init 17 = .ok (.return_, 1) := by decide +kernel
set_option maxRecDepth 20000 in
theorem dX3_become_0 : decode cX3_become 0 = .ok (.aload_n 0, 1) := by decide +kernel
theorem dX3_become_1 : decode cX3_become 1 = .ok (.iload_n 1, 1) := by decide +kernel
theorem dX3_become_2 : decode cX3_become 2 = .ok (.putfield 15, 3) := by decide +kernel
theorem dX3_become_5 : decode cX3_become 5 = .ok (.aload_n 0, 1) := by decide +kernel
theorem dX3_become_6 : decode cX3_become 6 = .ok (.iload_n 2, 1) := by decide +kernel
theorem dX3_become_7 : decode cX3_become 7 = .ok (.putfield 19, 3) := by decide +kernel
theorem dX3_become_10 : decode cX3_become 10 = .ok (.aload_n 0, 1) := by decide +kernel
theorem dX3_become_11 : decode cX3_become 11 = .ok (.getfield 9, 3) := by decide +kernel
theorem dX3_become_14 : decode cX3_become 14 = .ok (.iconst 0, 1) := by decide +kernel
theorem dX3_become_15 : decode cX3_become 15 = .ok (.invokestatic 22, 3) := by decide +kernel
theorem dX3_become_18 : decode cX3_become 18 = .ok (.return_, 1) := by decide +kernel
theorem dX3_has_0 : decode cX3_has 0 = .ok (.iload_n 1, 1) := by decide +kernel
theorem dX3_has_1 : decode cX3_has 1 = .ok (.ifCond .lt 21, 3) := by decide +kernel
theorem dX3_has_4 : decode cX3_has 4 = .ok (.iload_n 2, 1) := by decide +kernel
theorem dX3_has_5 : decode cX3_has 5 = .ok (.ifCond .lt 17, 3) := by decide +kernel
theorem dX3_has_8 : decode cX3_has 8 = .ok (.iload_n 2, 1) := by decide +kernel
theorem dX3_has_9 : decode cX3_has 9 = .ok (.aload_n 0, 1) := by decide +kernel
theorem dX3_has_10 : decode cX3_has 10 = .ok (.getfield 19, 3) := by decide +kernel
theorem dX3_has_13 : decode cX3_has 13 = .ok (.iload_n 1, 1) := by decide +kernel
theorem dX3_has_14 : decode cX3_has 14 = .ok (.isub, 1) := by decide +kernel
theorem dX3_has_15 : decode cX3_has 15 = .ok (.if_icmp .gt 7, 3) := by decide +kernel
theorem dX3_has_18 : decode cX3_has 18 = .ok (.iconst 1, 1) := by decide +kernel
theorem dX3_has_19 : decode cX3_has 19 = .ok (.goto 4, 3) := by decide +kernel
theorem dX3_has_22 : decode cX3_has 22 = .ok (.iconst 0, 1) := by decide +kernel
theorem dX3_has_23 : decode cX3_has 23 = .ok (.ireturn, 1) := by decide +kernel
set_option maxRecDepth 20000 in
theorem dX3_put_0 : decode cX3_put 0 = .ok (.aload_n 0, 1) := by decide +kernel
theorem dX3_put_1 : decode cX3_put 1 = .ok (.iload_n 1, 1) := by decide +kernel
theorem dX3_put_2 : decode cX3_put 2 = .ok (.iconst 1, 1) := by decide +kernel
theorem dX3_put_3 : decode cX3_put 3 = .ok (.invokevirtual 28, 3) := by decide +kernel
theorem dX3_put_6 : decode cX3_put 6 = .ok (.ifCond .ne 5, 3) := by decide +kernel
theorem dX3_put_9 : decode cX3_put 9 = .ok (.iconst 0, 1) := by decide +kernel
theorem dX3_put_10 : decode cX3_put 10 = .ok (.ireturn, 1) := by decide +kernel
theorem dX3_put_11 : decode cX3_put 11 = .ok (.aload_n 0, 1) := by decide +kernel
theorem dX3_put_12 : decode cX3_put 12 = .ok (.getfield 9, 3) := by decide +kernel
theorem dX3_put_15 : decode cX3_put 15 = .ok (.iload_n 1, 1) := by decide +kernel
theorem dX3_put_16 : decode cX3_put 16 = .ok (.aload_n 0, 1) := by decide +kernel
theorem dX3_put_17 : decode cX3_put 17 = .ok (.getfield 15, 3) := by decide +kernel
theorem dX3_put_20 : decode cX3_put 20 = .ok (.ifCond .ne 8, 3) := by decide +kernel
theorem dX3_put_23 : decode cX3_put 23 = .ok (.iload_n 2, 1) := by decide +kernel
theorem dX3_put_24 : decode cX3_put 24 = .ok (.i2b, 1) := by decide +kernel
theorem dX3_put_25 : decode cX3_put 25 = .ok (.goto 17, 3) := by decide +kernel
theorem dX3_put_28 : decode cX3_put 28 = .ok (.aload_n 0, 1) := by decide +kernel
theorem dX3_put_29 : decode cX3_put 29 = .ok (.getfield 15, 3) := by decide +kernel
theorem dX3_put_32 : decode cX3_put 32 = .ok (.iconst 1, 1) := by decide +kernel
theorem dX3_put_33 : decode cX3_put 33 = .ok (.if_icmp .ne 8, 3) := by decide +kernel
theorem dX3_put_36 : decode cX3_put 36 = .ok (.iload_n 2, 1) := by decide +kernel
theorem dX3_put_37 : decode cX3_put 37 = .ok (.i2s, 1) := by decide +kernel
theorem dX3_put_38 : decode cX3_put 38 = .ok (.goto 4, 3) := by decide +kernel
theorem dX3_put_41 : decode cX3_put 41 = .ok (.iload_n 2, 1) := by decide +kernel
theorem dX3_put_42 : decode cX3_put 42 = .ok (.iastore, 1) := by decide +kernel
theorem dX3_put_43 : decode cX3_put 43 = .ok (.iconst 1, 1) := by decide +kernel
theorem dX3_put_44 : decode cX3_put 44 = .ok (.ireturn, 1) := by decide +kernel
theorem dX4_init_0 : decode cX4_init 0 = .ok (.aload_n 0, 1) := by decide +kernel
theorem dX4_init_1 : decode cX4_init 1 = .ok (.invokespecial 3, 3) := by decide +kernel
theorem dX4_init_4 : decode cX4_init 4 = .ok (.aload_n 0, 1) := by decide +kernel
theorem dX4_init_5 : decode cX4_init 5 = .ok (.aload_n 1, 1) := by decide +kernel
theorem dX4_init_6 : decode cX4_init 6 = .ok (.putfield 9, 3) := by decide +kernel
theorem dX4_init_9 : decode cX4_init 9 = .ok (.aload_n 0, 1) := by decide +kernel
theorem dX4_init_10 : decode cX4_init 10 = .ok (.iload_n 2, 1) := by decide +kernel
theorem dX4_init_11 : decode cX4_init 11 = .ok (.putfield 15, 3) := by decide +kernel
theorem dX4_init_14 : decode cX4_init 14 = .ok (.aload_n 0, 1) := by decide +kernel
theorem dX4_init_15 : decode cX4_init 15 = .ok (.iload_n 3, 1) := by decide +kernel
theorem dX4_init_16 : decode cX4_init 16 = .ok (.putfield 19, 3) := by decide +kernel
theorem dX4_init_19 : decode cX4_init 19 = .ok (.return_, 1) := by decide +kernel
theorem dX4_start_0 : decode cX4_start 0 = .ok (.iload_n 1, 1) := by decide +kernel
theorem dX4_start_1 : decode cX4_start 1 = .ok (.ifCond .ne 7, 3) := by decide +kernel
theorem dX4_start_4 : decode cX4_start 4 = .ok (.iconst 0, 1) := by decide +kernel
theorem dX4_start_5 : decode cX4_start 5 = .ok (.goto 19, 3) := by decide +kernel
theorem dX4_start_8 : decode cX4_start 8 = .ok (.iload_n 1, 1) := by decide +kernel
theorem dX4_start_9 : decode cX4_start 9 = .ok (.iconst 1, 1) := by decide +kernel
theorem dX4_start_10 : decode cX4_start 10 = .ok (.if_icmp .ne 10, 3) := by decide +kernel
theorem dX4_start_13 : decode cX4_start 13 = .ok (.aload_n 0, 1) := by decide +kernel
