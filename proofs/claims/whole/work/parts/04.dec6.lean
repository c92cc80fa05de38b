theorem dX6_init_0 : decode cX6_init 0 = .ok (.aload_n 0, 1) := by decide +kernel
theorem dX6_init_1 : decode cX6_init 1 = .ok (.invokespecial 1, 3) := by decide +kernel
theorem dX6_init_4 : decode cX6_init 4 = .ok (.aload_n 0, 1) := by decide +kernel
theorem dX6_init_5 : decode cX6_init 5 = .ok (.sipush 1881, 3) := by decide +kernel
theorem dX6_init_8 : decode cX6_init 8 = .ok (.newarray .int, 2) := by decide +kernel
theorem dX6_init_10 : decode cX6_init 10 = .ok (.putfield 7, 3) := by decide +kernel
theorem dX6_init_13 : decode cX6_init 13 = .ok (.aload_n 0, 1) := by decide +kernel
theorem dX6_init_14 : decode cX6_init 14 = .ok (.sipush 1881, 3) := by decide +kernel
theorem dX6_init_17 : decode cX6_init 17 = .ok (.newarray .int, 2) := by decide +kernel
theorem dX6_init_19 : decode cX6_init 19 = .ok (.putfield 13, 3) := by decide +kernel
theorem dX6_init_22 : decode cX6_init 22 = .ok (.aload_n 0, 1) := by decide +kernel
theorem dX6_init_23 : decode cX6_init 23 = .ok (.sipush 1881, 3) := by decide +kernel
theorem dX6_init_26 : decode cX6_init 26 = .ok (.newarray .int, 2) := by decide +kernel
theorem dX6_init_28 : decode cX6_init 28 = .ok (.putfield 16, 3) := by decide +kernel
theorem dX6_init_31 : decode cX6_init 31 = .ok (.aload_n 0, 1) := by decide +kernel
theorem dX6_init_32 : decode cX6_init 32 = .ok (.bipush 20, 2) := by decide +kernel
theorem dX6_init_34 : decode cX6_init 34 = .ok (.newarray .boolean, 2) := by decide +kernel
theorem dX6_init_36 : decode cX6_init 36 = .ok (.putfield 19, 3) := by decide +kernel
theorem dX6_init_39 : decode cX6_init 39 = .ok (.aload_n 0, 1) := by decide +kernel
theorem dX6_init_40 : decode cX6_init 40 = .ok (.bipush 100, 2) := by decide +kernel
theorem dX6_init_42 : decode cX6_init 42 = .ok (.newarray .int, 2) := by decide +kernel
theorem dX6_init_44 : decode cX6_init 44 = .ok (.putfield 23, 3) := by decide +kernel
theorem dX6_init_47 : decode cX6_init 47 = .ok (.aload_n 0, 1) := by decide +kernel
theorem dX6_init_48 : decode cX6_init 48 = .ok (.iconst 4, 1) := by decide +kernel
theorem dX6_init_49 : decode cX6_init 49 = .ok (.newarray .int, 2) := by decide +kernel
theorem dX6_init_51 : decode cX6_init 51 = .ok (.putfield 26, 3) := by decide +kernel
theorem dX6_init_54 : decode cX6_init 54 = .ok (.aload_n 0, 1) := by decide +kernel
theorem dX6_init_55 : decode cX6_init 55 = .ok (.iconst 4, 1) := by decide +kernel
theorem dX6_init_56 : decode cX6_init 56 = .ok (.newarray .int, 2) := by decide +kernel
theorem dX6_init_58 : decode cX6_init 58 = .ok (.putfield 29, 3) := by decide +kernel
theorem dX6_init_61 : decode cX6_init 61 = .ok (.aload_n 0, 1) := by decide +kernel
theorem dX6_init_62 : decode cX6_init 62 = .ok (.bipush 120, 2) := by decide +kernel
theorem dX6_init_64 : decode cX6_init 64 = .ok (.newarray .int, 2) := by decide +kernel
theorem dX6_init_66 : decode cX6_init 66 = .ok (.putfield 32, 3) := by decide +kernel
theorem dX6_init_69 : decode cX6_init 69 = .ok (.aload_n 0, 1) := by decide +kernel
theorem dX6_init_70 : decode cX6_init 70 = .ok (.bipush 30, 2) := by decide +kernel
theorem dX6_init_72 : decode cX6_init 72 = .ok (.newarray .int, 2) := by decide +kernel
theorem dX6_init_74 : decode cX6_init 74 = .ok (.putfield 35, 3) := by decide +kernel
theorem dX6_init_77 : decode cX6_init 77 = .ok (.aload_n 0, 1) := by decide +kernel
theorem dX6_init_78 : decode cX6_init 78 = .ok (.bipush 8, 2) := by decide +kernel
theorem dX6_init_80 : decode cX6_init 80 = .ok (.newarray .int, 2) := by decide +kernel
theorem dX6_init_82 : decode cX6_init 82 = .ok (.putfield 38, 3) := by decide +kernel
theorem dX6_init_85 : decode cX6_init 85 = .ok (.aload_n 0, 1) := by decide +kernel
theorem dX6_init_86 : decode cX6_init 86 = .ok (.sipush 5120, 3) := by decide +kernel
theorem dX6_init_89 : decode cX6_init 89 = .ok (.newarray .int, 2) := by decide +kernel
theorem dX6_init_91 : decode cX6_init 91 = .ok (.putfield 41, 3) := by decide +kernel
theorem dX6_init_94 : decode cX6_init 94 = .ok (.aload_n 0, 1) := by decide +kernel
theorem dX6_init_95 : decode cX6_init 95 = .ok (.sipush 5120, 3) := by decide +kernel
theorem dX6_init_98 : decode cX6_init 98 = .ok (.newarray .int, 2) := by decide +kernel
theorem dX6_init_100 : decode cX6_init 100 = .ok (.putfield 44, 3) := by decide +kernel
theorem dX6_init_103 : decode cX6_init 103 = .ok (.aload_n 0, 1) := by decide +kernel
theorem dX6_init_104 : decode cX6_init 104 = .ok (.sipush 5120, 3) := by decide +kernel
theorem dX6_init_107 : decode cX6_init 107 = .ok (.newarray .boolean, 2) := by decide +kernel
theorem dX6_init_109 : decode cX6_init 109 = .ok (.putfield 47, 3) := by decide +kernel
theorem dX6_init_112 : decode cX6_init 112 = .ok (.aload_n 0, 1) := by decide +kernel
theorem dX6_init_113 : decode cX6_init 113 = .ok (.bipush 20, 2) := by decide +kernel
theorem dX6_init_115 : decode cX6_init 115 = .ok (.newarray .int, 2) := by decide +kernel
theorem dX6_init_117 : decode cX6_init 117 = .ok (.putfield 50, 3) := by decide +kernel
theorem dX6_init_120 : decode cX6_init 120 = .ok (.aload_n 0, 1) := by decide +kernel
theorem dX6_init_121 : decode cX6_init 121 = .ok (.sipush 5120, 3) := by decide +kernel
theorem dX6_init_124 : decode cX6_init 124 = .ok (.newarray .boolean, 2) := by decide +kernel
theorem dX6_init_126 : decode cX6_init 126 = .ok (.putfield 53, 3) := by decide +kernel
theorem dX6_init_129 : decode cX6_init 129 = .ok (.aload_n 0, 1) := by decide +kernel
theorem dX6_init_130 : decode cX6_init 130 = .ok (.sipush 5120, 3) := by decide +kernel
theorem dX6_init_133 : decode cX6_init 133 = .ok (.newarray .long, 2) := by decide +kernel
theorem dX6_init_135 : decode cX6_init 135 = .ok (.putfield 56, 3) := by decide +kernel
theorem dX6_init_138 : decode cX6_init 138 = .ok (.aload_n 0, 1) := by decide +kernel
theorem dX6_init_139 : decode cX6_init 139 = .ok (.sipush 5120, 3) := by decide +kernel
theorem dX6_init_142 : decode cX6_init 142 = .ok (.newarray .long, 2) := by decide +kernel
theorem dX6_init_144 : decode cX6_init 144 = .ok (.putfield 60, 3) := by decide +kernel
theorem dX6_init_147 : decode cX6_init 147 = .ok (.iconst 0, 1) := by decide +kernel
theorem dX6_init_148 : decode cX6_init 148 = .ok (.istore_n 1, 1) := by decide +kernel
theorem dX6_init_149 : decode cX6_init 149 = .ok (.iload_n 1, 1) := by decide +kernel
theorem dX6_init_150 : decode cX6_init 150 = .ok (.iconst 4, 1) := by decide +kernel
theorem dX6_init_151 : decode cX6_init 151 = .ok (.if_icmp .ge 16, 3) := by decide +kernel
theorem dX6_init_154 : decode cX6_init 154 = .ok (.aload_n 0, 1) := by decide +kernel
theorem dX6_init_155 : decode cX6_init 155 = .ok (.getfield 29, 3) := by decide +kernel
theorem dX6_init_158 : decode cX6_init 158 = .ok (.iload_n 1, 1) := by decide +kernel
theorem dX6_init_159 : decode cX6_init 159 = .ok (.iconst (-1), 1) := by decide +kernel
theorem dX6_init_160 : decode cX6_init 160 = .ok (.iastore, 1) := by decide +kernel
theorem dX6_init_161 : decode cX6_init 161 = .ok (.iinc 1 1, 3) := by decide +kernel
theorem dX6_init_164 : decode cX6_init 164 = .ok (.goto (-15), 3) := by decide +kernel
theorem dX6_init_167 : decode cX6_init 167 = .ok (.return_, 1) := by decide +kernel
theorem dX6_meet_0 : decode cX6_meet 0 = .ok (.aload_n 0, 1) := by decide +kernel
theorem dX6_meet_1 : decode cX6_meet 1 = .ok (.dup, 1) := by decide +kernel
theorem dX6_meet_2 : decode cX6_meet 2 = .ok (.getfield 63, 3) := by decide +kernel
theorem dX6_meet_5 : decode cX6_meet 5 = .ok (.iconst 1, 1) := by decide +kernel
theorem dX6_meet_6 : decode cX6_meet 6 = .ok (.iadd, 1) := by decide +kernel
theorem dX6_meet_7 : decode cX6_meet 7 = .ok (.putfield 63, 3) := by decide +kernel
theorem dX6_meet_10 : decode cX6_meet 10 = .ok (.iload_n 1, 1) := by decide +kernel
theorem dX6_meet_11 : decode cX6_meet 11 = .ok (.ireturn, 1) := by decide +kernel
theorem dX6_isIn_0 : decode cX6_isIn 0 = .ok (.iload_n 0, 1) := by decide +kernel
theorem dX6_isIn_1 : decode cX6_isIn 1 = .ok (.iload_n 1, 1) := by decide +kernel
theorem dX6_isIn_2 : decode cX6_isIn 2 = .ok (.if_icmp .lt 12, 3) := by decide +kernel
theorem dX6_isIn_5 : decode cX6_isIn 5 = .ok (.iload_n 0, 1) := by decide +kernel
theorem dX6_isIn_6 : decode cX6_isIn 6 = .ok (.iload_n 2, 1) := by decide +kernel
theorem dX6_isIn_7 : decode cX6_isIn 7 = .ok (.if_icmp .gt 7, 3) := by decide +kernel
theorem dX6_isIn_10 : decode cX6_isIn 10 = .ok (.iconst 1, 1) := by decide +kernel
theorem dX6_isIn_11 : decode cX6_isIn 11 = .ok (.goto 4, 3) := by decide +kernel
theorem dX6_isIn_14 : decode cX6_isIn 14 = .ok (.iconst 0, 1) := by decide +kernel
theorem dX6_isIn_15 : decode cX6_isIn 15 = .ok (.ireturn, 1) := by decide +kernel
theorem dX6_isScene_0 : decode cX6_isScene 0 = .ok (.iload_n 0, 1) := by decide +kernel
theorem dX6_isScene_1 : decode cX6_isScene 1 = .ok (.iconst 0, 1) := by decide +kernel
theorem dX6_isScene_2 : decode cX6_isScene 2 = .ok (.bipush 19, 2) := by decide +kernel
theorem dX6_isScene_4 : decode cX6_isScene 4 = .ok (.invokestatic 67, 3) := by decide +kernel
theorem dX6_isScene_7 : decode cX6_isScene 7 = .ok (.ireturn, 1) := by decide +kernel
theorem dX6_isPlace_0 : decode cX6_isPlace 0 = .ok (.iload_n 0, 1) := by decide +kernel
theorem dX6_isPlace_1 : decode cX6_isPlace 1 = .ok (.invokestatic 71, 3) := by decide +kernel
theorem dX6_isPlace_4 : decode cX6_isPlace 4 = .ok (.ifCond .eq 16, 3) := by decide +kernel
theorem dX6_isPlace_7 : decode cX6_isPlace 7 = .ok (.iload_n 1, 1) := by decide +kernel
theorem dX6_isPlace_8 : decode cX6_isPlace 8 = .ok (.iconst 0, 1) := by decide +kernel
theorem dX6_isPlace_9 : decode cX6_isPlace 9 = .ok (.iconst 5, 1) := by decide +kernel
theorem dX6_isPlace_10 : decode cX6_isPlace 10 = .ok (.invokestatic 67, 3) := by decide +kernel
theorem dX6_isPlace_13 : decode cX6_isPlace 13 = .ok (.ifCond .eq 7, 3) := by decide +kernel
theorem dX6_isPlace_16 : decode cX6_isPlace 16 = .ok (.iconst 1, 1) := by decide +kernel
theorem dX6_isPlace_17 : decode cX6_isPlace 17 = .ok (.goto 4, 3) := by decide +kernel
theorem dX6_isPlace_20 : decode cX6_isPlace 20 = .ok (.iconst 0, 1) := by decide +kernel
theorem dX6_isPlace_21 : decode cX6_isPlace 21 = .ok (.ireturn, 1) := by decide +kernel
theorem dX6_isSet_0 : decode cX6_isSet 0 = .ok (.iload_n 0, 1) := by decide +kernel
theorem dX6_isSet_1 : decode cX6_isSet 1 = .ok (.iconst 0, 1) := by decide +kernel
theorem dX6_isSet_2 : decode cX6_isSet 2 = .ok (.sipush 255, 3) := by decide +kernel
theorem dX6_isSet_5 : decode cX6_isSet 5 = .ok (.invokestatic 67, 3) := by decide +kernel
theorem dX6_isSet_8 : decode cX6_isSet 8 = .ok (.ireturn, 1) := by decide +kernel
theorem dX6_kindOf_0 : decode cX6_kindOf 0 = .ok (.aload_n 0, 1) := by decide +kernel
theorem dX6_kindOf_1 : decode cX6_kindOf 1 = .ok (.getfield 7, 3) := by decide +kernel
theorem dX6_kindOf_4 : decode cX6_kindOf 4 = .ok (.bipush 10, 2) := by decide +kernel
theorem dX6_kindOf_6 : decode cX6_kindOf 6 = .ok (.iload_n 1, 1) := by decide +kernel
theorem dX6_kindOf_7 : decode cX6_kindOf 7 = .ok (.imul, 1) := by decide +kernel
theorem dX6_kindOf_8 : decode cX6_kindOf 8 = .ok (.iaload, 1) := by decide +kernel
theorem dX6_kindOf_9 : decode cX6_kindOf 9 = .ok (.iconst 1, 1) := by decide +kernel
theorem dX6_kindOf_10 : decode cX6_kindOf 10 = .ok (.isub, 1) := by decide +kernel
theorem dX6_kindOf_11 : decode cX6_kindOf 11 = .ok (.ireturn, 1) := by decide +kernel
theorem dX6_isThere_0 : decode cX6_isThere 0 = .ok (.aload_n 0, 1) := by decide +kernel
theorem dX6_isThere_1 : decode cX6_isThere 1 = .ok (.getfield 7, 3) := by decide +kernel
theorem dX6_isThere_4 : decode cX6_isThere 4 = .ok (.bipush 10, 2) := by decide +kernel
theorem dX6_isThere_6 : decode cX6_isThere 6 = .ok (.iload_n 1, 1) := by decide +kernel
theorem dX6_isThere_7 : decode cX6_isThere 7 = .ok (.imul, 1) := by decide +kernel
theorem dX6_isThere_8 : decode cX6_isThere 8 = .ok (.iaload, 1) := by decide +kernel
theorem dX6_isThere_9 : decode cX6_isThere 9 = .ok (.ifCond .le 7, 3) := by decide +kernel
theorem dX6_isThere_12 : decode cX6_isThere 12 = .ok (.iconst 1, 1) := by decide +kernel
theorem dX6_isThere_13 : decode cX6_isThere 13 = .ok (.goto 4, 3) := by decide +kernel
theorem dX6_isThere_16 : decode cX6_isThere 16 = .ok (.iconst 0, 1) := by decide +kernel
theorem dX6_isThere_17 : decode cX6_isThere 17 = .ok (.ireturn, 1) := by decide +kernel
theorem dX6_at_0 : decode cX6_at 0 = .ok (.sipush 200, 3) := by decide +kernel
theorem dX6_at_3 : decode cX6_at 3 = .ok (.bipush 14, 2) := by decide +kernel
theorem dX6_at_5 : decode cX6_at 5 = .ok (.bipush 6, 2) := by decide +kernel
theorem dX6_at_7 : decode cX6_at 7 = .ok (.iload_n 0, 1) := by decide +kernel
theorem dX6_at_8 : decode cX6_at 8 = .ok (.imul, 1) := by decide +kernel
theorem dX6_at_9 : decode cX6_at 9 = .ok (.iload_n 1, 1) := by decide +kernel
theorem dX6_at_10 : decode cX6_at 10 = .ok (.iadd, 1) := by decide +kernel
theorem dX6_at_11 : decode cX6_at 11 = .ok (.imul, 1) := by decide +kernel
theorem dX6_at_12 : decode cX6_at 12 = .ok (.iadd, 1) := by decide +kernel
theorem dX6_at_13 : decode cX6_at 13 = .ok (.ireturn, 1) := by decide +kernel
theorem dX6_hasChoice_0 : decode cX6_hasChoice 0 = .ok (.aload_n 0, 1) := by decide +kernel
theorem dX6_hasChoice_1 : decode cX6_hasChoice 1 = .ok (.getfield 7, 3) := by decide +kernel
theorem dX6_hasChoice_4 : decode cX6_hasChoice 4 = .ok (.iload_n 1, 1) := by decide +kernel
theorem dX6_hasChoice_5 : decode cX6_hasChoice 5 = .ok (.iload_n 2, 1) := by decide +kernel
theorem dX6_hasChoice_6 : decode cX6_hasChoice 6 = .ok (.invokestatic 75, 3) := by decide +kernel
theorem dX6_hasChoice_9 : decode cX6_hasChoice 9 = .ok (.iaload, 1) := by decide +kernel
theorem dX6_hasChoice_10 : decode cX6_hasChoice 10 = .ok (.ifCond .le 7, 3) := by decide +kernel
theorem dX6_hasChoice_13 : decode cX6_hasChoice 13 = .ok (.iconst 1, 1) := by decide +kernel
theorem dX6_hasChoice_14 : decode cX6_hasChoice 14 = .ok (.goto 4, 3) := by decide +kernel
theorem dX6_hasChoice_17 : decode cX6_hasChoice 17 = .ok (.iconst 0, 1) := by decide +kernel
theorem dX6_hasChoice_18 : decode cX6_hasChoice 18 = .ok (.ireturn, 1) := by decide +kernel
theorem dX6_holds_0 : decode cX6_holds 0 = .ok (.aload_n 0, 1) := by decide +kernel
theorem dX6_holds_1 : decode cX6_holds 1 = .ok (.getfield 7, 3) := by decide +kernel
theorem dX6_holds_4 : decode cX6_holds 4 = .ok (.iload_n 1, 1) := by decide +kernel
theorem dX6_holds_5 : decode cX6_holds 5 = .ok (.iload_n 2, 1) := by decide +kernel
theorem dX6_holds_6 : decode cX6_holds 6 = .ok (.bipush 32, 2) := by decide +kernel
theorem dX6_holds_8 : decode cX6_holds 8 = .ok (.idiv, 1) := by decide +kernel
theorem dX6_holds_9 : decode cX6_holds 9 = .ok (.iadd, 1) := by decide +kernel
theorem dX6_holds_10 : decode cX6_holds 10 = .ok (.iaload, 1) := by decide +kernel
theorem dX6_holds_11 : decode cX6_holds 11 = .ok (.iload_n 2, 1) := by decide +kernel
theorem dX6_holds_12 : decode cX6_holds 12 = .ok (.bipush 32, 2) := by decide +kernel
theorem dX6_holds_14 : decode cX6_holds 14 = .ok (.irem, 1) := by decide +kernel
theorem dX6_holds_15 : decode cX6_holds 15 = .ok (.ishr, 1) := by decide +kernel
theorem dX6_holds_16 : decode cX6_holds 16 = .ok (.iconst 1, 1) := by decide +kernel
theorem dX6_holds_17 : decode cX6_holds 17 = .ok (.iand, 1) := by decide +kernel
theorem dX6_holds_18 : decode cX6_holds 18 = .ok (.iconst 1, 1) := by decide +kernel
theorem dX6_holds_19 : decode cX6_holds 19 = .ok (.if_icmp .ne 7, 3) := by decide +kernel
theorem dX6_holds_22 : decode cX6_holds 22 = .ok (.iconst 1, 1) := by decide +kernel
theorem dX6_holds_23 : decode cX6_holds 23 = .ok (.goto 4, 3) := by decide +kernel
theorem dX6_holds_26 : decode cX6_holds 26 = .ok (.iconst 0, 1) := by decide +kernel
theorem dX6_holds_27 : decode cX6_holds 27 = .ok (.ireturn, 1) := by decide +kernel
theorem dX6_readBy_0 : decode cX6_readBy 0 = .ok (.iconst 0, 1) := by decide +kernel
theorem dX6_readBy_1 : decode cX6_readBy 1 = .ok (.istore_n 2, 1) := by decide +kernel
theorem dX6_readBy_2 : decode cX6_readBy 2 = .ok (.iconst 0, 1) := by decide +kernel
theorem dX6_readBy_3 : decode cX6_readBy 3 = .ok (.istore_n 3, 1) := by decide +kernel
theorem dX6_readBy_4 : decode cX6_readBy 4 = .ok (.iload_n 3, 1) := by decide +kernel
theorem dX6_readBy_5 : decode cX6_readBy 5 = .ok (.sipush 256, 3) := by decide +kernel
theorem dX6_readBy_8 : decode cX6_readBy 8 = .ok (.if_icmp .ge 56, 3) := by decide +kernel
theorem dX6_readBy_11 : decode cX6_readBy 11 = .ok (.iconst 0, 1) := by decide +kernel
theorem dX6_readBy_12 : decode cX6_readBy 12 = .ok (.istore 4, 2) := by decide +kernel
theorem dX6_readBy_14 : decode cX6_readBy 14 = .ok (.iload 4, 2) := by decide +kernel
theorem dX6_readBy_16 : decode cX6_readBy 16 = .ok (.bipush 8, 2) := by decide +kernel
theorem dX6_readBy_18 : decode cX6_readBy 18 = .ok (.if_icmp .ge 40, 3) := by decide +kernel
theorem dX6_readBy_21 : decode cX6_readBy 21 = .ok (.iload_n 2, 1) := by decide +kernel
theorem dX6_readBy_22 : decode cX6_readBy 22 = .ok (.aload_n 0, 1) := by decide +kernel
theorem dX6_readBy_23 : decode cX6_readBy 23 = .ok (.iload_n 1, 1) := by decide +kernel
theorem dX6_readBy_24 : decode cX6_readBy 24 = .ok (.iload_n 3, 1) := by decide +kernel
theorem dX6_readBy_25 : decode cX6_readBy 25 = .ok (.invokevirtual 79, 3) := by decide +kernel
theorem dX6_readBy_28 : decode cX6_readBy 28 = .ok (.aload_n 0, 1) := by decide +kernel
theorem dX6_readBy_29 : decode cX6_readBy 29 = .ok (.iload_n 1, 1) := by decide +kernel
theorem dX6_readBy_30 : decode cX6_readBy 30 = .ok (.iload_n 3, 1) := by decide +kernel
theorem dX6_readBy_31 : decode cX6_readBy 31 = .ok (.iconst 1, 1) := by decide +kernel
theorem dX6_readBy_32 : decode cX6_readBy 32 = .ok (.iload 4, 2) := by decide +kernel
theorem dX6_readBy_34 : decode cX6_readBy 34 = .ok (.ishl, 1) := by decide +kernel
theorem dX6_readBy_35 : decode cX6_readBy 35 = .ok (.ixor, 1) := by decide +kernel
theorem dX6_readBy_36 : decode cX6_readBy 36 = .ok (.invokevirtual 79, 3) := by decide +kernel
theorem dX6_readBy_39 : decode cX6_readBy 39 = .ok (.if_icmp .eq 10, 3) := by decide +kernel
theorem dX6_readBy_42 : decode cX6_readBy 42 = .ok (.iconst 1, 1) := by decide +kernel
theorem dX6_readBy_43 : decode cX6_readBy 43 = .ok (.iload 4, 2) := by decide +kernel
theorem dX6_readBy_45 : decode cX6_readBy 45 = .ok (.ishl, 1) := by decide +kernel
theorem dX6_readBy_46 : decode cX6_readBy 46 = .ok (.goto 4, 3) := by decide +kernel
theorem dX6_readBy_49 : decode cX6_readBy 49 = .ok (.iconst 0, 1) := by decide +kernel
theorem dX6_readBy_50 : decode cX6_readBy 50 = .ok (.ior, 1) := by decide +kernel
theorem dX6_readBy_51 : decode cX6_readBy 51 = .ok (.istore_n 2, 1) := by decide +kernel
theorem dX6_readBy_52 : decode cX6_readBy 52 = .ok (.iinc 4 1, 3) := by decide +kernel
theorem dX6_readBy_55 : decode cX6_readBy 55 = .ok (.goto (-41), 3) := by decide +kernel
theorem dX6_readBy_58 : decode cX6_readBy 58 = .ok (.iinc 3 1, 3) := by decide +kernel
theorem dX6_readBy_61 : decode cX6_readBy 61 = .ok (.goto (-57), 3) := by decide +kernel
theorem dX6_readBy_64 : decode cX6_readBy 64 = .ok (.iload_n 2, 1) := by decide +kernel
theorem dX6_readBy_65 : decode cX6_readBy 65 = .ok (.ireturn, 1) := by decide +kernel
theorem dX6_holdsFor_0 : decode cX6_holdsFor 0 = .ok (.iconst 0, 1) := by decide +kernel
theorem dX6_holdsFor_1 : decode cX6_holdsFor 1 = .ok (.istore_n 2, 1) := by decide +kernel
theorem dX6_holdsFor_2 : decode cX6_holdsFor 2 = .ok (.iconst 0, 1) := by decide +kernel
theorem dX6_holdsFor_3 : decode cX6_holdsFor 3 = .ok (.istore_n 3, 1) := by decide +kernel
theorem dX6_holdsFor_4 : decode cX6_holdsFor 4 = .ok (.iload_n 3, 1) := by decide +kernel
theorem dX6_holdsFor_5 : decode cX6_holdsFor 5 = .ok (.sipush 256, 3) := by decide +kernel
theorem dX6_holdsFor_8 : decode cX6_holdsFor 8 = .ok (.if_icmp .ge 26, 3) := by decide +kernel
theorem dX6_holdsFor_11 : decode cX6_holdsFor 11 = .ok (.iload_n 2, 1) := by decide +kernel
theorem dX6_holdsFor_12 : decode cX6_holdsFor 12 = .ok (.aload_n 0, 1) := by decide +kernel
theorem dX6_holdsFor_13 : decode cX6_holdsFor 13 = .ok (.iload_n 1, 1) := by decide +kernel
theorem dX6_holdsFor_14 : decode cX6_holdsFor 14 = .ok (.iload_n 3, 1) := by decide +kernel
theorem dX6_holdsFor_15 : decode cX6_holdsFor 15 = .ok (.invokevirtual 79, 3) := by decide +kernel
theorem dX6_holdsFor_18 : decode cX6_holdsFor 18 = .ok (.ifCond .eq 7, 3) := by decide +kernel
theorem dX6_holdsFor_21 : decode cX6_holdsFor 21 = .ok (.iconst 1, 1) := by decide +kernel
theorem dX6_holdsFor_22 : decode cX6_holdsFor 22 = .ok (.goto 4, 3) := by decide +kernel
theorem dX6_holdsFor_25 : decode cX6_holdsFor 25 = .ok (.iconst 0, 1) := by decide +kernel
theorem dX6_holdsFor_26 : decode cX6_holdsFor 26 = .ok (.iadd, 1) := by decide +kernel
theorem dX6_holdsFor_27 : decode cX6_holdsFor 27 = .ok (.istore_n 2, 1) := by decide +kernel
theorem dX6_holdsFor_28 : decode cX6_holdsFor 28 = .ok (.iinc 3 1, 3) := by decide +kernel
theorem dX6_holdsFor_31 : decode cX6_holdsFor 31 = .ok (.goto (-27), 3) := by decide +kernel
theorem dX6_holdsFor_34 : decode cX6_holdsFor 34 = .ok (.iload_n 2, 1) := by decide +kernel
theorem dX6_holdsFor_35 : decode cX6_holdsFor 35 = .ok (.ireturn, 1) := by decide +kernel
theorem dX6_feed_0 : decode cX6_feed 0 = .ok (.iload_n 3, 1) := by decide +kernel
theorem dX6_feed_1 : decode cX6_feed 1 = .ok (.iconst 1, 1) := by decide +kernel
theorem dX6_feed_2 : decode cX6_feed 2 = .ok (.bipush 8, 2) := by decide +kernel
theorem dX6_feed_4 : decode cX6_feed 4 = .ok (.invokestatic 67, 3) := by decide +kernel
theorem dX6_feed_7 : decode cX6_feed 7 = .ok (.ifCond .eq 14, 3) := by decide +kernel
theorem dX6_feed_10 : decode cX6_feed 10 = .ok (.aload_n 0, 1) := by decide +kernel
theorem dX6_feed_11 : decode cX6_feed 11 = .ok (.getfield 83, 3) := by decide +kernel
theorem dX6_feed_14 : decode cX6_feed 14 = .ok (.iload_n 3, 1) := by decide +kernel
theorem dX6_feed_15 : decode cX6_feed 15 = .ok (.iadd, 1) := by decide +kernel
theorem dX6_feed_16 : decode cX6_feed 16 = .ok (.bipush 100, 2) := by decide +kernel
theorem dX6_feed_18 : decode cX6_feed 18 = .ok (.if_icmp .le 7, 3) := by decide +kernel
theorem dX6_feed_21 : decode cX6_feed 21 = .ok (.sipush (-1002), 3) := by decide +kernel
theorem dX6_feed_24 : decode cX6_feed 24 = .ok (.ireturn, 1) := by decide +kernel
theorem dX6_feed_25 : decode cX6_feed 25 = .ok (.iconst 0, 1) := by decide +kernel
theorem dX6_feed_26 : decode cX6_feed 26 = .ok (.istore 4, 2) := by decide +kernel
theorem dX6_feed_28 : decode cX6_feed 28 = .ok (.iload 4, 2) := by decide +kernel
theorem dX6_feed_30 : decode cX6_feed 30 = .ok (.iload_n 3, 1) := by decide +kernel
theorem dX6_feed_31 : decode cX6_feed 31 = .ok (.if_icmp .ge 40, 3) := by decide +kernel
theorem dX6_feed_34 : decode cX6_feed 34 = .ok (.aload_n 0, 1) := by decide +kernel
theorem dX6_feed_35 : decode cX6_feed 35 = .ok (.getfield 23, 3) := by decide +kernel
theorem dX6_feed_38 : decode cX6_feed 38 = .ok (.aload_n 0, 1) := by decide +kernel
theorem dX6_feed_39 : decode cX6_feed 39 = .ok (.getfield 83, 3) := by decide +kernel
theorem dX6_feed_42 : decode cX6_feed 42 = .ok (.lload_n 1, 1) := by decide +kernel
theorem dX6_feed_43 : decode cX6_feed 43 = .ok (.bipush 8, 2) := by decide +kernel
theorem dX6_feed_45 : decode cX6_feed 45 = .ok (.iload 4, 2) := by decide +kernel
theorem dX6_feed_47 : decode cX6_feed 47 = .ok (.imul, 1) := by decide +kernel
theorem dX6_feed_48 : decode cX6_feed 48 = .ok (.lshr, 1) := by decide +kernel
theorem dX6_feed_49 : decode cX6_feed 49 = .ok (.l2i, 1) := by decide +kernel
theorem dX6_feed_50 : decode cX6_feed 50 = .ok (.sipush 255, 3) := by decide +kernel
theorem dX6_feed_53 : decode cX6_feed 53 = .ok (.iand, 1) := by decide +kernel
theorem dX6_feed_54 : decode cX6_feed 54 = .ok (.iastore, 1) := by decide +kernel
theorem dX6_feed_55 : decode cX6_feed 55 = .ok (.aload_n 0, 1) := by decide +kernel
theorem dX6_feed_56 : decode cX6_feed 56 = .ok (.dup, 1) := by decide +kernel
theorem dX6_feed_57 : decode cX6_feed 57 = .ok (.getfield 83, 3) := by decide +kernel
theorem dX6_feed_60 : decode cX6_feed 60 = .ok (.iconst 1, 1) := by decide +kernel
theorem dX6_feed_61 : decode cX6_feed 61 = .ok (.iadd, 1) := by decide +kernel
theorem dX6_feed_62 : decode cX6_feed 62 = .ok (.putfield 83, 3) := by decide +kernel
theorem dX6_feed_65 : decode cX6_feed 65 = .ok (.iinc 4 1, 3) := by decide +kernel
theorem dX6_feed_68 : decode cX6_feed 68 = .ok (.goto (-40), 3) := by decide +kernel
theorem dX6_feed_71 : decode cX6_feed 71 = .ok (.aload_n 0, 1) := by decide +kernel
theorem dX6_feed_72 : decode cX6_feed 72 = .ok (.getfield 83, 3) := by decide +kernel
theorem dX6_feed_75 : decode cX6_feed 75 = .ok (.ireturn, 1) := by decide +kernel
theorem dX6_here_0 : decode cX6_here 0 = .ok (.aload_n 0, 1) := by decide +kernel
theorem dX6_here_1 : decode cX6_here 1 = .ok (.getfield 86, 3) := by decide +kernel
theorem dX6_here_4 : decode cX6_here 4 = .ok (.aload_n 0, 1) := by decide +kernel
theorem dX6_here_5 : decode cX6_here 5 = .ok (.getfield 83, 3) := by decide +kernel
theorem dX6_here_8 : decode cX6_here 8 = .ok (.if_icmp .ge 15, 3) := by decide +kernel
theorem dX6_here_11 : decode cX6_here 11 = .ok (.aload_n 0, 1) := by decide +kernel
theorem dX6_here_12 : decode cX6_here 12 = .ok (.getfield 23, 3) := by decide +kernel
theorem dX6_here_15 : decode cX6_here 15 = .ok (.aload_n 0, 1) := by decide +kernel
theorem dX6_here_16 : decode cX6_here 16 = .ok (.getfield 86, 3) := by decide +kernel
theorem dX6_here_19 : decode cX6_here 19 = .ok (.iaload, 1) := by decide +kernel
theorem dX6_here_20 : decode cX6_here 20 = .ok (.goto 4, 3) := by decide +kernel
theorem dX6_here_23 : decode cX6_here 23 = .ok (.iconst (-1), 1) := by decide +kernel
theorem dX6_here_24 : decode cX6_here 24 = .ok (.ireturn, 1) := by decide +kernel
theorem dX6_either_0 : decode cX6_either 0 = .ok (.aload_n 0, 1) := by decide +kernel
theorem dX6_either_1 : decode cX6_either 1 = .ok (.invokevirtual 89, 3) := by decide +kernel
theorem dX6_either_4 : decode cX6_either 4 = .ok (.istore_n 1, 1) := by decide +kernel
theorem dX6_either_5 : decode cX6_either 5 = .ok (.aload_n 0, 1) := by decide +kernel
theorem dX6_either_6 : decode cX6_either 6 = .ok (.getfield 93, 3) := by decide +kernel
theorem dX6_either_9 : decode cX6_either 9 = .ok (.ifCond .ne 34, 3) := by decide +kernel
theorem dX6_either_12 : decode cX6_either 12 = .ok (.aload_n 0, 1) := by decide +kernel
theorem dX6_either_13 : decode cX6_either 13 = .ok (.invokevirtual 97, 3) := by decide +kernel
theorem dX6_either_16 : decode cX6_either 16 = .ok (.bipush 124, 2) := by decide +kernel
theorem dX6_either_18 : decode cX6_either 18 = .ok (.if_icmp .ne 25, 3) := by decide +kernel
theorem dX6_either_21 : decode cX6_either 21 = .ok (.aload_n 0, 1) := by decide +kernel
theorem dX6_either_22 : decode cX6_either 22 = .ok (.dup, 1) := by decide +kernel
theorem dX6_either_23 : decode cX6_either 23 = .ok (.getfield 86, 3) := by decide +kernel
theorem dX6_either_26 : decode cX6_either 26 = .ok (.iconst 1, 1) := by decide +kernel
theorem dX6_either_27 : decode cX6_either 27 = .ok (.iadd, 1) := by decide +kernel
theorem dX6_either_28 : decode cX6_either 28 = .ok (.putfield 86, 3) := by decide +kernel
theorem dX6_either_31 : decode cX6_either 31 = .ok (.aload_n 0, 1) := by decide +kernel
theorem dX6_either_32 : decode cX6_either 32 = .ok (.invokevirtual 89, 3) := by decide +kernel
theorem dX6_either_35 : decode cX6_either 35 = .ok (.istore_n 2, 1) := by decide +kernel
theorem dX6_either_36 : decode cX6_either 36 = .ok (.iload_n 1, 1) := by decide +kernel
theorem dX6_either_37 : decode cX6_either 37 = .ok (.iload_n 2, 1) := by decide +kernel
theorem dX6_either_38 : decode cX6_either 38 = .ok (.ior, 1) := by decide +kernel
theorem dX6_either_39 : decode cX6_either 39 = .ok (.istore_n 1, 1) := by decide +kernel
theorem dX6_either_40 : decode cX6_either 40 = .ok (.goto (-35), 3) := by decide +kernel
theorem dX6_either_43 : decode cX6_either 43 = .ok (.iload_n 1, 1) := by decide +kernel
theorem dX6_either_44 : decode cX6_either 44 = .ok (.ireturn, 1) := by decide +kernel
theorem dX6_both_0 : decode cX6_both 0 = .ok (.aload_n 0, 1) := by decide +kernel
theorem dX6_both_1 : decode cX6_both 1 = .ok (.invokevirtual 101, 3) := by decide +kernel
theorem dX6_both_4 : decode cX6_both 4 = .ok (.istore_n 1, 1) := by decide +kernel
theorem dX6_both_5 : decode cX6_both 5 = .ok (.aload_n 0, 1) := by decide +kernel
theorem dX6_both_6 : decode cX6_both 6 = .ok (.getfield 93, 3) := by decide +kernel
theorem dX6_both_9 : decode cX6_both 9 = .ok (.ifCond .ne 34, 3) := by decide +kernel
theorem dX6_both_12 : decode cX6_both 12 = .ok (.aload_n 0, 1) := by decide +kernel
theorem dX6_both_13 : decode cX6_both 13 = .ok (.invokevirtual 97, 3) := by decide +kernel
theorem dX6_both_16 : decode cX6_both 16 = .ok (.bipush 38, 2) := by decide +kernel
theorem dX6_both_18 : decode cX6_both 18 = .ok (.if_icmp .ne 25, 3) := by decide +kernel
theorem dX6_both_21 : decode cX6_both 21 = .ok (.aload_n 0, 1) := by decide +kernel
theorem dX6_both_22 : decode cX6_both 22 = .ok (.dup, 1) := by decide +kernel
theorem dX6_both_23 : decode cX6_both 23 = .ok (.getfield 86, 3) := by decide +kernel
theorem dX6_both_26 : decode cX6_both 26 = .ok (.iconst 1, 1) := by decide +kernel
theorem dX6_both_27 : decode cX6_both 27 = .ok (.iadd, 1) := by decide +kernel
theorem dX6_both_28 : decode cX6_both 28 = .ok (.putfield 86, 3) := by decide +kernel
theorem dX6_both_31 : decode cX6_both 31 = .ok (.aload_n 0, 1) := by decide +kernel
theorem dX6_both_32 : decode cX6_both 32 = .ok (.invokevirtual 101, 3) := by decide +kernel
theorem dX6_both_35 : decode cX6_both 35 = .ok (.istore_n 2, 1) := by decide +kernel
theorem dX6_both_36 : decode cX6_both 36 = .ok (.iload_n 1, 1) := by decide +kernel
theorem dX6_both_37 : decode cX6_both 37 = .ok (.iload_n 2, 1) := by decide +kernel
theorem dX6_both_38 : decode cX6_both 38 = .ok (.iand, 1) := by decide +kernel
theorem dX6_both_39 : decode cX6_both 39 = .ok (.istore_n 1, 1) := by decide +kernel
theorem dX6_both_40 : decode cX6_both 40 = .ok (.goto (-35), 3) := by decide +kernel
theorem dX6_both_43 : decode cX6_both 43 = .ok (.iload_n 1, 1) := by decide +kernel
theorem dX6_both_44 : decode cX6_both 44 = .ok (.ireturn, 1) := by decide +kernel
theorem dX6_one_0 : decode cX6_one 0 = .ok (.aload_n 0, 1) := by decide +kernel
theorem dX6_one_1 : decode cX6_one 1 = .ok (.invokevirtual 97, 3) := by decide +kernel
theorem dX6_one_4 : decode cX6_one 4 = .ok (.istore_n 1, 1) := by decide +kernel
theorem dX6_one_5 : decode cX6_one 5 = .ok (.iload_n 1, 1) := by decide +kernel
theorem dX6_one_6 : decode cX6_one 6 = .ok (.bipush 97, 2) := by decide +kernel
theorem dX6_one_8 : decode cX6_one 8 = .ok (.if_icmp .lt 40, 3) := by decide +kernel
theorem dX6_one_11 : decode cX6_one 11 = .ok (.iload_n 1, 1) := by decide +kernel
theorem dX6_one_12 : decode cX6_one 12 = .ok (.bipush 104, 2) := by decide +kernel
theorem dX6_one_14 : decode cX6_one 14 = .ok (.if_icmp .gt 34, 3) := by decide +kernel
theorem dX6_one_17 : decode cX6_one 17 = .ok (.aload_n 0, 1) := by decide +kernel
theorem dX6_one_18 : decode cX6_one 18 = .ok (.dup, 1) := by decide +kernel
theorem dX6_one_19 : decode cX6_one 19 = .ok (.getfield 86, 3) := by decide +kernel
theorem dX6_one_22 : decode cX6_one 22 = .ok (.iconst 1, 1) := by decide +kernel
theorem dX6_one_23 : decode cX6_one 23 = .ok (.iadd, 1) := by decide +kernel
theorem dX6_one_24 : decode cX6_one 24 = .ok (.putfield 86, 3) := by decide +kernel
theorem dX6_one_27 : decode cX6_one 27 = .ok (.aload_n 0, 1) := by decide +kernel
theorem dX6_one_28 : decode cX6_one 28 = .ok (.getfield 104, 3) := by decide +kernel
theorem dX6_one_31 : decode cX6_one 31 = .ok (.iload_n 1, 1) := by decide +kernel
theorem dX6_one_32 : decode cX6_one 32 = .ok (.bipush 97, 2) := by decide +kernel
theorem dX6_one_34 : decode cX6_one 34 = .ok (.isub, 1) := by decide +kernel
theorem dX6_one_35 : decode cX6_one 35 = .ok (.ishr, 1) := by decide +kernel
theorem dX6_one_36 : decode cX6_one 36 = .ok (.iconst 1, 1) := by decide +kernel
theorem dX6_one_37 : decode cX6_one 37 = .ok (.iand, 1) := by decide +kernel
theorem dX6_one_38 : decode cX6_one 38 = .ok (.iconst 1, 1) := by decide +kernel
theorem dX6_one_39 : decode cX6_one 39 = .ok (.if_icmp .ne 7, 3) := by decide +kernel
theorem dX6_one_42 : decode cX6_one 42 = .ok (.iconst 1, 1) := by decide +kernel
theorem dX6_one_43 : decode cX6_one 43 = .ok (.goto 4, 3) := by decide +kernel
theorem dX6_one_46 : decode cX6_one 46 = .ok (.iconst 0, 1) := by decide +kernel
theorem dX6_one_47 : decode cX6_one 47 = .ok (.ireturn, 1) := by decide +kernel
theorem dX6_one_48 : decode cX6_one 48 = .ok (.iload_n 1, 1) := by decide +kernel
theorem dX6_one_49 : decode cX6_one 49 = .ok (.bipush 48, 2) := by decide +kernel
theorem dX6_one_51 : decode cX6_one 51 = .ok (.if_icmp .eq 9, 3) := by decide +kernel
theorem dX6_one_54 : decode cX6_one 54 = .ok (.iload_n 1, 1) := by decide +kernel
theorem dX6_one_55 : decode cX6_one 55 = .ok (.bipush 49, 2) := by decide +kernel
theorem dX6_one_57 : decode cX6_one 57 = .ok (.if_icmp .ne 25, 3) := by decide +kernel
theorem dX6_one_60 : decode cX6_one 60 = .ok (.aload_n 0, 1) := by decide +kernel
theorem dX6_one_61 : decode cX6_one 61 = .ok (.dup, 1) := by decide +kernel
theorem dX6_one_62 : decode cX6_one 62 = .ok (.getfield 86, 3) := by decide +kernel
theorem dX6_one_65 : decode cX6_one 65 = .ok (.iconst 1, 1) := by decide +kernel
theorem dX6_one_66 : decode cX6_one 66 = .ok (.iadd, 1) := by decide +kernel
theorem dX6_one_67 : decode cX6_one 67 = .ok (.putfield 86, 3) := by decide +kernel
theorem dX6_one_70 : decode cX6_one 70 = .ok (.iload_n 1, 1) := by decide +kernel
theorem dX6_one_71 : decode cX6_one 71 = .ok (.bipush 49, 2) := by decide +kernel
theorem dX6_one_73 : decode cX6_one 73 = .ok (.if_icmp .ne 7, 3) := by decide +kernel
theorem dX6_one_76 : decode cX6_one 76 = .ok (.iconst 1, 1) := by decide +kernel
theorem dX6_one_77 : decode cX6_one 77 = .ok (.goto 4, 3) := by decide +kernel
theorem dX6_one_80 : decode cX6_one 80 = .ok (.iconst 0, 1) := by decide +kernel
theorem dX6_one_81 : decode cX6_one 81 = .ok (.ireturn, 1) := by decide +kernel
theorem dX6_one_82 : decode cX6_one 82 = .ok (.iload_n 1, 1) := by decide +kernel
theorem dX6_one_83 : decode cX6_one 83 = .ok (.bipush 33, 2) := by decide +kernel
theorem dX6_one_85 : decode cX6_one 85 = .ok (.if_icmp .eq 9, 3) := by decide +kernel
theorem dX6_one_88 : decode cX6_one 88 = .ok (.iload_n 1, 1) := by decide +kernel
theorem dX6_one_89 : decode cX6_one 89 = .ok (.bipush 40, 2) := by decide +kernel
theorem dX6_one_91 : decode cX6_one 91 = .ok (.if_icmp .ne 12, 3) := by decide +kernel
theorem dX6_one_94 : decode cX6_one 94 = .ok (.aload_n 0, 1) := by decide +kernel
theorem dX6_one_95 : decode cX6_one 95 = .ok (.getfield 107, 3) := by decide +kernel
theorem dX6_one_98 : decode cX6_one 98 = .ok (.bipush 12, 2) := by decide +kernel
theorem dX6_one_100 : decode cX6_one 100 = .ok (.if_icmp .ne 10, 3) := by decide +kernel
theorem dX6_one_103 : decode cX6_one 103 = .ok (.aload_n 0, 1) := by decide +kernel
theorem dX6_one_104 : decode cX6_one 104 = .ok (.iconst 1, 1) := by decide +kernel
theorem dX6_one_105 : decode cX6_one 105 = .ok (.putfield 93, 3) := by decide +kernel
theorem dX6_one_108 : decode cX6_one 108 = .ok (.iconst 0, 1) := by decide +kernel
theorem dX6_one_109 : decode cX6_one 109 = .ok (.ireturn, 1) := by decide +kernel
theorem dX6_one_110 : decode cX6_one 110 = .ok (.aload_n 0, 1) := by decide +kernel
theorem dX6_one_111 : decode cX6_one 111 = .ok (.dup, 1) := by decide +kernel
theorem dX6_one_112 : decode cX6_one 112 = .ok (.getfield 86, 3) := by decide +kernel
theorem dX6_one_115 : decode cX6_one 115 = .ok (.iconst 1, 1) := by decide +kernel
theorem dX6_one_116 : decode cX6_one 116 = .ok (.iadd, 1) := by decide +kernel
theorem dX6_one_117 : decode cX6_one 117 = .ok (.putfield 86, 3) := by decide +kernel
theorem dX6_one_120 : decode cX6_one 120 = .ok (.aload_n 0, 1) := by decide +kernel
theorem dX6_one_121 : decode cX6_one 121 = .ok (.dup, 1) := by decide +kernel
theorem dX6_one_122 : decode cX6_one 122 = .ok (.getfield 107, 3) := by decide +kernel
theorem dX6_one_125 : decode cX6_one 125 = .ok (.iconst 1, 1) := by decide +kernel
theorem dX6_one_126 : decode cX6_one 126 = .ok (.iadd, 1) := by decide +kernel
theorem dX6_one_127 : decode cX6_one 127 = .ok (.putfield 107, 3) := by decide +kernel
theorem dX6_one_130 : decode cX6_one 130 = .ok (.iload_n 1, 1) := by decide +kernel
theorem dX6_one_131 : decode cX6_one 131 = .ok (.bipush 33, 2) := by decide +kernel
theorem dX6_one_133 : decode cX6_one 133 = .ok (.if_icmp .ne 18, 3) := by decide +kernel
theorem dX6_one_136 : decode cX6_one 136 = .ok (.aload_n 0, 1) := by decide +kernel
theorem dX6_one_137 : decode cX6_one 137 = .ok (.invokevirtual 101, 3) := by decide +kernel
theorem dX6_one_140 : decode cX6_one 140 = .ok (.ifCond .ne 7, 3) := by decide +kernel
theorem dX6_one_143 : decode cX6_one 143 = .ok (.iconst 1, 1) := by decide +kernel
theorem dX6_one_144 : decode cX6_one 144 = .ok (.goto 11, 3) := by decide +kernel
theorem dX6_one_147 : decode cX6_one 147 = .ok (.iconst 0, 1) := by decide +kernel
theorem dX6_one_148 : decode cX6_one 148 = .ok (.goto 7, 3) := by decide +kernel
theorem dX6_one_151 : decode cX6_one 151 = .ok (.aload_n 0, 1) := by decide +kernel
theorem dX6_one_152 : decode cX6_one 152 = .ok (.invokevirtual 110, 3) := by decide +kernel
theorem dX6_one_155 : decode cX6_one 155 = .ok (.istore_n 2, 1) := by decide +kernel
theorem dX6_one_156 : decode cX6_one 156 = .ok (.aload_n 0, 1) := by decide +kernel
theorem dX6_one_157 : decode cX6_one 157 = .ok (.dup, 1) := by decide +kernel
theorem dX6_one_158 : decode cX6_one 158 = .ok (.getfield 107, 3) := by decide +kernel
theorem dX6_one_161 : decode cX6_one 161 = .ok (.iconst 1, 1) := by decide +kernel
theorem dX6_one_162 : decode cX6_one 162 = .ok (.isub, 1) := by decide +kernel
theorem dX6_one_163 : decode cX6_one 163 = .ok (.putfield 107, 3) := by decide +kernel
theorem dX6_one_166 : decode cX6_one 166 = .ok (.iload_n 1, 1) := by decide +kernel
theorem dX6_one_167 : decode cX6_one 167 = .ok (.bipush 40, 2) := by decide +kernel
theorem dX6_one_169 : decode cX6_one 169 = .ok (.if_icmp .ne 49, 3) := by decide +kernel
theorem dX6_one_172 : decode cX6_one 172 = .ok (.aload_n 0, 1) := by decide +kernel
theorem dX6_one_173 : decode cX6_one 173 = .ok (.getfield 93, 3) := by decide +kernel
theorem dX6_one_176 : decode cX6_one 176 = .ok (.ifCond .ne 42, 3) := by decide +kernel
theorem dX6_one_179 : decode cX6_one 179 = .ok (.aload_n 0, 1) := by decide +kernel
theorem dX6_one_180 : decode cX6_one 180 = .ok (.aload_n 0, 1) := by decide +kernel
theorem dX6_one_181 : decode cX6_one 181 = .ok (.invokevirtual 97, 3) := by decide +kernel
theorem dX6_one_184 : decode cX6_one 184 = .ok (.bipush 41, 2) := by decide +kernel
theorem dX6_one_186 : decode cX6_one 186 = .ok (.if_icmp .eq 7, 3) := by decide +kernel
theorem dX6_one_189 : decode cX6_one 189 = .ok (.iconst 1, 1) := by decide +kernel
theorem dX6_one_190 : decode cX6_one 190 = .ok (.goto 4, 3) := by decide +kernel
theorem dX6_one_193 : decode cX6_one 193 = .ok (.iconst 0, 1) := by decide +kernel
theorem dX6_one_194 : decode cX6_one 194 = .ok (.putfield 93, 3) := by decide +kernel
theorem dX6_one_197 : decode cX6_one 197 = .ok (.aload_n 0, 1) := by decide +kernel
theorem dX6_one_198 : decode cX6_one 198 = .ok (.dup, 1) := by decide +kernel
theorem dX6_one_199 : decode cX6_one 199 = .ok (.getfield 86, 3) := by decide +kernel
theorem dX6_one_202 : decode cX6_one 202 = .ok (.aload_n 0, 1) := by decide +kernel
theorem dX6_one_203 : decode cX6_one 203 = .ok (.getfield 93, 3) := by decide +kernel
theorem dX6_one_206 : decode cX6_one 206 = .ok (.ifCond .eq 7, 3) := by decide +kernel
theorem dX6_one_209 : decode cX6_one 209 = .ok (.iconst 0, 1) := by decide +kernel
theorem dX6_one_210 : decode cX6_one 210 = .ok (.goto 4, 3) := by decide +kernel
theorem dX6_one_213 : decode cX6_one 213 = .ok (.iconst 1, 1) := by decide +kernel
theorem dX6_one_214 : decode cX6_one 214 = .ok (.iadd, 1) := by decide +kernel
theorem dX6_one_215 : decode cX6_one 215 = .ok (.putfield 86, 3) := by decide +kernel
theorem dX6_one_218 : decode cX6_one 218 = .ok (.iload_n 2, 1) := by decide +kernel
theorem dX6_one_219 : decode cX6_one 219 = .ok (.ireturn, 1) := by decide +kernel
theorem dX6_read_0 : decode cX6_read 0 = .ok (.aload_n 0, 1) := by decide +kernel
theorem dX6_read_1 : decode cX6_read 1 = .ok (.iconst 0, 1) := by decide +kernel
theorem dX6_read_2 : decode cX6_read 2 = .ok (.putfield 86, 3) := by decide +kernel
theorem dX6_read_5 : decode cX6_read 5 = .ok (.aload_n 0, 1) := by decide +kernel
theorem dX6_read_6 : decode cX6_read 6 = .ok (.iconst 0, 1) := by decide +kernel
theorem dX6_read_7 : decode cX6_read 7 = .ok (.putfield 93, 3) := by decide +kernel
theorem dX6_read_10 : decode cX6_read 10 = .ok (.aload_n 0, 1) := by decide +kernel
theorem dX6_read_11 : decode cX6_read 11 = .ok (.iload_n 1, 1) := by decide +kernel
theorem dX6_read_12 : decode cX6_read 12 = .ok (.putfield 104, 3) := by decide +kernel
theorem dX6_read_15 : decode cX6_read 15 = .ok (.aload_n 0, 1) := by decide +kernel
theorem dX6_read_16 : decode cX6_read 16 = .ok (.iconst 0, 1) := by decide +kernel
theorem dX6_read_17 : decode cX6_read 17 = .ok (.putfield 107, 3) := by decide +kernel
theorem dX6_read_20 : decode cX6_read 20 = .ok (.aload_n 0, 1) := by decide +kernel
theorem dX6_read_21 : decode cX6_read 21 = .ok (.invokevirtual 110, 3) := by decide +kernel
theorem dX6_read_24 : decode cX6_read 24 = .ok (.ireturn, 1) := by decide +kernel
theorem dX6_readNeed_0 : decode cX6_readNeed 0 = .ok (.iconst 0, 1) := by decide +kernel
theorem dX6_readNeed_1 : decode cX6_readNeed 1 = .ok (.istore_n 1, 1) := by decide +kernel
theorem dX6_readNeed_2 : decode cX6_readNeed 2 = .ok (.iload_n 1, 1) := by decide +kernel
theorem dX6_readNeed_3 : decode cX6_readNeed 3 = .ok (.bipush 8, 2) := by decide +kernel
theorem dX6_readNeed_5 : decode cX6_readNeed 5 = .ok (.if_icmp .ge 27, 3) := by decide +kernel
theorem dX6_readNeed_8 : decode cX6_readNeed 8 = .ok (.aload_n 0, 1) := by decide +kernel
theorem dX6_readNeed_9 : decode cX6_readNeed 9 = .ok (.getfield 38, 3) := by decide +kernel
theorem dX6_readNeed_12 : decode cX6_readNeed 12 = .ok (.iload_n 1, 1) := by decide +kernel
theorem dX6_readNeed_13 : decode cX6_readNeed 13 = .ok (.aload_n 0, 1) := by decide +kernel
theorem dX6_readNeed_14 : decode cX6_readNeed 14 = .ok (.getfield 83, 3) := by decide +kernel
theorem dX6_readNeed_17 : decode cX6_readNeed 17 = .ok (.ifCond .ne 7, 3) := by decide +kernel
theorem dX6_readNeed_20 : decode cX6_readNeed 20 = .ok (.iconst (-1), 1) := by decide +kernel
theorem dX6_readNeed_21 : decode cX6_readNeed 21 = .ok (.goto 4, 3) := by decide +kernel
theorem dX6_readNeed_24 : decode cX6_readNeed 24 = .ok (.iconst 0, 1) := by decide +kernel
theorem dX6_readNeed_25 : decode cX6_readNeed 25 = .ok (.iastore, 1) := by decide +kernel
theorem dX6_readNeed_26 : decode cX6_readNeed 26 = .ok (.iinc 1 1, 3) := by decide +kernel
theorem dX6_readNeed_29 : decode cX6_readNeed 29 = .ok (.goto (-27), 3) := by decide +kernel
theorem dX6_readNeed_32 : decode cX6_readNeed 32 = .ok (.aload_n 0, 1) := by decide +kernel
theorem dX6_readNeed_33 : decode cX6_readNeed 33 = .ok (.getfield 83, 3) := by decide +kernel
theorem dX6_readNeed_36 : decode cX6_readNeed 36 = .ok (.ifCond .ne 5, 3) := by decide +kernel
theorem dX6_readNeed_39 : decode cX6_readNeed 39 = .ok (.iconst 0, 1) := by decide +kernel
theorem dX6_readNeed_40 : decode cX6_readNeed 40 = .ok (.ireturn, 1) := by decide +kernel
theorem dX6_readNeed_41 : decode cX6_readNeed 41 = .ok (.aload_n 0, 1) := by decide +kernel
theorem dX6_readNeed_42 : decode cX6_readNeed 42 = .ok (.getfield 83, 3) := by decide +kernel
theorem dX6_readNeed_45 : decode cX6_readNeed 45 = .ok (.bipush 60, 2) := by decide +kernel
theorem dX6_readNeed_47 : decode cX6_readNeed 47 = .ok (.if_icmp .le 7, 3) := by decide +kernel
theorem dX6_readNeed_50 : decode cX6_readNeed 50 = .ok (.sipush (-1160), 3) := by decide +kernel
theorem dX6_readNeed_53 : decode cX6_readNeed 53 = .ok (.ireturn, 1) := by decide +kernel
theorem dX6_readNeed_54 : decode cX6_readNeed 54 = .ok (.aload_n 0, 1) := by decide +kernel
theorem dX6_readNeed_55 : decode cX6_readNeed 55 = .ok (.iconst 0, 1) := by decide +kernel
theorem dX6_readNeed_56 : decode cX6_readNeed 56 = .ok (.invokevirtual 113, 3) := by decide +kernel
theorem dX6_readNeed_59 : decode cX6_readNeed 59 = .ok (.istore_n 1, 1) := by decide +kernel
theorem dX6_readNeed_60 : decode cX6_readNeed 60 = .ok (.aload_n 0, 1) := by decide +kernel
theorem dX6_readNeed_61 : decode cX6_readNeed 61 = .ok (.getfield 93, 3) := by decide +kernel
theorem dX6_readNeed_64 : decode cX6_readNeed 64 = .ok (.ifCond .ne 14, 3) := by decide +kernel
theorem dX6_readNeed_67 : decode cX6_readNeed 67 = .ok (.aload_n 0, 1) := by decide +kernel
theorem dX6_readNeed_68 : decode cX6_readNeed 68 = .ok (.getfield 86, 3) := by decide +kernel
theorem dX6_readNeed_71 : decode cX6_readNeed 71 = .ok (.aload_n 0, 1) := by decide +kernel
theorem dX6_readNeed_72 : decode cX6_readNeed 72 = .ok (.getfield 83, 3) := by decide +kernel
theorem dX6_readNeed_75 : decode cX6_readNeed 75 = .ok (.if_icmp .ge 12, 3) := by decide +kernel
theorem dX6_readNeed_78 : decode cX6_readNeed 78 = .ok (.sipush (-1100), 3) := by decide +kernel
theorem dX6_readNeed_81 : decode cX6_readNeed 81 = .ok (.aload_n 0, 1) := by decide +kernel
theorem dX6_readNeed_82 : decode cX6_readNeed 82 = .ok (.getfield 86, 3) := by decide +kernel
theorem dX6_readNeed_85 : decode cX6_readNeed 85 = .ok (.isub, 1) := by decide +kernel
theorem dX6_readNeed_86 : decode cX6_readNeed 86 = .ok (.ireturn, 1) := by decide +kernel
theorem dX6_readNeed_87 : decode cX6_readNeed 87 = .ok (.iconst 0, 1) := by decide +kernel
theorem dX6_readNeed_88 : decode cX6_readNeed 88 = .ok (.istore_n 2, 1) := by decide +kernel
theorem dX6_readNeed_89 : decode cX6_readNeed 89 = .ok (.iload_n 2, 1) := by decide +kernel
theorem dX6_readNeed_90 : decode cX6_readNeed 90 = .ok (.sipush 256, 3) := by decide +kernel
theorem dX6_readNeed_93 : decode cX6_readNeed 93 = .ok (.if_icmp .ge 49, 3) := by decide +kernel
theorem dX6_readNeed_96 : decode cX6_readNeed 96 = .ok (.iload_n 2, 1) := by decide +kernel
theorem dX6_readNeed_97 : decode cX6_readNeed 97 = .ok (.ifCond .ne 7, 3) := by decide +kernel
theorem dX6_readNeed_100 : decode cX6_readNeed 100 = .ok (.iload_n 1, 1) := by decide +kernel
theorem dX6_readNeed_101 : decode cX6_readNeed 101 = .ok (.goto 8, 3) := by decide +kernel
theorem dX6_readNeed_104 : decode cX6_readNeed 104 = .ok (.aload_n 0, 1) := by decide +kernel
theorem dX6_readNeed_105 : decode cX6_readNeed 105 = .ok (.iload_n 2, 1) := by decide +kernel
theorem dX6_readNeed_106 : decode cX6_readNeed 106 = .ok (.invokevirtual 113, 3) := by decide +kernel
theorem dX6_readNeed_109 : decode cX6_readNeed 109 = .ok (.istore_n 3, 1) := by decide +kernel
theorem dX6_readNeed_110 : decode cX6_readNeed 110 = .ok (.aload_n 0, 1) := by decide +kernel
theorem dX6_readNeed_111 : decode cX6_readNeed 111 = .ok (.getfield 38, 3) := by decide +kernel
theorem dX6_readNeed_114 : decode cX6_readNeed 114 = .ok (.iload_n 2, 1) := by decide +kernel
theorem dX6_readNeed_115 : decode cX6_readNeed 115 = .ok (.bipush 32, 2) := by decide +kernel
theorem dX6_readNeed_117 : decode cX6_readNeed 117 = .ok (.idiv, 1) := by decide +kernel
theorem dX6_readNeed_118 : decode cX6_readNeed 118 = .ok (.dup2, 1) := by decide +kernel
theorem dX6_readNeed_119 : decode cX6_readNeed 119 = .ok (.iaload, 1) := by decide +kernel
theorem dX6_readNeed_120 : decode cX6_readNeed 120 = .ok (.iload_n 3, 1) := by decide +kernel
theorem dX6_readNeed_121 : decode cX6_readNeed 121 = .ok (.ifCond .eq 12, 3) := by decide +kernel
theorem dX6_readNeed_124 : decode cX6_readNeed 124 = .ok (.iconst 1, 1) := by decide +kernel
theorem dX6_readNeed_125 : decode cX6_readNeed 125 = .ok (.iload_n 2, 1) := by decide +kernel
theorem dX6_readNeed_126 : decode cX6_readNeed 126 = .ok (.bipush 32, 2) := by decide +kernel
theorem dX6_readNeed_128 : decode cX6_readNeed 128 = .ok (.irem, 1) := by decide +kernel
theorem dX6_readNeed_129 : decode cX6_readNeed 129 = .ok (.ishl, 1) := by decide +kernel
theorem dX6_readNeed_130 : decode cX6_readNeed 130 = .ok (.goto 4, 3) := by decide +kernel
theorem dX6_readNeed_133 : decode cX6_readNeed 133 = .ok (.iconst 0, 1) := by decide +kernel
theorem dX6_readNeed_134 : decode cX6_readNeed 134 = .ok (.ior, 1) := by decide +kernel
theorem dX6_readNeed_135 : decode cX6_readNeed 135 = .ok (.iastore, 1) := by decide +kernel
theorem dX6_readNeed_136 : decode cX6_readNeed 136 = .ok (.iinc 2 1, 3) := by decide +kernel
theorem dX6_readNeed_139 : decode cX6_readNeed 139 = .ok (.goto (-50), 3) := by decide +kernel
theorem dX6_readNeed_142 : decode cX6_readNeed 142 = .ok (.iconst 0, 1) := by decide +kernel
theorem dX6_readNeed_143 : decode cX6_readNeed 143 = .ok (.ireturn, 1) := by decide +kernel
theorem dX6_lay_0 : decode cX6_lay 0 = .ok (.iconst 0, 1) := by decide +kernel
theorem dX6_lay_1 : decode cX6_lay 1 = .ok (.istore_n 2, 1) := by decide +kernel
theorem dX6_lay_2 : decode cX6_lay 2 = .ok (.iload_n 2, 1) := by decide +kernel
theorem dX6_lay_3 : decode cX6_lay 3 = .ok (.bipush 8, 2) := by decide +kernel
theorem dX6_lay_5 : decode cX6_lay 5 = .ok (.if_icmp .ge 23, 3) := by decide +kernel
theorem dX6_lay_8 : decode cX6_lay 8 = .ok (.aload_n 0, 1) := by decide +kernel
theorem dX6_lay_9 : decode cX6_lay 9 = .ok (.getfield 7, 3) := by decide +kernel
theorem dX6_lay_12 : decode cX6_lay 12 = .ok (.iload_n 1, 1) := by decide +kernel
theorem dX6_lay_13 : decode cX6_lay 13 = .ok (.iload_n 2, 1) := by decide +kernel
theorem dX6_lay_14 : decode cX6_lay 14 = .ok (.iadd, 1) := by decide +kernel
theorem dX6_lay_15 : decode cX6_lay 15 = .ok (.aload_n 0, 1) := by decide +kernel
theorem dX6_lay_16 : decode cX6_lay 16 = .ok (.getfield 38, 3) := by decide +kernel
theorem dX6_lay_19 : decode cX6_lay 19 = .ok (.iload_n 2, 1) := by decide +kernel
theorem dX6_lay_20 : decode cX6_lay 20 = .ok (.iaload, 1) := by decide +kernel
theorem dX6_lay_21 : decode cX6_lay 21 = .ok (.iastore, 1) := by decide +kernel
theorem dX6_lay_22 : decode cX6_lay 22 = .ok (.iinc 2 1, 3) := by decide +kernel
theorem dX6_lay_25 : decode cX6_lay 25 = .ok (.goto (-23), 3) := by decide +kernel
theorem dX6_lay_28 : decode cX6_lay 28 = .ok (.return_, 1) := by decide +kernel
theorem dX6_clearChoice_0 : decode cX6_clearChoice 0 = .ok (.iconst 0, 1) := by decide +kernel
theorem dX6_clearChoice_1 : decode cX6_clearChoice 1 = .ok (.istore_n 3, 1) := by decide +kernel
theorem dX6_clearChoice_2 : decode cX6_clearChoice 2 = .ok (.iload_n 3, 1) := by decide +kernel
theorem dX6_clearChoice_3 : decode cX6_clearChoice 3 = .ok (.bipush 14, 2) := by decide +kernel
theorem dX6_clearChoice_5 : decode cX6_clearChoice 5 = .ok (.if_icmp .ge 22, 3) := by decide +kernel
theorem dX6_clearChoice_8 : decode cX6_clearChoice 8 = .ok (.aload_n 0, 1) := by decide +kernel
theorem dX6_clearChoice_9 : decode cX6_clearChoice 9 = .ok (.getfield 7, 3) := by decide +kernel
theorem dX6_clearChoice_12 : decode cX6_clearChoice 12 = .ok (.iload_n 1, 1) := by decide +kernel
theorem dX6_clearChoice_13 : decode cX6_clearChoice 13 = .ok (.iload_n 2, 1) := by decide +kernel
theorem dX6_clearChoice_14 : decode cX6_clearChoice 14 = .ok (.invokestatic 75, 3) := by decide +kernel
theorem dX6_clearChoice_17 : decode cX6_clearChoice 17 = .ok (.iload_n 3, 1) := by decide +kernel
theorem dX6_clearChoice_18 : decode cX6_clearChoice 18 = .ok (.iadd, 1) := by decide +kernel
theorem dX6_clearChoice_19 : decode cX6_clearChoice 19 = .ok (.iconst 0, 1) := by decide +kernel
theorem dX6_clearChoice_20 : decode cX6_clearChoice 20 = .ok (.iastore, 1) := by decide +kernel
theorem dX6_clearChoice_21 : decode cX6_clearChoice 21 = .ok (.iinc 3 1, 3) := by decide +kernel
theorem dX6_clearChoice_24 : decode cX6_clearChoice 24 = .ok (.goto (-22), 3) := by decide +kernel
theorem dX6_clearChoice_27 : decode cX6_clearChoice 27 = .ok (.return_, 1) := by decide +kernel
theorem dX6_clearChoices_0 : decode cX6_clearChoices 0 = .ok (.iconst 0, 1) := by decide +kernel
theorem dX6_clearChoices_1 : decode cX6_clearChoices 1 = .ok (.istore_n 2, 1) := by decide +kernel
theorem dX6_clearChoices_2 : decode cX6_clearChoices 2 = .ok (.iload_n 2, 1) := by decide +kernel
theorem dX6_clearChoices_3 : decode cX6_clearChoices 3 = .ok (.bipush 6, 2) := by decide +kernel
theorem dX6_clearChoices_5 : decode cX6_clearChoices 5 = .ok (.if_icmp .ge 15, 3) := by decide +kernel
theorem dX6_clearChoices_8 : decode cX6_clearChoices 8 = .ok (.aload_n 0, 1) := by decide +kernel
theorem dX6_clearChoices_9 : decode cX6_clearChoices 9 = .ok (.iload_n 1, 1) := by decide +kernel
theorem dX6_clearChoices_10 : decode cX6_clearChoices 10 = .ok (.iload_n 2, 1) := by decide +kernel
theorem dX6_clearChoices_11 : decode cX6_clearChoices 11 = .ok (.invokevirtual 116, 3) := by decide +kernel
theorem dX6_clearChoices_14 : decode cX6_clearChoices 14 = .ok (.iinc 2 1, 3) := by decide +kernel
theorem dX6_clearChoices_17 : decode cX6_clearChoices 17 = .ok (.goto (-15), 3) := by decide +kernel
theorem dX6_clearChoices_20 : decode cX6_clearChoices 20 = .ok (.return_, 1) := by decide +kernel
theorem dX6_hasNeed_0 : decode cX6_hasNeed 0 = .ok (.iload_n 0, 1) := by decide +kernel
theorem dX6_hasNeed_1 : decode cX6_hasNeed 1 = .ok (.iconst 1, 1) := by decide +kernel
theorem dX6_hasNeed_2 : decode cX6_hasNeed 2 = .ok (.if_icmp .eq 13, 3) := by decide +kernel
theorem dX6_hasNeed_5 : decode cX6_hasNeed 5 = .ok (.iload_n 0, 1) := by decide +kernel
theorem dX6_hasNeed_6 : decode cX6_hasNeed 6 = .ok (.iconst 2, 1) := by decide +kernel
theorem dX6_hasNeed_7 : decode cX6_hasNeed 7 = .ok (.if_icmp .eq 8, 3) := by decide +kernel
theorem dX6_hasNeed_10 : decode cX6_hasNeed 10 = .ok (.iload_n 0, 1) := by decide +kernel
theorem dX6_hasNeed_11 : decode cX6_hasNeed 11 = .ok (.iconst 4, 1) := by decide +kernel
theorem dX6_hasNeed_12 : decode cX6_hasNeed 12 = .ok (.if_icmp .ne 7, 3) := by decide +kernel
theorem dX6_hasNeed_15 : decode cX6_hasNeed 15 = .ok (.iconst 1, 1) := by decide +kernel
theorem dX6_hasNeed_16 : decode cX6_hasNeed 16 = .ok (.goto 4, 3) := by decide +kernel
theorem dX6_hasNeed_19 : decode cX6_hasNeed 19 = .ok (.iconst 0, 1) := by decide +kernel
theorem dX6_hasNeed_20 : decode cX6_hasNeed 20 = .ok (.ireturn, 1) := by decide +kernel
theorem dX6_scene_0 : decode cX6_scene 0 = .ok (.iload_n 1, 1) := by decide +kernel
theorem dX6_scene_1 : decode cX6_scene 1 = .ok (.invokestatic 71, 3) := by decide +kernel
theorem dX6_scene_4 : decode cX6_scene 4 = .ok (.ifCond .eq 16, 3) := by decide +kernel
theorem dX6_scene_7 : decode cX6_scene 7 = .ok (.iload_n 2, 1) := by decide +kernel
theorem dX6_scene_8 : decode cX6_scene 8 = .ok (.iconst (-1), 1) := by decide +kernel
theorem dX6_scene_9 : decode cX6_scene 9 = .ok (.iconst 4, 1) := by decide +kernel
theorem dX6_scene_10 : decode cX6_scene 10 = .ok (.invokestatic 67, 3) := by decide +kernel
theorem dX6_scene_13 : decode cX6_scene 13 = .ok (.ifCond .eq 7, 3) := by decide +kernel
theorem dX6_scene_16 : decode cX6_scene 16 = .ok (.iconst 1, 1) := by decide +kernel
theorem dX6_scene_17 : decode cX6_scene 17 = .ok (.goto 4, 3) := by decide +kernel
theorem dX6_scene_20 : decode cX6_scene 20 = .ok (.iconst 0, 1) := by decide +kernel
theorem dX6_scene_21 : decode cX6_scene 21 = .ok (.istore_n 3, 1) := by decide +kernel
theorem dX6_scene_22 : decode cX6_scene 22 = .ok (.iload_n 3, 1) := by decide +kernel
theorem dX6_scene_23 : decode cX6_scene 23 = .ok (.ifCond .eq 17, 3) := by decide +kernel
theorem dX6_scene_26 : decode cX6_scene 26 = .ok (.iload_n 2, 1) := by decide +kernel
theorem dX6_scene_27 : decode cX6_scene 27 = .ok (.invokestatic 120, 3) := by decide +kernel
theorem dX6_scene_30 : decode cX6_scene 30 = .ok (.ifCond .eq 10, 3) := by decide +kernel
theorem dX6_scene_33 : decode cX6_scene 33 = .ok (.aload_n 0, 1) := by decide +kernel
theorem dX6_scene_34 : decode cX6_scene 34 = .ok (.invokevirtual 123, 3) := by decide +kernel
theorem dX6_scene_37 : decode cX6_scene 37 = .ok (.goto 4, 3) := by decide +kernel
theorem dX6_scene_40 : decode cX6_scene 40 = .ok (.iconst 0, 1) := by decide +kernel
theorem dX6_scene_41 : decode cX6_scene 41 = .ok (.istore 4, 2) := by decide +kernel
theorem dX6_scene_43 : decode cX6_scene 43 = .ok (.aload_n 0, 1) := by decide +kernel
theorem dX6_scene_44 : decode cX6_scene 44 = .ok (.iconst 0, 1) := by decide +kernel
theorem dX6_scene_45 : decode cX6_scene 45 = .ok (.putfield 83, 3) := by decide +kernel
theorem dX6_scene_48 : decode cX6_scene 48 = .ok (.iload_n 3, 1) := by decide +kernel
theorem dX6_scene_49 : decode cX6_scene 49 = .ok (.ifCond .eq 8, 3) := by decide +kernel
theorem dX6_scene_52 : decode cX6_scene 52 = .ok (.iload 4, 2) := by decide +kernel
theorem dX6_scene_54 : decode cX6_scene 54 = .ok (.ifCond .ge 16, 3) := by decide +kernel
theorem dX6_scene_57 : decode cX6_scene 57 = .ok (.iload_n 3, 1) := by decide +kernel
theorem dX6_scene_58 : decode cX6_scene 58 = .ok (.ifCond .eq 8, 3) := by decide +kernel
theorem dX6_scene_61 : decode cX6_scene 61 = .ok (.iload 4, 2) := by decide +kernel
theorem dX6_scene_63 : decode cX6_scene 63 = .ok (.goto 6, 3) := by decide +kernel
theorem dX6_scene_66 : decode cX6_scene 66 = .ok (.sipush (-1002), 3) := by decide +kernel
theorem dX6_scene_69 : decode cX6_scene 69 = .ok (.ireturn, 1) := by decide +kernel
theorem dX6_scene_70 : decode cX6_scene 70 = .ok (.aload_n 0, 1) := by decide +kernel
theorem dX6_scene_71 : decode cX6_scene 71 = .ok (.iload_n 1, 1) := by decide +kernel
theorem dX6_scene_72 : decode cX6_scene 72 = .ok (.invokevirtual 126, 3) := by decide +kernel
theorem dX6_scene_75 : decode cX6_scene 75 = .ok (.istore 5, 2) := by decide +kernel
theorem dX6_scene_77 : decode cX6_scene 77 = .ok (.iconst 0, 1) := by decide +kernel
theorem dX6_scene_78 : decode cX6_scene 78 = .ok (.istore 6, 2) := by decide +kernel
theorem dX6_scene_80 : decode cX6_scene 80 = .ok (.iload 6, 2) := by decide +kernel
theorem dX6_scene_82 : decode cX6_scene 82 = .ok (.bipush 10, 2) := by decide +kernel
theorem dX6_scene_84 : decode cX6_scene 84 = .ok (.if_icmp .ge 22, 3) := by decide +kernel
theorem dX6_scene_87 : decode cX6_scene 87 = .ok (.aload_n 0, 1) := by decide +kernel
theorem dX6_scene_88 : decode cX6_scene 88 = .ok (.getfield 7, 3) := by decide +kernel
theorem dX6_scene_91 : decode cX6_scene 91 = .ok (.bipush 10, 2) := by decide +kernel
theorem dX6_scene_93 : decode cX6_scene 93 = .ok (.iload_n 1, 1) := by decide +kernel
theorem dX6_scene_94 : decode cX6_scene 94 = .ok (.imul, 1) := by decide +kernel
theorem dX6_scene_95 : decode cX6_scene 95 = .ok (.iload 6, 2) := by decide +kernel
theorem dX6_scene_97 : decode cX6_scene 97 = .ok (.iadd, 1) := by decide +kernel
theorem dX6_scene_98 : decode cX6_scene 98 = .ok (.iconst 0, 1) := by decide +kernel
theorem dX6_scene_99 : decode cX6_scene 99 = .ok (.iastore, 1) := by decide +kernel
theorem dX6_scene_100 : decode cX6_scene 100 = .ok (.iinc 6 1, 3) := by decide +kernel
theorem dX6_scene_103 : decode cX6_scene 103 = .ok (.goto (-23), 3) := by decide +kernel
theorem dX6_scene_106 : decode cX6_scene 106 = .ok (.iload_n 2, 1) := by decide +kernel
theorem dX6_scene_107 : decode cX6_scene 107 = .ok (.ifCond .ge 11, 3) := by decide +kernel
theorem dX6_scene_110 : decode cX6_scene 110 = .ok (.aload_n 0, 1) := by decide +kernel
theorem dX6_scene_111 : decode cX6_scene 111 = .ok (.iload_n 1, 1) := by decide +kernel
theorem dX6_scene_112 : decode cX6_scene 112 = .ok (.invokevirtual 130, 3) := by decide +kernel
theorem dX6_scene_115 : decode cX6_scene 115 = .ok (.iload 5, 2) := by decide +kernel
theorem dX6_scene_117 : decode cX6_scene 117 = .ok (.ireturn, 1) := by decide +kernel
theorem dX6_scene_118 : decode cX6_scene 118 = .ok (.aload_n 0, 1) := by decide +kernel
theorem dX6_scene_119 : decode cX6_scene 119 = .ok (.getfield 7, 3) := by decide +kernel
theorem dX6_scene_122 : decode cX6_scene 122 = .ok (.bipush 10, 2) := by decide +kernel
theorem dX6_scene_124 : decode cX6_scene 124 = .ok (.iload_n 1, 1) := by decide +kernel
theorem dX6_scene_125 : decode cX6_scene 125 = .ok (.imul, 1) := by decide +kernel
theorem dX6_scene_126 : decode cX6_scene 126 = .ok (.iload_n 2, 1) := by decide +kernel
theorem dX6_scene_127 : decode cX6_scene 127 = .ok (.iconst 1, 1) := by decide +kernel
theorem dX6_scene_128 : decode cX6_scene 128 = .ok (.iadd, 1) := by decide +kernel
theorem dX6_scene_129 : decode cX6_scene 129 = .ok (.iastore, 1) := by decide +kernel
theorem dX6_scene_130 : decode cX6_scene 130 = .ok (.iconst 0, 1) := by decide +kernel
theorem dX6_scene_131 : decode cX6_scene 131 = .ok (.istore 6, 2) := by decide +kernel
theorem dX6_scene_133 : decode cX6_scene 133 = .ok (.iload 6, 2) := by decide +kernel
theorem dX6_scene_135 : decode cX6_scene 135 = .ok (.bipush 8, 2) := by decide +kernel
theorem dX6_scene_137 : decode cX6_scene 137 = .ok (.if_icmp .ge 41, 3) := by decide +kernel
theorem dX6_scene_140 : decode cX6_scene 140 = .ok (.aload_n 0, 1) := by decide +kernel
theorem dX6_scene_141 : decode cX6_scene 141 = .ok (.getfield 7, 3) := by decide +kernel
theorem dX6_scene_144 : decode cX6_scene 144 = .ok (.bipush 10, 2) := by decide +kernel
theorem dX6_scene_146 : decode cX6_scene 146 = .ok (.iload_n 1, 1) := by decide +kernel
theorem dX6_scene_147 : decode cX6_scene 147 = .ok (.imul, 1) := by decide +kernel
theorem dX6_scene_148 : decode cX6_scene 148 = .ok (.iconst 2, 1) := by decide +kernel
theorem dX6_scene_149 : decode cX6_scene 149 = .ok (.iadd, 1) := by decide +kernel
theorem dX6_scene_150 : decode cX6_scene 150 = .ok (.iload 6, 2) := by decide +kernel
theorem dX6_scene_152 : decode cX6_scene 152 = .ok (.iadd, 1) := by decide +kernel
theorem dX6_scene_153 : decode cX6_scene 153 = .ok (.iload_n 2, 1) := by decide +kernel
theorem dX6_scene_154 : decode cX6_scene 154 = .ok (.invokestatic 120, 3) := by decide +kernel
theorem dX6_scene_157 : decode cX6_scene 157 = .ok (.ifCond .eq 13, 3) := by decide +kernel
theorem dX6_scene_160 : decode cX6_scene 160 = .ok (.aload_n 0, 1) := by decide +kernel
theorem dX6_scene_161 : decode cX6_scene 161 = .ok (.getfield 38, 3) := by decide +kernel
theorem dX6_scene_164 : decode cX6_scene 164 = .ok (.iload 6, 2) := by decide +kernel
theorem dX6_scene_166 : decode cX6_scene 166 = .ok (.iaload, 1) := by decide +kernel
theorem dX6_scene_167 : decode cX6_scene 167 = .ok (.goto 4, 3) := by decide +kernel
theorem dX6_scene_170 : decode cX6_scene 170 = .ok (.iconst (-1), 1) := by decide +kernel
theorem dX6_scene_171 : decode cX6_scene 171 = .ok (.iastore, 1) := by decide +kernel
theorem dX6_scene_172 : decode cX6_scene 172 = .ok (.iinc 6 1, 3) := by decide +kernel
theorem dX6_scene_175 : decode cX6_scene 175 = .ok (.goto (-42), 3) := by decide +kernel
theorem dX6_scene_178 : decode cX6_scene 178 = .ok (.iload 5, 2) := by decide +kernel
theorem dX6_scene_180 : decode cX6_scene 180 = .ok (.ireturn, 1) := by decide +kernel
theorem dX6_loss_0 : decode cX6_loss 0 = .ok (.iload_n 1, 1) := by decide +kernel
theorem dX6_loss_1 : decode cX6_loss 1 = .ok (.invokestatic 71, 3) := by decide +kernel
theorem dX6_loss_4 : decode cX6_loss 4 = .ok (.ifCond .eq 10, 3) := by decide +kernel
theorem dX6_loss_7 : decode cX6_loss 7 = .ok (.iload_n 2, 1) := by decide +kernel
theorem dX6_loss_8 : decode cX6_loss 8 = .ok (.invokestatic 134, 3) := by decide +kernel
theorem dX6_loss_11 : decode cX6_loss 11 = .ok (.ifCond .ne 7, 3) := by decide +kernel
theorem dX6_loss_14 : decode cX6_loss 14 = .ok (.sipush (-1002), 3) := by decide +kernel
theorem dX6_loss_17 : decode cX6_loss 17 = .ok (.ireturn, 1) := by decide +kernel
theorem dX6_loss_18 : decode cX6_loss 18 = .ok (.aload_n 0, 1) := by decide +kernel
theorem dX6_loss_19 : decode cX6_loss 19 = .ok (.iload_n 1, 1) := by decide +kernel
theorem dX6_loss_20 : decode cX6_loss 20 = .ok (.invokevirtual 137, 3) := by decide +kernel
theorem dX6_loss_23 : decode cX6_loss 23 = .ok (.ifCond .ne 11, 3) := by decide +kernel
theorem dX6_loss_26 : decode cX6_loss 26 = .ok (.aload_n 0, 1) := by decide +kernel
theorem dX6_loss_27 : decode cX6_loss 27 = .ok (.sipush (-1010), 3) := by decide +kernel
theorem dX6_loss_30 : decode cX6_loss 30 = .ok (.invokevirtual 140, 3) := by decide +kernel
theorem dX6_loss_33 : decode cX6_loss 33 = .ok (.ireturn, 1) := by decide +kernel
theorem dX6_loss_34 : decode cX6_loss 34 = .ok (.aload_n 0, 1) := by decide +kernel
theorem dX6_loss_35 : decode cX6_loss 35 = .ok (.iload_n 1, 1) := by decide +kernel
theorem dX6_loss_36 : decode cX6_loss 36 = .ok (.invokevirtual 126, 3) := by decide +kernel
theorem dX6_loss_39 : decode cX6_loss 39 = .ok (.iconst 2, 1) := by decide +kernel
theorem dX6_loss_40 : decode cX6_loss 40 = .ok (.if_icmp .eq 11, 3) := by decide +kernel
theorem dX6_loss_43 : decode cX6_loss 43 = .ok (.aload_n 0, 1) := by decide +kernel
theorem dX6_loss_44 : decode cX6_loss 44 = .ok (.sipush (-1012), 3) := by decide +kernel
theorem dX6_loss_47 : decode cX6_loss 47 = .ok (.invokevirtual 140, 3) := by decide +kernel
theorem dX6_loss_50 : decode cX6_loss 50 = .ok (.ireturn, 1) := by decide +kernel
theorem dX6_loss_51 : decode cX6_loss 51 = .ok (.aload_n 0, 1) := by decide +kernel
theorem dX6_loss_52 : decode cX6_loss 52 = .ok (.getfield 7, 3) := by decide +kernel
theorem dX6_loss_55 : decode cX6_loss 55 = .ok (.bipush 10, 2) := by decide +kernel
theorem dX6_loss_57 : decode cX6_loss 57 = .ok (.iload_n 1, 1) := by decide +kernel
theorem dX6_loss_58 : decode cX6_loss 58 = .ok (.imul, 1) := by decide +kernel
theorem dX6_loss_59 : decode cX6_loss 59 = .ok (.iconst 1, 1) := by decide +kernel
theorem dX6_loss_60 : decode cX6_loss 60 = .ok (.iadd, 1) := by decide +kernel
theorem dX6_loss_61 : decode cX6_loss 61 = .ok (.iaload, 1) := by decide +kernel
theorem dX6_loss_62 : decode cX6_loss 62 = .ok (.istore_n 3, 1) := by decide +kernel
theorem dX6_loss_63 : decode cX6_loss 63 = .ok (.aload_n 0, 1) := by decide +kernel
theorem dX6_loss_64 : decode cX6_loss 64 = .ok (.getfield 7, 3) := by decide +kernel
theorem dX6_loss_67 : decode cX6_loss 67 = .ok (.bipush 10, 2) := by decide +kernel
theorem dX6_loss_69 : decode cX6_loss 69 = .ok (.iload_n 1, 1) := by decide +kernel
theorem dX6_loss_70 : decode cX6_loss 70 = .ok (.imul, 1) := by decide +kernel
theorem dX6_loss_71 : decode cX6_loss 71 = .ok (.iconst 1, 1) := by decide +kernel
theorem dX6_loss_72 : decode cX6_loss 72 = .ok (.iadd, 1) := by decide +kernel
theorem dX6_loss_73 : decode cX6_loss 73 = .ok (.iload_n 2, 1) := by decide +kernel
theorem dX6_loss_74 : decode cX6_loss 74 = .ok (.iastore, 1) := by decide +kernel
theorem dX6_loss_75 : decode cX6_loss 75 = .ok (.iload_n 3, 1) := by decide +kernel
theorem dX6_loss_76 : decode cX6_loss 76 = .ok (.ireturn, 1) := by decide +kernel
theorem dX6_choice_0 : decode cX6_choice 0 = .ok (.iload_n 1, 1) := by decide +kernel
theorem dX6_choice_1 : decode cX6_choice 1 = .ok (.iload_n 2, 1) := by decide +kernel
theorem dX6_choice_2 : decode cX6_choice 2 = .ok (.invokestatic 143, 3) := by decide +kernel
theorem dX6_choice_5 : decode cX6_choice 5 = .ok (.ifCond .eq 14, 3) := by decide +kernel
theorem dX6_choice_8 : decode cX6_choice 8 = .ok (.iload_n 3, 1) := by decide +kernel
theorem dX6_choice_9 : decode cX6_choice 9 = .ok (.invokestatic 71, 3) := by decide +kernel
theorem dX6_choice_12 : decode cX6_choice 12 = .ok (.ifCond .eq 7, 3) := by decide +kernel
theorem dX6_choice_15 : decode cX6_choice 15 = .ok (.iconst 1, 1) := by decide +kernel
theorem dX6_choice_16 : decode cX6_choice 16 = .ok (.goto 4, 3) := by decide +kernel
theorem dX6_choice_19 : decode cX6_choice 19 = .ok (.iconst 0, 1) := by decide +kernel
theorem dX6_choice_20 : decode cX6_choice 20 = .ok (.istore 4, 2) := by decide +kernel
theorem dX6_choice_22 : decode cX6_choice 22 = .ok (.iload 4, 2) := by decide +kernel
theorem dX6_choice_24 : decode cX6_choice 24 = .ok (.ifCond .eq 15, 3) := by decide +kernel
theorem dX6_choice_27 : decode cX6_choice 27 = .ok (.aload_n 0, 1) := by decide +kernel
theorem dX6_choice_28 : decode cX6_choice 28 = .ok (.iload_n 1, 1) := by decide +kernel
theorem dX6_choice_29 : decode cX6_choice 29 = .ok (.invokevirtual 137, 3) := by decide +kernel
theorem dX6_choice_32 : decode cX6_choice 32 = .ok (.ifCond .eq 7, 3) := by decide +kernel
theorem dX6_choice_35 : decode cX6_choice 35 = .ok (.iconst 1, 1) := by decide +kernel
theorem dX6_choice_36 : decode cX6_choice 36 = .ok (.goto 4, 3) := by decide +kernel
theorem dX6_choice_39 : decode cX6_choice 39 = .ok (.iconst 0, 1) := by decide +kernel
theorem dX6_choice_40 : decode cX6_choice 40 = .ok (.istore 5, 2) := by decide +kernel
theorem dX6_choice_42 : decode cX6_choice 42 = .ok (.iload 5, 2) := by decide +kernel
theorem dX6_choice_44 : decode cX6_choice 44 = .ok (.ifCond .eq 10, 3) := by decide +kernel
theorem dX6_choice_47 : decode cX6_choice 47 = .ok (.aload_n 0, 1) := by decide +kernel
theorem dX6_choice_48 : decode cX6_choice 48 = .ok (.invokevirtual 123, 3) := by decide +kernel
theorem dX6_choice_51 : decode cX6_choice 51 = .ok (.goto 4, 3) := by decide +kernel
theorem dX6_choice_54 : decode cX6_choice 54 = .ok (.iconst 0, 1) := by decide +kernel
theorem dX6_choice_55 : decode cX6_choice 55 = .ok (.istore 6, 2) := by decide +kernel
theorem dX6_choice_57 : decode cX6_choice 57 = .ok (.aload_n 0, 1) := by decide +kernel
theorem dX6_choice_58 : decode cX6_choice 58 = .ok (.iconst 0, 1) := by decide +kernel
theorem dX6_choice_59 : decode cX6_choice 59 = .ok (.putfield 83, 3) := by decide +kernel
theorem dX6_choice_62 : decode cX6_choice 62 = .ok (.iload 4, 2) := by decide +kernel
theorem dX6_choice_64 : decode cX6_choice 64 = .ok (.ifCond .ne 7, 3) := by decide +kernel
theorem dX6_choice_67 : decode cX6_choice 67 = .ok (.sipush (-1002), 3) := by decide +kernel
theorem dX6_choice_70 : decode cX6_choice 70 = .ok (.ireturn, 1) := by decide +kernel
theorem dX6_choice_71 : decode cX6_choice 71 = .ok (.iload 5, 2) := by decide +kernel
theorem dX6_choice_73 : decode cX6_choice 73 = .ok (.ifCond .ne 11, 3) := by decide +kernel
theorem dX6_choice_76 : decode cX6_choice 76 = .ok (.aload_n 0, 1) := by decide +kernel
theorem dX6_choice_77 : decode cX6_choice 77 = .ok (.sipush (-1010), 3) := by decide +kernel
theorem dX6_choice_80 : decode cX6_choice 80 = .ok (.invokevirtual 140, 3) := by decide +kernel
theorem dX6_choice_83 : decode cX6_choice 83 = .ok (.ireturn, 1) := by decide +kernel
theorem dX6_choice_84 : decode cX6_choice 84 = .ok (.iload 6, 2) := by decide +kernel
theorem dX6_choice_86 : decode cX6_choice 86 = .ok (.ifCond .ge 6, 3) := by decide +kernel
theorem dX6_choice_89 : decode cX6_choice 89 = .ok (.iload 6, 2) := by decide +kernel
theorem dX6_choice_91 : decode cX6_choice 91 = .ok (.ireturn, 1) := by decide +kernel
theorem dX6_choice_92 : decode cX6_choice 92 = .ok (.aload_n 0, 1) := by decide +kernel
theorem dX6_choice_93 : decode cX6_choice 93 = .ok (.iload_n 1, 1) := by decide +kernel
theorem dX6_choice_94 : decode cX6_choice 94 = .ok (.iload_n 2, 1) := by decide +kernel
theorem dX6_choice_95 : decode cX6_choice 95 = .ok (.invokevirtual 146, 3) := by decide +kernel
theorem dX6_choice_98 : decode cX6_choice 98 = .ok (.ifCond .eq 7, 3) := by decide +kernel
theorem dX6_choice_101 : decode cX6_choice 101 = .ok (.iconst 1, 1) := by decide +kernel
theorem dX6_choice_102 : decode cX6_choice 102 = .ok (.goto 4, 3) := by decide +kernel
theorem dX6_choice_105 : decode cX6_choice 105 = .ok (.iconst 0, 1) := by decide +kernel
theorem dX6_choice_106 : decode cX6_choice 106 = .ok (.istore 7, 2) := by decide +kernel
theorem dX6_choice_108 : decode cX6_choice 108 = .ok (.aload_n 0, 1) := by decide +kernel
theorem dX6_choice_109 : decode cX6_choice 109 = .ok (.iload_n 1, 1) := by decide +kernel
theorem dX6_choice_110 : decode cX6_choice 110 = .ok (.iload_n 2, 1) := by decide +kernel
theorem dX6_choice_111 : decode cX6_choice 111 = .ok (.invokevirtual 116, 3) := by decide +kernel
theorem dX6_choice_114 : decode cX6_choice 114 = .ok (.aload_n 0, 1) := by decide +kernel
theorem dX6_choice_115 : decode cX6_choice 115 = .ok (.getfield 7, 3) := by decide +kernel
theorem dX6_choice_118 : decode cX6_choice 118 = .ok (.iload_n 1, 1) := by decide +kernel
theorem dX6_choice_119 : decode cX6_choice 119 = .ok (.iload_n 2, 1) := by decide +kernel
theorem dX6_choice_120 : decode cX6_choice 120 = .ok (.invokestatic 75, 3) := by decide +kernel
theorem dX6_choice_123 : decode cX6_choice 123 = .ok (.iconst 1, 1) := by decide +kernel
theorem dX6_choice_124 : decode cX6_choice 124 = .ok (.iastore, 1) := by decide +kernel
theorem dX6_choice_125 : decode cX6_choice 125 = .ok (.aload_n 0, 1) := by decide +kernel
theorem dX6_choice_126 : decode cX6_choice 126 = .ok (.getfield 7, 3) := by decide +kernel
theorem dX6_choice_129 : decode cX6_choice 129 = .ok (.iload_n 1, 1) := by decide +kernel
theorem dX6_choice_130 : decode cX6_choice 130 = .ok (.iload_n 2, 1) := by decide +kernel
theorem dX6_choice_131 : decode cX6_choice 131 = .ok (.invokestatic 75, 3) := by decide +kernel
theorem dX6_choice_134 : decode cX6_choice 134 = .ok (.iconst 1, 1) := by decide +kernel
theorem dX6_choice_135 : decode cX6_choice 135 = .ok (.iadd, 1) := by decide +kernel
theorem dX6_choice_136 : decode cX6_choice 136 = .ok (.iload_n 3, 1) := by decide +kernel
theorem dX6_choice_137 : decode cX6_choice 137 = .ok (.iastore, 1) := by decide +kernel
theorem dX6_choice_138 : decode cX6_choice 138 = .ok (.aload_n 0, 1) := by decide +kernel
theorem dX6_choice_139 : decode cX6_choice 139 = .ok (.iload_n 1, 1) := by decide +kernel
theorem dX6_choice_140 : decode cX6_choice 140 = .ok (.iload_n 2, 1) := by decide +kernel
theorem dX6_choice_141 : decode cX6_choice 141 = .ok (.invokestatic 75, 3) := by decide +kernel
theorem dX6_choice_144 : decode cX6_choice 144 = .ok (.bipush 6, 2) := by decide +kernel
theorem dX6_choice_146 : decode cX6_choice 146 = .ok (.iadd, 1) := by decide +kernel
theorem dX6_choice_147 : decode cX6_choice 147 = .ok (.invokevirtual 149, 3) := by decide +kernel
theorem dX6_choice_150 : decode cX6_choice 150 = .ok (.iload 7, 2) := by decide +kernel
theorem dX6_choice_152 : decode cX6_choice 152 = .ok (.ireturn, 1) := by decide +kernel
theorem dX6_gives_0 : decode cX6_gives 0 = .ok (.iload_n 1, 1) := by decide +kernel
theorem dX6_gives_1 : decode cX6_gives 1 = .ok (.iload_n 2, 1) := by decide +kernel
theorem dX6_gives_2 : decode cX6_gives 2 = .ok (.invokestatic 143, 3) := by decide +kernel
theorem dX6_gives_5 : decode cX6_gives 5 = .ok (.ifCond .eq 25, 3) := by decide +kernel
theorem dX6_gives_8 : decode cX6_gives 8 = .ok (.iload_n 3, 1) := by decide +kernel
theorem dX6_gives_9 : decode cX6_gives 9 = .ok (.invokestatic 134, 3) := by decide +kernel
theorem dX6_gives_12 : decode cX6_gives 12 = .ok (.ifCond .eq 18, 3) := by decide +kernel
theorem dX6_gives_15 : decode cX6_gives 15 = .ok (.iload 4, 2) := by decide +kernel
theorem dX6_gives_17 : decode cX6_gives 17 = .ok (.invokestatic 134, 3) := by decide +kernel
theorem dX6_gives_20 : decode cX6_gives 20 = .ok (.ifCond .eq 10, 3) := by decide +kernel
theorem dX6_gives_23 : decode cX6_gives 23 = .ok (.iload_n 3, 1) := by decide +kernel
theorem dX6_gives_24 : decode cX6_gives 24 = .ok (.iload 4, 2) := by decide +kernel
theorem dX6_gives_26 : decode cX6_gives 26 = .ok (.iand, 1) := by decide +kernel
theorem dX6_gives_27 : decode cX6_gives 27 = .ok (.ifCond .eq 7, 3) := by decide +kernel
theorem dX6_gives_30 : decode cX6_gives 30 = .ok (.sipush (-1002), 3) := by decide +kernel
theorem dX6_gives_33 : decode cX6_gives 33 = .ok (.ireturn, 1) := by decide +kernel
theorem dX6_gives_34 : decode cX6_gives 34 = .ok (.aload_n 0, 1) := by decide +kernel
theorem dX6_gives_35 : decode cX6_gives 35 = .ok (.iload_n 1, 1) := by decide +kernel
theorem dX6_gives_36 : decode cX6_gives 36 = .ok (.iload_n 2, 1) := by decide +kernel
theorem dX6_gives_37 : decode cX6_gives 37 = .ok (.invokevirtual 146, 3) := by decide +kernel
theorem dX6_gives_40 : decode cX6_gives 40 = .ok (.ifCond .ne 11, 3) := by decide +kernel
theorem dX6_gives_43 : decode cX6_gives 43 = .ok (.aload_n 0, 1) := by decide +kernel
theorem dX6_gives_44 : decode cX6_gives 44 = .ok (.sipush (-1010), 3) := by decide +kernel
theorem dX6_gives_47 : decode cX6_gives 47 = .ok (.invokevirtual 140, 3) := by decide +kernel
theorem dX6_gives_50 : decode cX6_gives 50 = .ok (.ireturn, 1) := by decide +kernel
theorem dX6_gives_51 : decode cX6_gives 51 = .ok (.aload_n 0, 1) := by decide +kernel
theorem dX6_gives_52 : decode cX6_gives 52 = .ok (.getfield 7, 3) := by decide +kernel
theorem dX6_gives_55 : decode cX6_gives 55 = .ok (.iload_n 1, 1) := by decide +kernel
theorem dX6_gives_56 : decode cX6_gives 56 = .ok (.iload_n 2, 1) := by decide +kernel
theorem dX6_gives_57 : decode cX6_gives 57 = .ok (.invokestatic 75, 3) := by decide +kernel
theorem dX6_gives_60 : decode cX6_gives 60 = .ok (.iconst 2, 1) := by decide +kernel
theorem dX6_gives_61 : decode cX6_gives 61 = .ok (.iadd, 1) := by decide +kernel
theorem dX6_gives_62 : decode cX6_gives 62 = .ok (.iload_n 3, 1) := by decide +kernel
theorem dX6_gives_63 : decode cX6_gives 63 = .ok (.iastore, 1) := by decide +kernel
theorem dX6_gives_64 : decode cX6_gives 64 = .ok (.aload_n 0, 1) := by decide +kernel
theorem dX6_gives_65 : decode cX6_gives 65 = .ok (.getfield 7, 3) := by decide +kernel
theorem dX6_gives_68 : decode cX6_gives 68 = .ok (.iload_n 1, 1) := by decide +kernel
theorem dX6_gives_69 : decode cX6_gives 69 = .ok (.iload_n 2, 1) := by decide +kernel
theorem dX6_gives_70 : decode cX6_gives 70 = .ok (.invokestatic 75, 3) := by decide +kernel
theorem dX6_gives_73 : decode cX6_gives 73 = .ok (.iconst 3, 1) := by decide +kernel
theorem dX6_gives_74 : decode cX6_gives 74 = .ok (.iadd, 1) := by decide +kernel
theorem dX6_gives_75 : decode cX6_gives 75 = .ok (.iload 4, 2) := by decide +kernel
theorem dX6_gives_77 : decode cX6_gives 77 = .ok (.iastore, 1) := by decide +kernel
theorem dX6_gives_78 : decode cX6_gives 78 = .ok (.iconst 1, 1) := by decide +kernel
theorem dX6_gives_79 : decode cX6_gives 79 = .ok (.ireturn, 1) := by decide +kernel
theorem dX6_line_0 : decode cX6_line 0 = .ok (.iload_n 1, 1) := by decide +kernel
theorem dX6_line_1 : decode cX6_line 1 = .ok (.iload_n 2, 1) := by decide +kernel
theorem dX6_line_2 : decode cX6_line 2 = .ok (.invokestatic 143, 3) := by decide +kernel
theorem dX6_line_5 : decode cX6_line 5 = .ok (.ifCond .eq 23, 3) := by decide +kernel
theorem dX6_line_8 : decode cX6_line 8 = .ok (.iload_n 3, 1) := by decide +kernel
theorem dX6_line_9 : decode cX6_line 9 = .ok (.iconst 0, 1) := by decide +kernel
theorem dX6_line_10 : decode cX6_line 10 = .ok (.bipush 99, 2) := by decide +kernel
theorem dX6_line_12 : decode cX6_line 12 = .ok (.invokestatic 67, 3) := by decide +kernel
theorem dX6_line_15 : decode cX6_line 15 = .ok (.ifCond .eq 13, 3) := by decide +kernel
theorem dX6_line_18 : decode cX6_line 18 = .ok (.iload 4, 2) := by decide +kernel
theorem dX6_line_20 : decode cX6_line 20 = .ok (.iconst 0, 1) := by decide +kernel
theorem dX6_line_21 : decode cX6_line 21 = .ok (.iconst 3, 1) := by decide +kernel
theorem dX6_line_22 : decode cX6_line 22 = .ok (.invokestatic 67, 3) := by decide +kernel
theorem dX6_line_25 : decode cX6_line 25 = .ok (.ifCond .ne 7, 3) := by decide +kernel
theorem dX6_line_28 : decode cX6_line 28 = .ok (.sipush (-1002), 3) := by decide +kernel
theorem dX6_line_31 : decode cX6_line 31 = .ok (.ireturn, 1) := by decide +kernel
theorem dX6_line_32 : decode cX6_line 32 = .ok (.aload_n 0, 1) := by decide +kernel
theorem dX6_line_33 : decode cX6_line 33 = .ok (.iload_n 1, 1) := by decide +kernel
theorem dX6_line_34 : decode cX6_line 34 = .ok (.iload_n 2, 1) := by decide +kernel
theorem dX6_line_35 : decode cX6_line 35 = .ok (.invokevirtual 146, 3) := by decide +kernel
theorem dX6_line_38 : decode cX6_line 38 = .ok (.ifCond .ne 11, 3) := by decide +kernel
theorem dX6_line_41 : decode cX6_line 41 = .ok (.aload_n 0, 1) := by decide +kernel
theorem dX6_line_42 : decode cX6_line 42 = .ok (.sipush (-1010), 3) := by decide +kernel
theorem dX6_line_45 : decode cX6_line 45 = .ok (.invokevirtual 140, 3) := by decide +kernel
theorem dX6_line_48 : decode cX6_line 48 = .ok (.ireturn, 1) := by decide +kernel
theorem dX6_line_49 : decode cX6_line 49 = .ok (.aload_n 0, 1) := by decide +kernel
theorem dX6_line_50 : decode cX6_line 50 = .ok (.getfield 7, 3) := by decide +kernel
theorem dX6_line_53 : decode cX6_line 53 = .ok (.iload_n 1, 1) := by decide +kernel
theorem dX6_line_54 : decode cX6_line 54 = .ok (.iload_n 2, 1) := by decide +kernel
theorem dX6_line_55 : decode cX6_line 55 = .ok (.invokestatic 75, 3) := by decide +kernel
theorem dX6_line_58 : decode cX6_line 58 = .ok (.iconst 4, 1) := by decide +kernel
theorem dX6_line_59 : decode cX6_line 59 = .ok (.iadd, 1) := by decide +kernel
theorem dX6_line_60 : decode cX6_line 60 = .ok (.iload_n 3, 1) := by decide +kernel
theorem dX6_line_61 : decode cX6_line 61 = .ok (.iastore, 1) := by decide +kernel
theorem dX6_line_62 : decode cX6_line 62 = .ok (.aload_n 0, 1) := by decide +kernel
theorem dX6_line_63 : decode cX6_line 63 = .ok (.getfield 7, 3) := by decide +kernel
theorem dX6_line_66 : decode cX6_line 66 = .ok (.iload_n 1, 1) := by decide +kernel
theorem dX6_line_67 : decode cX6_line 67 = .ok (.iload_n 2, 1) := by decide +kernel
theorem dX6_line_68 : decode cX6_line 68 = .ok (.invokestatic 75, 3) := by decide +kernel
theorem dX6_line_71 : decode cX6_line 71 = .ok (.iconst 5, 1) := by decide +kernel
theorem dX6_line_72 : decode cX6_line 72 = .ok (.iadd, 1) := by decide +kernel
theorem dX6_line_73 : decode cX6_line 73 = .ok (.iload 4, 2) := by decide +kernel
theorem dX6_line_75 : decode cX6_line 75 = .ok (.iastore, 1) := by decide +kernel
theorem dX6_line_76 : decode cX6_line 76 = .ok (.iconst 1, 1) := by decide +kernel
theorem dX6_line_77 : decode cX6_line 77 = .ok (.ireturn, 1) := by decide +kernel
theorem dX6_drop_0 : decode cX6_drop 0 = .ok (.iload_n 1, 1) := by decide +kernel
theorem dX6_drop_1 : decode cX6_drop 1 = .ok (.iload_n 2, 1) := by decide +kernel
theorem dX6_drop_2 : decode cX6_drop 2 = .ok (.invokestatic 143, 3) := by decide +kernel
theorem dX6_drop_5 : decode cX6_drop 5 = .ok (.ifCond .ne 7, 3) := by decide +kernel
theorem dX6_drop_8 : decode cX6_drop 8 = .ok (.sipush (-1002), 3) := by decide +kernel
theorem dX6_drop_11 : decode cX6_drop 11 = .ok (.ireturn, 1) := by decide +kernel
theorem dX6_drop_12 : decode cX6_drop 12 = .ok (.aload_n 0, 1) := by decide +kernel
theorem dX6_drop_13 : decode cX6_drop 13 = .ok (.iload_n 1, 1) := by decide +kernel
theorem dX6_drop_14 : decode cX6_drop 14 = .ok (.iload_n 2, 1) := by decide +kernel
theorem dX6_drop_15 : decode cX6_drop 15 = .ok (.invokevirtual 146, 3) := by decide +kernel
theorem dX6_drop_18 : decode cX6_drop 18 = .ok (.ifCond .eq 7, 3) := by decide +kernel
theorem dX6_drop_21 : decode cX6_drop 21 = .ok (.iconst 1, 1) := by decide +kernel
theorem dX6_drop_22 : decode cX6_drop 22 = .ok (.goto 4, 3) := by decide +kernel
theorem dX6_drop_25 : decode cX6_drop 25 = .ok (.iconst 0, 1) := by decide +kernel
theorem dX6_drop_26 : decode cX6_drop 26 = .ok (.istore_n 3, 1) := by decide +kernel
theorem dX6_drop_27 : decode cX6_drop 27 = .ok (.aload_n 0, 1) := by decide +kernel
theorem dX6_drop_28 : decode cX6_drop 28 = .ok (.iload_n 1, 1) := by decide +kernel
theorem dX6_drop_29 : decode cX6_drop 29 = .ok (.iload_n 2, 1) := by decide +kernel
theorem dX6_drop_30 : decode cX6_drop 30 = .ok (.invokevirtual 116, 3) := by decide +kernel
theorem dX6_drop_33 : decode cX6_drop 33 = .ok (.iload_n 3, 1) := by decide +kernel
theorem dX6_drop_34 : decode cX6_drop 34 = .ok (.ireturn, 1) := by decide +kernel
theorem dX6_start_0 : decode cX6_start 0 = .ok (.iload_n 1, 1) := by decide +kernel
theorem dX6_start_1 : decode cX6_start 1 = .ok (.invokestatic 134, 3) := by decide +kernel
theorem dX6_start_4 : decode cX6_start 4 = .ok (.ifCond .ne 7, 3) := by decide +kernel
theorem dX6_start_7 : decode cX6_start 7 = .ok (.sipush (-1002), 3) := by decide +kernel
theorem dX6_start_10 : decode cX6_start 10 = .ok (.ireturn, 1) := by decide +kernel
theorem dX6_start_11 : decode cX6_start 11 = .ok (.aload_n 0, 1) := by decide +kernel
theorem dX6_start_12 : decode cX6_start 12 = .ok (.getfield 7, 3) := by decide +kernel
theorem dX6_start_15 : decode cX6_start 15 = .ok (.sipush 1880, 3) := by decide +kernel
theorem dX6_start_18 : decode cX6_start 18 = .ok (.iaload, 1) := by decide +kernel
theorem dX6_start_19 : decode cX6_start 19 = .ok (.istore_n 2, 1) := by decide +kernel
theorem dX6_start_20 : decode cX6_start 20 = .ok (.aload_n 0, 1) := by decide +kernel
theorem dX6_start_21 : decode cX6_start 21 = .ok (.getfield 7, 3) := by decide +kernel
theorem dX6_start_24 : decode cX6_start 24 = .ok (.sipush 1880, 3) := by decide +kernel
theorem dX6_start_27 : decode cX6_start 27 = .ok (.iload_n 1, 1) := by decide +kernel
theorem dX6_start_28 : decode cX6_start 28 = .ok (.iastore, 1) := by decide +kernel
theorem dX6_start_29 : decode cX6_start 29 = .ok (.iload_n 2, 1) := by decide +kernel
theorem dX6_start_30 : decode cX6_start 30 = .ok (.ireturn, 1) := by decide +kernel
theorem dX6_of_0 : decode cX6_of 0 = .ok (.iload_n 1, 1) := by decide +kernel
theorem dX6_of_1 : decode cX6_of 1 = .ok (.invokestatic 71, 3) := by decide +kernel
theorem dX6_of_4 : decode cX6_of 4 = .ok (.ifCond .eq 12, 3) := by decide +kernel
theorem dX6_of_7 : decode cX6_of 7 = .ok (.iload_n 2, 1) := by decide +kernel
theorem dX6_of_8 : decode cX6_of 8 = .ok (.iconst 0, 1) := by decide +kernel
theorem dX6_of_9 : decode cX6_of 9 = .ok (.iconst 5, 1) := by decide +kernel
theorem dX6_of_10 : decode cX6_of 10 = .ok (.invokestatic 67, 3) := by decide +kernel
theorem dX6_of_13 : decode cX6_of 13 = .ok (.ifCond .ne 7, 3) := by decide +kernel
theorem dX6_of_16 : decode cX6_of 16 = .ok (.sipush (-1002), 3) := by decide +kernel
theorem dX6_of_19 : decode cX6_of 19 = .ok (.ireturn, 1) := by decide +kernel
theorem dX6_of_20 : decode cX6_of 20 = .ok (.iload_n 2, 1) := by decide +kernel
theorem dX6_of_21 : decode cX6_of 21 = .ok (.iconst 2, 1) := by decide +kernel
theorem dX6_of_22 : decode cX6_of 22 = .ok (.if_icmp .ge 30, 3) := by decide +kernel
theorem dX6_of_25 : decode cX6_of 25 = .ok (.iload_n 2, 1) := by decide +kernel
theorem dX6_of_26 : decode cX6_of 26 = .ok (.ifCond .ne 11, 3) := by decide +kernel
theorem dX6_of_29 : decode cX6_of 29 = .ok (.aload_n 0, 1) := by decide +kernel
theorem dX6_of_30 : decode cX6_of 30 = .ok (.iload_n 1, 1) := by decide +kernel
theorem dX6_of_31 : decode cX6_of 31 = .ok (.invokevirtual 126, 3) := by decide +kernel
theorem dX6_of_34 : decode cX6_of 34 = .ok (.goto 17, 3) := by decide +kernel
theorem dX6_of_37 : decode cX6_of 37 = .ok (.aload_n 0, 1) := by decide +kernel
theorem dX6_of_38 : decode cX6_of 38 = .ok (.getfield 19, 3) := by decide +kernel
theorem dX6_of_41 : decode cX6_of 41 = .ok (.iload_n 1, 1) := by decide +kernel
theorem dX6_of_42 : decode cX6_of 42 = .ok (.baload, 1) := by decide +kernel
theorem dX6_of_43 : decode cX6_of 43 = .ok (.ifCond .eq 7, 3) := by decide +kernel
theorem dX6_of_46 : decode cX6_of 46 = .ok (.iconst 1, 1) := by decide +kernel
theorem dX6_of_47 : decode cX6_of 47 = .ok (.goto 4, 3) := by decide +kernel
theorem dX6_of_50 : decode cX6_of 50 = .ok (.iconst 0, 1) := by decide +kernel
theorem dX6_of_51 : decode cX6_of 51 = .ok (.ireturn, 1) := by decide +kernel
theorem dX6_of_52 : decode cX6_of 52 = .ok (.aload_n 0, 1) := by decide +kernel
theorem dX6_of_53 : decode cX6_of 53 = .ok (.iload_n 1, 1) := by decide +kernel
theorem dX6_of_54 : decode cX6_of 54 = .ok (.invokevirtual 137, 3) := by decide +kernel
theorem dX6_of_57 : decode cX6_of 57 = .ok (.ifCond .ne 11, 3) := by decide +kernel
theorem dX6_of_60 : decode cX6_of 60 = .ok (.aload_n 0, 1) := by decide +kernel
theorem dX6_of_61 : decode cX6_of 61 = .ok (.sipush (-1010), 3) := by decide +kernel
theorem dX6_of_64 : decode cX6_of 64 = .ok (.invokevirtual 140, 3) := by decide +kernel
theorem dX6_of_67 : decode cX6_of 67 = .ok (.ireturn, 1) := by decide +kernel
theorem dX6_of_68 : decode cX6_of 68 = .ok (.iload_n 2, 1) := by decide +kernel
theorem dX6_of_69 : decode cX6_of 69 = .ok (.tableswitch 61 2 4 #[27, 38, 49], 27) := by decide +kernel
theorem dX6_of_96 : decode cX6_of 96 = .ok (.aload_n 0, 1) := by decide +kernel
theorem dX6_of_97 : decode cX6_of 97 = .ok (.bipush 10, 2) := by decide +kernel
theorem dX6_of_99 : decode cX6_of 99 = .ok (.iload_n 1, 1) := by decide +kernel
theorem dX6_of_100 : decode cX6_of 100 = .ok (.imul, 1) := by decide +kernel
theorem dX6_of_101 : decode cX6_of 101 = .ok (.iconst 2, 1) := by decide +kernel
theorem dX6_of_102 : decode cX6_of 102 = .ok (.iadd, 1) := by decide +kernel
theorem dX6_of_103 : decode cX6_of 103 = .ok (.invokevirtual 152, 3) := by decide +kernel
theorem dX6_of_106 : decode cX6_of 106 = .ok (.ireturn, 1) := by decide +kernel
theorem dX6_of_107 : decode cX6_of 107 = .ok (.aload_n 0, 1) := by decide +kernel
theorem dX6_of_108 : decode cX6_of 108 = .ok (.bipush 10, 2) := by decide +kernel
theorem dX6_of_110 : decode cX6_of 110 = .ok (.iload_n 1, 1) := by decide +kernel
theorem dX6_of_111 : decode cX6_of 111 = .ok (.imul, 1) := by decide +kernel
theorem dX6_of_112 : decode cX6_of 112 = .ok (.iconst 2, 1) := by decide +kernel
theorem dX6_of_113 : decode cX6_of 113 = .ok (.iadd, 1) := by decide +kernel
theorem dX6_of_114 : decode cX6_of 114 = .ok (.invokevirtual 155, 3) := by decide +kernel
theorem dX6_of_117 : decode cX6_of 117 = .ok (.ireturn, 1) := by decide +kernel
theorem dX6_of_118 : decode cX6_of 118 = .ok (.aload_n 0, 1) := by decide +kernel
theorem dX6_of_119 : decode cX6_of 119 = .ok (.getfield 7, 3) := by decide +kernel
theorem dX6_of_122 : decode cX6_of 122 = .ok (.bipush 10, 2) := by decide +kernel
theorem dX6_of_124 : decode cX6_of 124 = .ok (.iload_n 1, 1) := by decide +kernel
theorem dX6_of_125 : decode cX6_of 125 = .ok (.imul, 1) := by decide +kernel
theorem dX6_of_126 : decode cX6_of 126 = .ok (.iconst 1, 1) := by decide +kernel
theorem dX6_of_127 : decode cX6_of 127 = .ok (.iadd, 1) := by decide +kernel
theorem dX6_of_128 : decode cX6_of 128 = .ok (.iaload, 1) := by decide +kernel
theorem dX6_of_129 : decode cX6_of 129 = .ok (.ireturn, 1) := by decide +kernel
theorem dX6_of_130 : decode cX6_of 130 = .ok (.iconst 0, 1) := by decide +kernel
theorem dX6_of_131 : decode cX6_of 131 = .ok (.istore_n 3, 1) := by decide +kernel
theorem dX6_of_132 : decode cX6_of 132 = .ok (.iconst 0, 1) := by decide +kernel
theorem dX6_of_133 : decode cX6_of 133 = .ok (.istore 4, 2) := by decide +kernel
theorem dX6_of_135 : decode cX6_of 135 = .ok (.iload 4, 2) := by decide +kernel
theorem dX6_of_137 : decode cX6_of 137 = .ok (.bipush 6, 2) := by decide +kernel
theorem dX6_of_139 : decode cX6_of 139 = .ok (.if_icmp .ge 30, 3) := by decide +kernel
theorem dX6_of_142 : decode cX6_of 142 = .ok (.iload_n 3, 1) := by decide +kernel
theorem dX6_of_143 : decode cX6_of 143 = .ok (.aload_n 0, 1) := by decide +kernel
theorem dX6_of_144 : decode cX6_of 144 = .ok (.iload_n 1, 1) := by decide +kernel
theorem dX6_of_145 : decode cX6_of 145 = .ok (.iload 4, 2) := by decide +kernel
theorem dX6_of_147 : decode cX6_of 147 = .ok (.invokevirtual 146, 3) := by decide +kernel
theorem dX6_of_150 : decode cX6_of 150 = .ok (.ifCond .eq 10, 3) := by decide +kernel
theorem dX6_of_153 : decode cX6_of 153 = .ok (.iconst 1, 1) := by decide +kernel
theorem dX6_of_154 : decode cX6_of 154 = .ok (.iload 4, 2) := by decide +kernel
theorem dX6_of_156 : decode cX6_of 156 = .ok (.ishl, 1) := by decide +kernel
theorem dX6_of_157 : decode cX6_of 157 = .ok (.goto 4, 3) := by decide +kernel
theorem dX6_of_160 : decode cX6_of 160 = .ok (.iconst 0, 1) := by decide +kernel
theorem dX6_of_161 : decode cX6_of 161 = .ok (.ior, 1) := by decide +kernel
theorem dX6_of_162 : decode cX6_of 162 = .ok (.istore_n 3, 1) := by decide +kernel
theorem dX6_of_163 : decode cX6_of 163 = .ok (.iinc 4 1, 3) := by decide +kernel
theorem dX6_of_166 : decode cX6_of 166 = .ok (.goto (-31), 3) := by decide +kernel
theorem dX6_of_169 : decode cX6_of 169 = .ok (.iload_n 3, 1) := by decide +kernel
theorem dX6_of_170 : decode cX6_of 170 = .ok (.ireturn, 1) := by decide +kernel
theorem dX6_about_0 : decode cX6_about 0 = .ok (.iload_n 1, 1) := by decide +kernel
theorem dX6_about_1 : decode cX6_about 1 = .ok (.iload_n 2, 1) := by decide +kernel
theorem dX6_about_2 : decode cX6_about 2 = .ok (.invokestatic 143, 3) := by decide +kernel
theorem dX6_about_5 : decode cX6_about 5 = .ok (.ifCond .eq 13, 3) := by decide +kernel
theorem dX6_about_8 : decode cX6_about 8 = .ok (.iload_n 3, 1) := by decide +kernel
theorem dX6_about_9 : decode cX6_about 9 = .ok (.iconst 0, 1) := by decide +kernel
theorem dX6_about_10 : decode cX6_about 10 = .ok (.bipush 6, 2) := by decide +kernel
theorem dX6_about_12 : decode cX6_about 12 = .ok (.invokestatic 67, 3) := by decide +kernel
theorem dX6_about_15 : decode cX6_about 15 = .ok (.ifCond .ne 7, 3) := by decide +kernel
theorem dX6_about_18 : decode cX6_about 18 = .ok (.sipush (-1002), 3) := by decide +kernel
theorem dX6_about_21 : decode cX6_about 21 = .ok (.ireturn, 1) := by decide +kernel
theorem dX6_about_22 : decode cX6_about 22 = .ok (.aload_n 0, 1) := by decide +kernel
theorem dX6_about_23 : decode cX6_about 23 = .ok (.iload_n 1, 1) := by decide +kernel
theorem dX6_about_24 : decode cX6_about 24 = .ok (.iload_n 2, 1) := by decide +kernel
theorem dX6_about_25 : decode cX6_about 25 = .ok (.invokevirtual 146, 3) := by decide +kernel
theorem dX6_about_28 : decode cX6_about 28 = .ok (.ifCond .ne 11, 3) := by decide +kernel
theorem dX6_about_31 : decode cX6_about 31 = .ok (.aload_n 0, 1) := by decide +kernel
theorem dX6_about_32 : decode cX6_about 32 = .ok (.sipush (-1010), 3) := by decide +kernel
theorem dX6_about_35 : decode cX6_about 35 = .ok (.invokevirtual 140, 3) := by decide +kernel
theorem dX6_about_38 : decode cX6_about 38 = .ok (.ireturn, 1) := by decide +kernel
theorem dX6_about_39 : decode cX6_about 39 = .ok (.iload_n 1, 1) := by decide +kernel
theorem dX6_about_40 : decode cX6_about 40 = .ok (.iload_n 2, 1) := by decide +kernel
theorem dX6_about_41 : decode cX6_about 41 = .ok (.invokestatic 75, 3) := by decide +kernel
theorem dX6_about_44 : decode cX6_about 44 = .ok (.istore 4, 2) := by decide +kernel
theorem dX6_about_46 : decode cX6_about 46 = .ok (.iload_n 3, 1) := by decide +kernel
theorem dX6_about_47 : decode cX6_about 47 = .ok (.tableswitch 55 0 2 #[25, 35, 45], 25) := by decide +kernel
theorem dX6_about_72 : decode cX6_about 72 = .ok (.aload_n 0, 1) := by decide +kernel
theorem dX6_about_73 : decode cX6_about 73 = .ok (.getfield 7, 3) := by decide +kernel
theorem dX6_about_76 : decode cX6_about 76 = .ok (.iload 4, 2) := by decide +kernel
theorem dX6_about_78 : decode cX6_about 78 = .ok (.iconst 1, 1) := by decide +kernel
theorem dX6_about_79 : decode cX6_about 79 = .ok (.iadd, 1) := by decide +kernel
theorem dX6_about_80 : decode cX6_about 80 = .ok (.iaload, 1) := by decide +kernel
theorem dX6_about_81 : decode cX6_about 81 = .ok (.ireturn, 1) := by decide +kernel
theorem dX6_about_82 : decode cX6_about 82 = .ok (.aload_n 0, 1) := by decide +kernel
theorem dX6_about_83 : decode cX6_about 83 = .ok (.iload 4, 2) := by decide +kernel
theorem dX6_about_85 : decode cX6_about 85 = .ok (.bipush 6, 2) := by decide +kernel
theorem dX6_about_87 : decode cX6_about 87 = .ok (.iadd, 1) := by decide +kernel
theorem dX6_about_88 : decode cX6_about 88 = .ok (.invokevirtual 152, 3) := by decide +kernel
theorem dX6_about_91 : decode cX6_about 91 = .ok (.ireturn, 1) := by decide +kernel
theorem dX6_about_92 : decode cX6_about 92 = .ok (.aload_n 0, 1) := by decide +kernel
theorem dX6_about_93 : decode cX6_about 93 = .ok (.iload 4, 2) := by decide +kernel
theorem dX6_about_95 : decode cX6_about 95 = .ok (.bipush 6, 2) := by decide +kernel
theorem dX6_about_97 : decode cX6_about 97 = .ok (.iadd, 1) := by decide +kernel
theorem dX6_about_98 : decode cX6_about 98 = .ok (.invokevirtual 155, 3) := by decide +kernel
theorem dX6_about_101 : decode cX6_about 101 = .ok (.ireturn, 1) := by decide +kernel
theorem dX6_about_102 : decode cX6_about 102 = .ok (.aload_n 0, 1) := by decide +kernel
theorem dX6_about_103 : decode cX6_about 103 = .ok (.getfield 7, 3) := by decide +kernel
theorem dX6_about_106 : decode cX6_about 106 = .ok (.iload 4, 2) := by decide +kernel
theorem dX6_about_108 : decode cX6_about 108 = .ok (.iload_n 3, 1) := by decide +kernel
theorem dX6_about_109 : decode cX6_about 109 = .ok (.iadd, 1) := by decide +kernel
theorem dX6_about_110 : decode cX6_about 110 = .ok (.iconst 1, 1) := by decide +kernel
theorem dX6_about_111 : decode cX6_about 111 = .ok (.isub, 1) := by decide +kernel
theorem dX6_about_112 : decode cX6_about 112 = .ok (.iaload, 1) := by decide +kernel
theorem dX6_about_113 : decode cX6_about 113 = .ok (.ireturn, 1) := by decide +kernel
theorem dX6_isEnding_0 : decode cX6_isEnding 0 = .ok (.aload_n 0, 1) := by decide +kernel
theorem dX6_isEnding_1 : decode cX6_isEnding 1 = .ok (.iload_n 1, 1) := by decide +kernel
theorem dX6_isEnding_2 : decode cX6_isEnding 2 = .ok (.invokevirtual 126, 3) := by decide +kernel
theorem dX6_isEnding_5 : decode cX6_isEnding 5 = .ok (.iconst 3, 1) := by decide +kernel
theorem dX6_isEnding_6 : decode cX6_isEnding 6 = .ok (.if_icmp .eq 12, 3) := by decide +kernel
theorem dX6_isEnding_9 : decode cX6_isEnding 9 = .ok (.aload_n 0, 1) := by decide +kernel
theorem dX6_isEnding_10 : decode cX6_isEnding 10 = .ok (.iload_n 1, 1) := by decide +kernel
theorem dX6_isEnding_11 : decode cX6_isEnding 11 = .ok (.invokevirtual 126, 3) := by decide +kernel
theorem dX6_isEnding_14 : decode cX6_isEnding 14 = .ok (.iconst 4, 1) := by decide +kernel
theorem dX6_isEnding_15 : decode cX6_isEnding 15 = .ok (.if_icmp .ne 7, 3) := by decide +kernel
theorem dX6_isEnding_18 : decode cX6_isEnding 18 = .ok (.iconst 1, 1) := by decide +kernel
theorem dX6_isEnding_19 : decode cX6_isEnding 19 = .ok (.goto 4, 3) := by decide +kernel
theorem dX6_isEnding_22 : decode cX6_isEnding 22 = .ok (.iconst 0, 1) := by decide +kernel
theorem dX6_isEnding_23 : decode cX6_isEnding 23 = .ok (.ireturn, 1) := by decide +kernel
theorem dX6_isShut_0 : decode cX6_isShut 0 = .ok (.aload_n 0, 1) := by decide +kernel
theorem dX6_isShut_1 : decode cX6_isShut 1 = .ok (.iload_n 1, 1) := by decide +kernel
theorem dX6_isShut_2 : decode cX6_isShut 2 = .ok (.invokevirtual 137, 3) := by decide +kernel
theorem dX6_isShut_5 : decode cX6_isShut 5 = .ok (.ifCond .eq 16, 3) := by decide +kernel
theorem dX6_isShut_8 : decode cX6_isShut 8 = .ok (.iload_n 2, 1) := by decide +kernel
theorem dX6_isShut_9 : decode cX6_isShut 9 = .ok (.ifCond .eq 16, 3) := by decide +kernel
theorem dX6_isShut_12 : decode cX6_isShut 12 = .ok (.aload_n 0, 1) := by decide +kernel
theorem dX6_isShut_13 : decode cX6_isShut 13 = .ok (.getfield 19, 3) := by decide +kernel
theorem dX6_isShut_16 : decode cX6_isShut 16 = .ok (.iload_n 1, 1) := by decide +kernel
theorem dX6_isShut_17 : decode cX6_isShut 17 = .ok (.baload, 1) := by decide +kernel
theorem dX6_isShut_18 : decode cX6_isShut 18 = .ok (.ifCond .eq 7, 3) := by decide +kernel
theorem dX6_isShut_21 : decode cX6_isShut 21 = .ok (.iconst 1, 1) := by decide +kernel
theorem dX6_isShut_22 : decode cX6_isShut 22 = .ok (.goto 4, 3) := by decide +kernel
theorem dX6_isShut_25 : decode cX6_isShut 25 = .ok (.iconst 0, 1) := by decide +kernel
theorem dX6_isShut_26 : decode cX6_isShut 26 = .ok (.ireturn, 1) := by decide +kernel
theorem dX6_leads_0 : decode cX6_leads 0 = .ok (.iload_n 1, 1) := by decide +kernel
theorem dX6_leads_1 : decode cX6_leads 1 = .ok (.sipush 256, 3) := by decide +kernel
theorem dX6_leads_4 : decode cX6_leads 4 = .ok (.idiv, 1) := by decide +kernel
theorem dX6_leads_5 : decode cX6_leads 5 = .ok (.istore 4, 2) := by decide +kernel
theorem dX6_leads_7 : decode cX6_leads 7 = .ok (.iload_n 1, 1) := by decide +kernel
theorem dX6_leads_8 : decode cX6_leads 8 = .ok (.sipush 256, 3) := by decide +kernel
theorem dX6_leads_11 : decode cX6_leads 11 = .ok (.irem, 1) := by decide +kernel
theorem dX6_leads_12 : decode cX6_leads 12 = .ok (.istore 5, 2) := by decide +kernel
theorem dX6_leads_14 : decode cX6_leads 14 = .ok (.aload_n 0, 1) := by decide +kernel
theorem dX6_leads_15 : decode cX6_leads 15 = .ok (.iload 4, 2) := by decide +kernel
theorem dX6_leads_17 : decode cX6_leads 17 = .ok (.invokevirtual 158, 3) := by decide +kernel
theorem dX6_leads_20 : decode cX6_leads 20 = .ok (.ifCond .ne 13, 3) := by decide +kernel
theorem dX6_leads_23 : decode cX6_leads 23 = .ok (.aload_n 0, 1) := by decide +kernel
theorem dX6_leads_24 : decode cX6_leads 24 = .ok (.iload 4, 2) := by decide +kernel
theorem dX6_leads_26 : decode cX6_leads 26 = .ok (.iload_n 2, 1) := by decide +kernel
theorem dX6_leads_27 : decode cX6_leads 27 = .ok (.invokevirtual 146, 3) := by decide +kernel
theorem dX6_leads_30 : decode cX6_leads 30 = .ok (.ifCond .ne 5, 3) := by decide +kernel
theorem dX6_leads_33 : decode cX6_leads 33 = .ok (.iconst (-1), 1) := by decide +kernel
theorem dX6_leads_34 : decode cX6_leads 34 = .ok (.ireturn, 1) := by decide +kernel
theorem dX6_leads_35 : decode cX6_leads 35 = .ok (.iload 4, 2) := by decide +kernel
theorem dX6_leads_37 : decode cX6_leads 37 = .ok (.iload_n 2, 1) := by decide +kernel
theorem dX6_leads_38 : decode cX6_leads 38 = .ok (.invokestatic 75, 3) := by decide +kernel
theorem dX6_leads_41 : decode cX6_leads 41 = .ok (.istore 6, 2) := by decide +kernel
theorem dX6_leads_43 : decode cX6_leads 43 = .ok (.aload_n 0, 1) := by decide +kernel
theorem dX6_leads_44 : decode cX6_leads 44 = .ok (.getfield 7, 3) := by decide +kernel
theorem dX6_leads_47 : decode cX6_leads 47 = .ok (.iload 6, 2) := by decide +kernel
theorem dX6_leads_49 : decode cX6_leads 49 = .ok (.iconst 1, 1) := by decide +kernel
theorem dX6_leads_50 : decode cX6_leads 50 = .ok (.iadd, 1) := by decide +kernel
theorem dX6_leads_51 : decode cX6_leads 51 = .ok (.iaload, 1) := by decide +kernel
theorem dX6_leads_52 : decode cX6_leads 52 = .ok (.istore 7, 2) := by decide +kernel
theorem dX6_leads_54 : decode cX6_leads 54 = .ok (.iload 5, 2) := by decide +kernel
theorem dX6_leads_56 : decode cX6_leads 56 = .ok (.aload_n 0, 1) := by decide +kernel
theorem dX6_leads_57 : decode cX6_leads 57 = .ok (.getfield 7, 3) := by decide +kernel
theorem dX6_leads_60 : decode cX6_leads 60 = .ok (.iload 6, 2) := by decide +kernel
theorem dX6_leads_62 : decode cX6_leads 62 = .ok (.iconst 3, 1) := by decide +kernel
theorem dX6_leads_63 : decode cX6_leads 63 = .ok (.iadd, 1) := by decide +kernel
theorem dX6_leads_64 : decode cX6_leads 64 = .ok (.iaload, 1) := by decide +kernel
theorem dX6_leads_65 : decode cX6_leads 65 = .ok (.iconst (-1), 1) := by decide +kernel
theorem dX6_leads_66 : decode cX6_leads 66 = .ok (.ixor, 1) := by decide +kernel
theorem dX6_leads_67 : decode cX6_leads 67 = .ok (.iand, 1) := by decide +kernel
theorem dX6_leads_68 : decode cX6_leads 68 = .ok (.aload_n 0, 1) := by decide +kernel
theorem dX6_leads_69 : decode cX6_leads 69 = .ok (.getfield 7, 3) := by decide +kernel
theorem dX6_leads_72 : decode cX6_leads 72 = .ok (.iload 6, 2) := by decide +kernel
theorem dX6_leads_74 : decode cX6_leads 74 = .ok (.iconst 2, 1) := by decide +kernel
theorem dX6_leads_75 : decode cX6_leads 75 = .ok (.iadd, 1) := by decide +kernel
theorem dX6_leads_76 : decode cX6_leads 76 = .ok (.iaload, 1) := by decide +kernel
theorem dX6_leads_77 : decode cX6_leads 77 = .ok (.ior, 1) := by decide +kernel
theorem dX6_leads_78 : decode cX6_leads 78 = .ok (.istore 8, 2) := by decide +kernel
theorem dX6_leads_80 : decode cX6_leads 80 = .ok (.aload_n 0, 1) := by decide +kernel
theorem dX6_leads_81 : decode cX6_leads 81 = .ok (.iload 6, 2) := by decide +kernel
theorem dX6_leads_83 : decode cX6_leads 83 = .ok (.bipush 6, 2) := by decide +kernel
theorem dX6_leads_85 : decode cX6_leads 85 = .ok (.iadd, 1) := by decide +kernel
theorem dX6_leads_86 : decode cX6_leads 86 = .ok (.iload 5, 2) := by decide +kernel
theorem dX6_leads_88 : decode cX6_leads 88 = .ok (.invokevirtual 79, 3) := by decide +kernel
theorem dX6_leads_91 : decode cX6_leads 91 = .ok (.ifCond .eq 29, 3) := by decide +kernel
theorem dX6_leads_94 : decode cX6_leads 94 = .ok (.aload_n 0, 1) := by decide +kernel
theorem dX6_leads_95 : decode cX6_leads 95 = .ok (.iload 7, 2) := by decide +kernel
theorem dX6_leads_97 : decode cX6_leads 97 = .ok (.iload_n 3, 1) := by decide +kernel
theorem dX6_leads_98 : decode cX6_leads 98 = .ok (.invokevirtual 161, 3) := by decide +kernel
theorem dX6_leads_101 : decode cX6_leads 101 = .ok (.ifCond .ne 19, 3) := by decide +kernel
theorem dX6_leads_104 : decode cX6_leads 104 = .ok (.aload_n 0, 1) := by decide +kernel
theorem dX6_leads_105 : decode cX6_leads 105 = .ok (.bipush 10, 2) := by decide +kernel
theorem dX6_leads_107 : decode cX6_leads 107 = .ok (.iload 7, 2) := by decide +kernel
theorem dX6_leads_109 : decode cX6_leads 109 = .ok (.imul, 1) := by decide +kernel
theorem dX6_leads_110 : decode cX6_leads 110 = .ok (.iconst 2, 1) := by decide +kernel
theorem dX6_leads_111 : decode cX6_leads 111 = .ok (.iadd, 1) := by decide +kernel
theorem dX6_leads_112 : decode cX6_leads 112 = .ok (.iload 8, 2) := by decide +kernel
theorem dX6_leads_114 : decode cX6_leads 114 = .ok (.invokevirtual 79, 3) := by decide +kernel
theorem dX6_leads_117 : decode cX6_leads 117 = .ok (.ifCond .ne 5, 3) := by decide +kernel
theorem dX6_leads_120 : decode cX6_leads 120 = .ok (.iconst (-1), 1) := by decide +kernel
theorem dX6_leads_121 : decode cX6_leads 121 = .ok (.ireturn, 1) := by decide +kernel
theorem dX6_leads_122 : decode cX6_leads 122 = .ok (.sipush 256, 3) := by decide +kernel
theorem dX6_leads_125 : decode cX6_leads 125 = .ok (.iload 7, 2) := by decide +kernel
theorem dX6_leads_127 : decode cX6_leads 127 = .ok (.imul, 1) := by decide +kernel
theorem dX6_leads_128 : decode cX6_leads 128 = .ok (.iload 8, 2) := by decide +kernel
theorem dX6_leads_130 : decode cX6_leads 130 = .ok (.aload_n 0, 1) := by decide +kernel
theorem dX6_leads_131 : decode cX6_leads 131 = .ok (.getfield 7, 3) := by decide +kernel
theorem dX6_leads_134 : decode cX6_leads 134 = .ok (.bipush 10, 2) := by decide +kernel
theorem dX6_leads_136 : decode cX6_leads 136 = .ok (.iload 7, 2) := by decide +kernel
theorem dX6_leads_138 : decode cX6_leads 138 = .ok (.imul, 1) := by decide +kernel
theorem dX6_leads_139 : decode cX6_leads 139 = .ok (.iconst 1, 1) := by decide +kernel
theorem dX6_leads_140 : decode cX6_leads 140 = .ok (.iadd, 1) := by decide +kernel
theorem dX6_leads_141 : decode cX6_leads 141 = .ok (.iaload, 1) := by decide +kernel
theorem dX6_leads_142 : decode cX6_leads 142 = .ok (.iconst (-1), 1) := by decide +kernel
theorem dX6_leads_143 : decode cX6_leads 143 = .ok (.ixor, 1) := by decide +kernel
theorem dX6_leads_144 : decode cX6_leads 144 = .ok (.iand, 1) := by decide +kernel
theorem dX6_leads_145 : decode cX6_leads 145 = .ok (.iadd, 1) := by decide +kernel
theorem dX6_leads_146 : decode cX6_leads 146 = .ok (.ireturn, 1) := by decide +kernel
theorem dX6_reach_0 : decode cX6_reach 0 = .ok (.iconst 0, 1) := by decide +kernel
theorem dX6_reach_1 : decode cX6_reach 1 = .ok (.istore_n 3, 1) := by decide +kernel
theorem dX6_reach_2 : decode cX6_reach 2 = .ok (.iload_n 3, 1) := by decide +kernel
theorem dX6_reach_3 : decode cX6_reach 3 = .ok (.sipush 5120, 3) := by decide +kernel
theorem dX6_reach_6 : decode cX6_reach 6 = .ok (.if_icmp .ge 16, 3) := by decide +kernel
theorem dX6_reach_9 : decode cX6_reach 9 = .ok (.aload_n 0, 1) := by decide +kernel
theorem dX6_reach_10 : decode cX6_reach 10 = .ok (.getfield 41, 3) := by decide +kernel
theorem dX6_reach_13 : decode cX6_reach 13 = .ok (.iload_n 3, 1) := by decide +kernel
theorem dX6_reach_14 : decode cX6_reach 14 = .ok (.iconst (-1), 1) := by decide +kernel
theorem dX6_reach_15 : decode cX6_reach 15 = .ok (.iastore, 1) := by decide +kernel
theorem dX6_reach_16 : decode cX6_reach 16 = .ok (.iinc 3 1, 3) := by decide +kernel
theorem dX6_reach_19 : decode cX6_reach 19 = .ok (.goto (-17), 3) := by decide +kernel
theorem dX6_reach_22 : decode cX6_reach 22 = .ok (.aload_n 0, 1) := by decide +kernel
theorem dX6_reach_23 : decode cX6_reach 23 = .ok (.iconst 0, 1) := by decide +kernel
theorem dX6_reach_24 : decode cX6_reach 24 = .ok (.putfield 165, 3) := by decide +kernel
theorem dX6_reach_27 : decode cX6_reach 27 = .ok (.aload_n 0, 1) := by decide +kernel
theorem dX6_reach_28 : decode cX6_reach 28 = .ok (.iconst 0, 1) := by decide +kernel
theorem dX6_reach_29 : decode cX6_reach 29 = .ok (.iload_n 2, 1) := by decide +kernel
theorem dX6_reach_30 : decode cX6_reach 30 = .ok (.invokevirtual 161, 3) := by decide +kernel
theorem dX6_reach_33 : decode cX6_reach 33 = .ok (.ifCond .eq 4, 3) := by decide +kernel
theorem dX6_reach_36 : decode cX6_reach 36 = .ok (.return_, 1) := by decide +kernel
theorem dX6_reach_37 : decode cX6_reach 37 = .ok (.aload_n 0, 1) := by decide +kernel
theorem dX6_reach_38 : decode cX6_reach 38 = .ok (.getfield 41, 3) := by decide +kernel
theorem dX6_reach_41 : decode cX6_reach 41 = .ok (.iload_n 1, 1) := by decide +kernel
theorem dX6_reach_42 : decode cX6_reach 42 = .ok (.iconst 0, 1) := by decide +kernel
theorem dX6_reach_43 : decode cX6_reach 43 = .ok (.iastore, 1) := by decide +kernel
theorem dX6_reach_44 : decode cX6_reach 44 = .ok (.aload_n 0, 1) := by decide +kernel
theorem dX6_reach_45 : decode cX6_reach 45 = .ok (.getfield 44, 3) := by decide +kernel
theorem dX6_reach_48 : decode cX6_reach 48 = .ok (.iconst 0, 1) := by decide +kernel
theorem dX6_reach_49 : decode cX6_reach 49 = .ok (.iload_n 1, 1) := by decide +kernel
theorem dX6_reach_50 : decode cX6_reach 50 = .ok (.iastore, 1) := by decide +kernel
theorem dX6_reach_51 : decode cX6_reach 51 = .ok (.aload_n 0, 1) := by decide +kernel
theorem dX6_reach_52 : decode cX6_reach 52 = .ok (.iconst 1, 1) := by decide +kernel
theorem dX6_reach_53 : decode cX6_reach 53 = .ok (.putfield 165, 3) := by decide +kernel
theorem dX6_reach_56 : decode cX6_reach 56 = .ok (.iconst 0, 1) := by decide +kernel
theorem dX6_reach_57 : decode cX6_reach 57 = .ok (.istore_n 3, 1) := by decide +kernel
theorem dX6_reach_58 : decode cX6_reach 58 = .ok (.iload_n 3, 1) := by decide +kernel
theorem dX6_reach_59 : decode cX6_reach 59 = .ok (.aload_n 0, 1) := by decide +kernel
theorem dX6_reach_60 : decode cX6_reach 60 = .ok (.getfield 165, 3) := by decide +kernel
theorem dX6_reach_63 : decode cX6_reach 63 = .ok (.if_icmp .ge 96, 3) := by decide +kernel
theorem dX6_reach_66 : decode cX6_reach 66 = .ok (.iconst 0, 1) := by decide +kernel
theorem dX6_reach_67 : decode cX6_reach 67 = .ok (.istore 4, 2) := by decide +kernel
theorem dX6_reach_69 : decode cX6_reach 69 = .ok (.iload 4, 2) := by decide +kernel
theorem dX6_reach_71 : decode cX6_reach 71 = .ok (.bipush 6, 2) := by decide +kernel
theorem dX6_reach_73 : decode cX6_reach 73 = .ok (.if_icmp .ge 80, 3) := by decide +kernel
theorem dX6_reach_76 : decode cX6_reach 76 = .ok (.aload_n 0, 1) := by decide +kernel
theorem dX6_reach_77 : decode cX6_reach 77 = .ok (.aload_n 0, 1) := by decide +kernel
theorem dX6_reach_78 : decode cX6_reach 78 = .ok (.getfield 44, 3) := by decide +kernel
theorem dX6_reach_81 : decode cX6_reach 81 = .ok (.iload_n 3, 1) := by decide +kernel
theorem dX6_reach_82 : decode cX6_reach 82 = .ok (.iaload, 1) := by decide +kernel
theorem dX6_reach_83 : decode cX6_reach 83 = .ok (.iload 4, 2) := by decide +kernel
theorem dX6_reach_85 : decode cX6_reach 85 = .ok (.iload_n 2, 1) := by decide +kernel
theorem dX6_reach_86 : decode cX6_reach 86 = .ok (.invokevirtual 168, 3) := by decide +kernel
theorem dX6_reach_89 : decode cX6_reach 89 = .ok (.istore 5, 2) := by decide +kernel
theorem dX6_reach_91 : decode cX6_reach 91 = .ok (.iload 5, 2) := by decide +kernel
theorem dX6_reach_93 : decode cX6_reach 93 = .ok (.ifCond .lt 54, 3) := by decide +kernel
theorem dX6_reach_96 : decode cX6_reach 96 = .ok (.aload_n 0, 1) := by decide +kernel
theorem dX6_reach_97 : decode cX6_reach 97 = .ok (.getfield 41, 3) := by decide +kernel
theorem dX6_reach_100 : decode cX6_reach 100 = .ok (.iload 5, 2) := by decide +kernel
theorem dX6_reach_102 : decode cX6_reach 102 = .ok (.iaload, 1) := by decide +kernel
theorem dX6_reach_103 : decode cX6_reach 103 = .ok (.ifCond .ge 44, 3) := by decide +kernel
theorem dX6_reach_106 : decode cX6_reach 106 = .ok (.aload_n 0, 1) := by decide +kernel
theorem dX6_reach_107 : decode cX6_reach 107 = .ok (.getfield 41, 3) := by decide +kernel
theorem dX6_reach_110 : decode cX6_reach 110 = .ok (.iload 5, 2) := by decide +kernel
theorem dX6_reach_112 : decode cX6_reach 112 = .ok (.aload_n 0, 1) := by decide +kernel
theorem dX6_reach_113 : decode cX6_reach 113 = .ok (.getfield 41, 3) := by decide +kernel
theorem dX6_reach_116 : decode cX6_reach 116 = .ok (.aload_n 0, 1) := by decide +kernel
theorem dX6_reach_117 : decode cX6_reach 117 = .ok (.getfield 44, 3) := by decide +kernel
theorem dX6_reach_120 : decode cX6_reach 120 = .ok (.iload_n 3, 1) := by decide +kernel
theorem dX6_reach_121 : decode cX6_reach 121 = .ok (.iaload, 1) := by decide +kernel
theorem dX6_reach_122 : decode cX6_reach 122 = .ok (.iaload, 1) := by decide +kernel
theorem dX6_reach_123 : decode cX6_reach 123 = .ok (.iconst 1, 1) := by decide +kernel
theorem dX6_reach_124 : decode cX6_reach 124 = .ok (.iadd, 1) := by decide +kernel
theorem dX6_reach_125 : decode cX6_reach 125 = .ok (.iastore, 1) := by decide +kernel
theorem dX6_reach_126 : decode cX6_reach 126 = .ok (.aload_n 0, 1) := by decide +kernel
theorem dX6_reach_127 : decode cX6_reach 127 = .ok (.getfield 44, 3) := by decide +kernel
theorem dX6_reach_130 : decode cX6_reach 130 = .ok (.aload_n 0, 1) := by decide +kernel
theorem dX6_reach_131 : decode cX6_reach 131 = .ok (.getfield 165, 3) := by decide +kernel
theorem dX6_reach_134 : decode cX6_reach 134 = .ok (.iload 5, 2) := by decide +kernel
theorem dX6_reach_136 : decode cX6_reach 136 = .ok (.iastore, 1) := by decide +kernel
theorem dX6_reach_137 : decode cX6_reach 137 = .ok (.aload_n 0, 1) := by decide +kernel
theorem dX6_reach_138 : decode cX6_reach 138 = .ok (.dup, 1) := by decide +kernel
theorem dX6_reach_139 : decode cX6_reach 139 = .ok (.getfield 165, 3) := by decide +kernel
theorem dX6_reach_142 : decode cX6_reach 142 = .ok (.iconst 1, 1) := by decide +kernel
theorem dX6_reach_143 : decode cX6_reach 143 = .ok (.iadd, 1) := by decide +kernel
theorem dX6_reach_144 : decode cX6_reach 144 = .ok (.putfield 165, 3) := by decide +kernel
theorem dX6_reach_147 : decode cX6_reach 147 = .ok (.iinc 4 1, 3) := by decide +kernel
theorem dX6_reach_150 : decode cX6_reach 150 = .ok (.goto (-81), 3) := by decide +kernel
theorem dX6_reach_153 : decode cX6_reach 153 = .ok (.iinc 3 1, 3) := by decide +kernel
theorem dX6_reach_156 : decode cX6_reach 156 = .ok (.goto (-98), 3) := by decide +kernel
theorem dX6_reach_159 : decode cX6_reach 159 = .ok (.return_, 1) := by decide +kernel
theorem dX6_reach__0 : decode cX6_reach_ 0 = .ok (.aload_n 0, 1) := by decide +kernel
theorem dX6_reach__1 : decode cX6_reach_ 1 = .ok (.aload_n 0, 1) := by decide +kernel
theorem dX6_reach__2 : decode cX6_reach_ 2 = .ok (.getfield 7, 3) := by decide +kernel
theorem dX6_reach__5 : decode cX6_reach_ 5 = .ok (.sipush 1880, 3) := by decide +kernel
theorem dX6_reach__8 : decode cX6_reach_ 8 = .ok (.iaload, 1) := by decide +kernel
theorem dX6_reach__9 : decode cX6_reach_ 9 = .ok (.iconst 1, 1) := by decide +kernel
theorem dX6_reach__10 : decode cX6_reach_ 10 = .ok (.invokevirtual 172, 3) := by decide +kernel
theorem dX6_reach__13 : decode cX6_reach_ 13 = .ok (.return_, 1) := by decide +kernel
theorem dX6_isStuck_0 : decode cX6_isStuck 0 = .ok (.aload_n 0, 1) := by decide +kernel
theorem dX6_isStuck_1 : decode cX6_isStuck 1 = .ok (.iload_n 1, 1) := by decide +kernel
theorem dX6_isStuck_2 : decode cX6_isStuck 2 = .ok (.sipush 256, 3) := by decide +kernel
theorem dX6_isStuck_5 : decode cX6_isStuck 5 = .ok (.idiv, 1) := by decide +kernel
theorem dX6_isStuck_6 : decode cX6_isStuck 6 = .ok (.invokevirtual 158, 3) := by decide +kernel
theorem dX6_isStuck_9 : decode cX6_isStuck 9 = .ok (.istore_n 2, 1) := by decide +kernel
theorem dX6_isStuck_10 : decode cX6_isStuck 10 = .ok (.iconst 0, 1) := by decide +kernel
theorem dX6_isStuck_11 : decode cX6_isStuck 11 = .ok (.istore_n 3, 1) := by decide +kernel
theorem dX6_isStuck_12 : decode cX6_isStuck 12 = .ok (.iload_n 3, 1) := by decide +kernel
theorem dX6_isStuck_13 : decode cX6_isStuck 13 = .ok (.bipush 6, 2) := by decide +kernel
theorem dX6_isStuck_15 : decode cX6_isStuck 15 = .ok (.if_icmp .ge 27, 3) := by decide +kernel
theorem dX6_isStuck_18 : decode cX6_isStuck 18 = .ok (.iload_n 2, 1) := by decide +kernel
theorem dX6_isStuck_19 : decode cX6_isStuck 19 = .ok (.aload_n 0, 1) := by decide +kernel
theorem dX6_isStuck_20 : decode cX6_isStuck 20 = .ok (.iload_n 1, 1) := by decide +kernel
theorem dX6_isStuck_21 : decode cX6_isStuck 21 = .ok (.iload_n 3, 1) := by decide +kernel
theorem dX6_isStuck_22 : decode cX6_isStuck 22 = .ok (.iconst 1, 1) := by decide +kernel
theorem dX6_isStuck_23 : decode cX6_isStuck 23 = .ok (.invokevirtual 168, 3) := by decide +kernel
theorem dX6_isStuck_26 : decode cX6_isStuck 26 = .ok (.ifCond .lt 7, 3) := by decide +kernel
theorem dX6_isStuck_29 : decode cX6_isStuck 29 = .ok (.iconst 1, 1) := by decide +kernel
theorem dX6_isStuck_30 : decode cX6_isStuck 30 = .ok (.goto 4, 3) := by decide +kernel
theorem dX6_isStuck_33 : decode cX6_isStuck 33 = .ok (.iconst 0, 1) := by decide +kernel
theorem dX6_isStuck_34 : decode cX6_isStuck 34 = .ok (.ior, 1) := by decide +kernel
theorem dX6_isStuck_35 : decode cX6_isStuck 35 = .ok (.istore_n 2, 1) := by decide +kernel
theorem dX6_isStuck_36 : decode cX6_isStuck 36 = .ok (.iinc 3 1, 3) := by decide +kernel
theorem dX6_isStuck_39 : decode cX6_isStuck 39 = .ok (.goto (-27), 3) := by decide +kernel
theorem dX6_isStuck_42 : decode cX6_isStuck 42 = .ok (.iload_n 2, 1) := by decide +kernel
theorem dX6_isStuck_43 : decode cX6_isStuck 43 = .ok (.ifCond .ne 7, 3) := by decide +kernel
theorem dX6_isStuck_46 : decode cX6_isStuck 46 = .ok (.iconst 1, 1) := by decide +kernel
theorem dX6_isStuck_47 : decode cX6_isStuck 47 = .ok (.goto 4, 3) := by decide +kernel
theorem dX6_isStuck_50 : decode cX6_isStuck 50 = .ok (.iconst 0, 1) := by decide +kernel
theorem dX6_isStuck_51 : decode cX6_isStuck 51 = .ok (.ireturn, 1) := by decide +kernel
theorem dX6_tellHope_0 : decode cX6_tellHope 0 = .ok (.iconst 0, 1) := by decide +kernel
theorem dX6_tellHope_1 : decode cX6_tellHope 1 = .ok (.istore_n 1, 1) := by decide +kernel
theorem dX6_tellHope_2 : decode cX6_tellHope 2 = .ok (.iload_n 1, 1) := by decide +kernel
theorem dX6_tellHope_3 : decode cX6_tellHope 3 = .ok (.sipush 5120, 3) := by decide +kernel
theorem dX6_tellHope_6 : decode cX6_tellHope 6 = .ok (.if_icmp .ge 41, 3) := by decide +kernel
theorem dX6_tellHope_9 : decode cX6_tellHope 9 = .ok (.aload_n 0, 1) := by decide +kernel
theorem dX6_tellHope_10 : decode cX6_tellHope 10 = .ok (.getfield 47, 3) := by decide +kernel
theorem dX6_tellHope_13 : decode cX6_tellHope 13 = .ok (.iload_n 1, 1) := by decide +kernel
theorem dX6_tellHope_14 : decode cX6_tellHope 14 = .ok (.aload_n 0, 1) := by decide +kernel
theorem dX6_tellHope_15 : decode cX6_tellHope 15 = .ok (.getfield 41, 3) := by decide +kernel
theorem dX6_tellHope_18 : decode cX6_tellHope 18 = .ok (.iload_n 1, 1) := by decide +kernel
theorem dX6_tellHope_19 : decode cX6_tellHope 19 = .ok (.iaload, 1) := by decide +kernel
theorem dX6_tellHope_20 : decode cX6_tellHope 20 = .ok (.ifCond .lt 19, 3) := by decide +kernel
theorem dX6_tellHope_23 : decode cX6_tellHope 23 = .ok (.aload_n 0, 1) := by decide +kernel
theorem dX6_tellHope_24 : decode cX6_tellHope 24 = .ok (.iload_n 1, 1) := by decide +kernel
theorem dX6_tellHope_25 : decode cX6_tellHope 25 = .ok (.sipush 256, 3) := by decide +kernel
theorem dX6_tellHope_28 : decode cX6_tellHope 28 = .ok (.idiv, 1) := by decide +kernel
theorem dX6_tellHope_29 : decode cX6_tellHope 29 = .ok (.invokevirtual 158, 3) := by decide +kernel
theorem dX6_tellHope_32 : decode cX6_tellHope 32 = .ok (.ifCond .eq 7, 3) := by decide +kernel
theorem dX6_tellHope_35 : decode cX6_tellHope 35 = .ok (.iconst 1, 1) := by decide +kernel
theorem dX6_tellHope_36 : decode cX6_tellHope 36 = .ok (.goto 4, 3) := by decide +kernel
theorem dX6_tellHope_39 : decode cX6_tellHope 39 = .ok (.iconst 0, 1) := by decide +kernel
theorem dX6_tellHope_40 : decode cX6_tellHope 40 = .ok (.bastore, 1) := by decide +kernel
theorem dX6_tellHope_41 : decode cX6_tellHope 41 = .ok (.iinc 1 1, 3) := by decide +kernel
theorem dX6_tellHope_44 : decode cX6_tellHope 44 = .ok (.goto (-42), 3) := by decide +kernel
theorem dX6_tellHope_47 : decode cX6_tellHope 47 = .ok (.iconst 1, 1) := by decide +kernel
theorem dX6_tellHope_48 : decode cX6_tellHope 48 = .ok (.istore_n 1, 1) := by decide +kernel
theorem dX6_tellHope_49 : decode cX6_tellHope 49 = .ok (.iload_n 1, 1) := by decide +kernel
theorem dX6_tellHope_50 : decode cX6_tellHope 50 = .ok (.ifCond .eq 96, 3) := by decide +kernel
theorem dX6_tellHope_53 : decode cX6_tellHope 53 = .ok (.iconst 0, 1) := by decide +kernel
theorem dX6_tellHope_54 : decode cX6_tellHope 54 = .ok (.istore_n 1, 1) := by decide +kernel
theorem dX6_tellHope_55 : decode cX6_tellHope 55 = .ok (.aload_n 0, 1) := by decide +kernel
theorem dX6_tellHope_56 : decode cX6_tellHope 56 = .ok (.getfield 165, 3) := by decide +kernel
theorem dX6_tellHope_59 : decode cX6_tellHope 59 = .ok (.iconst 1, 1) := by decide +kernel
theorem dX6_tellHope_60 : decode cX6_tellHope 60 = .ok (.isub, 1) := by decide +kernel
theorem dX6_tellHope_61 : decode cX6_tellHope 61 = .ok (.istore_n 2, 1) := by decide +kernel
theorem dX6_tellHope_62 : decode cX6_tellHope 62 = .ok (.iload_n 2, 1) := by decide +kernel
theorem dX6_tellHope_63 : decode cX6_tellHope 63 = .ok (.ifCond .lt 80, 3) := by decide +kernel
theorem dX6_tellHope_66 : decode cX6_tellHope 66 = .ok (.iconst 0, 1) := by decide +kernel
theorem dX6_tellHope_67 : decode cX6_tellHope 67 = .ok (.istore_n 3, 1) := by decide +kernel
theorem dX6_tellHope_68 : decode cX6_tellHope 68 = .ok (.iload_n 3, 1) := by decide +kernel
theorem dX6_tellHope_69 : decode cX6_tellHope 69 = .ok (.bipush 6, 2) := by decide +kernel
theorem dX6_tellHope_71 : decode cX6_tellHope 71 = .ok (.if_icmp .ge 66, 3) := by decide +kernel
theorem dX6_tellHope_74 : decode cX6_tellHope 74 = .ok (.aload_n 0, 1) := by decide +kernel
theorem dX6_tellHope_75 : decode cX6_tellHope 75 = .ok (.getfield 47, 3) := by decide +kernel
theorem dX6_tellHope_78 : decode cX6_tellHope 78 = .ok (.aload_n 0, 1) := by decide +kernel
theorem dX6_tellHope_79 : decode cX6_tellHope 79 = .ok (.getfield 44, 3) := by decide +kernel
theorem dX6_tellHope_82 : decode cX6_tellHope 82 = .ok (.iload_n 2, 1) := by decide +kernel
theorem dX6_tellHope_83 : decode cX6_tellHope 83 = .ok (.iaload, 1) := by decide +kernel
theorem dX6_tellHope_84 : decode cX6_tellHope 84 = .ok (.baload, 1) := by decide +kernel
theorem dX6_tellHope_85 : decode cX6_tellHope 85 = .ok (.ifCond .ne 52, 3) := by decide +kernel
theorem dX6_tellHope_88 : decode cX6_tellHope 88 = .ok (.aload_n 0, 1) := by decide +kernel
theorem dX6_tellHope_89 : decode cX6_tellHope 89 = .ok (.aload_n 0, 1) := by decide +kernel
theorem dX6_tellHope_90 : decode cX6_tellHope 90 = .ok (.getfield 44, 3) := by decide +kernel
theorem dX6_tellHope_93 : decode cX6_tellHope 93 = .ok (.iload_n 2, 1) := by decide +kernel
theorem dX6_tellHope_94 : decode cX6_tellHope 94 = .ok (.iaload, 1) := by decide +kernel
theorem dX6_tellHope_95 : decode cX6_tellHope 95 = .ok (.iload_n 3, 1) := by decide +kernel
theorem dX6_tellHope_96 : decode cX6_tellHope 96 = .ok (.iconst 1, 1) := by decide +kernel
theorem dX6_tellHope_97 : decode cX6_tellHope 97 = .ok (.invokevirtual 168, 3) := by decide +kernel
theorem dX6_tellHope_100 : decode cX6_tellHope 100 = .ok (.istore 4, 2) := by decide +kernel
theorem dX6_tellHope_102 : decode cX6_tellHope 102 = .ok (.iload 4, 2) := by decide +kernel
theorem dX6_tellHope_104 : decode cX6_tellHope 104 = .ok (.ifCond .lt 27, 3) := by decide +kernel
theorem dX6_tellHope_107 : decode cX6_tellHope 107 = .ok (.aload_n 0, 1) := by decide +kernel
theorem dX6_tellHope_108 : decode cX6_tellHope 108 = .ok (.getfield 47, 3) := by decide +kernel
theorem dX6_tellHope_111 : decode cX6_tellHope 111 = .ok (.iload 4, 2) := by decide +kernel
theorem dX6_tellHope_113 : decode cX6_tellHope 113 = .ok (.baload, 1) := by decide +kernel
theorem dX6_tellHope_114 : decode cX6_tellHope 114 = .ok (.ifCond .eq 17, 3) := by decide +kernel
theorem dX6_tellHope_117 : decode cX6_tellHope 117 = .ok (.aload_n 0, 1) := by decide +kernel
theorem dX6_tellHope_118 : decode cX6_tellHope 118 = .ok (.getfield 47, 3) := by decide +kernel
theorem dX6_tellHope_121 : decode cX6_tellHope 121 = .ok (.aload_n 0, 1) := by decide +kernel
theorem dX6_tellHope_122 : decode cX6_tellHope 122 = .ok (.getfield 44, 3) := by decide +kernel
theorem dX6_tellHope_125 : decode cX6_tellHope 125 = .ok (.iload_n 2, 1) := by decide +kernel
theorem dX6_tellHope_126 : decode cX6_tellHope 126 = .ok (.iaload, 1) := by decide +kernel
theorem dX6_tellHope_127 : decode cX6_tellHope 127 = .ok (.iconst 1, 1) := by decide +kernel
theorem dX6_tellHope_128 : decode cX6_tellHope 128 = .ok (.bastore, 1) := by decide +kernel
theorem dX6_tellHope_129 : decode cX6_tellHope 129 = .ok (.iconst 1, 1) := by decide +kernel
theorem dX6_tellHope_130 : decode cX6_tellHope 130 = .ok (.istore_n 1, 1) := by decide +kernel
theorem dX6_tellHope_131 : decode cX6_tellHope 131 = .ok (.iinc 3 1, 3) := by decide +kernel
theorem dX6_tellHope_134 : decode cX6_tellHope 134 = .ok (.goto (-66), 3) := by decide +kernel
theorem dX6_tellHope_137 : decode cX6_tellHope 137 = .ok (.iinc 2 (-1), 3) := by decide +kernel
theorem dX6_tellHope_140 : decode cX6_tellHope 140 = .ok (.goto (-78), 3) := by decide +kernel
theorem dX6_tellHope_143 : decode cX6_tellHope 143 = .ok (.goto (-94), 3) := by decide +kernel
theorem dX6_tellHope_146 : decode cX6_tellHope 146 = .ok (.return_, 1) := by decide +kernel
theorem dX6_tellLives_0 : decode cX6_tellLives 0 = .ok (.iconst 0, 1) := by decide +kernel
theorem dX6_tellLives_1 : decode cX6_tellLives 1 = .ok (.istore_n 1, 1) := by decide +kernel
theorem dX6_tellLives_2 : decode cX6_tellLives 2 = .ok (.iload_n 1, 1) := by decide +kernel
theorem dX6_tellLives_3 : decode cX6_tellLives 3 = .ok (.bipush 20, 2) := by decide +kernel
theorem dX6_tellLives_5 : decode cX6_tellLives 5 = .ok (.if_icmp .ge 16, 3) := by decide +kernel
theorem dX6_tellLives_8 : decode cX6_tellLives 8 = .ok (.aload_n 0, 1) := by decide +kernel
theorem dX6_tellLives_9 : decode cX6_tellLives 9 = .ok (.getfield 50, 3) := by decide +kernel
theorem dX6_tellLives_12 : decode cX6_tellLives 12 = .ok (.iload_n 1, 1) := by decide +kernel
theorem dX6_tellLives_13 : decode cX6_tellLives 13 = .ok (.iconst 0, 1) := by decide +kernel
theorem dX6_tellLives_14 : decode cX6_tellLives 14 = .ok (.iastore, 1) := by decide +kernel
theorem dX6_tellLives_15 : decode cX6_tellLives 15 = .ok (.iinc 1 1, 3) := by decide +kernel
theorem dX6_tellLives_18 : decode cX6_tellLives 18 = .ok (.goto (-16), 3) := by decide +kernel
theorem dX6_tellLives_21 : decode cX6_tellLives 21 = .ok (.iconst 1, 1) := by decide +kernel
theorem dX6_tellLives_22 : decode cX6_tellLives 22 = .ok (.istore_n 1, 1) := by decide +kernel
theorem dX6_tellLives_23 : decode cX6_tellLives 23 = .ok (.iload_n 1, 1) := by decide +kernel
theorem dX6_tellLives_24 : decode cX6_tellLives 24 = .ok (.ifCond .eq 73, 3) := by decide +kernel
theorem dX6_tellLives_27 : decode cX6_tellLives 27 = .ok (.iconst 0, 1) := by decide +kernel
theorem dX6_tellLives_28 : decode cX6_tellLives 28 = .ok (.istore_n 1, 1) := by decide +kernel
theorem dX6_tellLives_29 : decode cX6_tellLives 29 = .ok (.iconst 0, 1) := by decide +kernel
theorem dX6_tellLives_30 : decode cX6_tellLives 30 = .ok (.istore_n 2, 1) := by decide +kernel
theorem dX6_tellLives_31 : decode cX6_tellLives 31 = .ok (.iload_n 2, 1) := by decide +kernel
theorem dX6_tellLives_32 : decode cX6_tellLives 32 = .ok (.bipush 20, 2) := by decide +kernel
theorem dX6_tellLives_34 : decode cX6_tellLives 34 = .ok (.if_icmp .ge 60, 3) := by decide +kernel
theorem dX6_tellLives_37 : decode cX6_tellLives 37 = .ok (.aload_n 0, 1) := by decide +kernel
theorem dX6_tellLives_38 : decode cX6_tellLives 38 = .ok (.iload_n 2, 1) := by decide +kernel
theorem dX6_tellLives_39 : decode cX6_tellLives 39 = .ok (.invokevirtual 137, 3) := by decide +kernel
theorem dX6_tellLives_42 : decode cX6_tellLives 42 = .ok (.ifCond .eq 19, 3) := by decide +kernel
theorem dX6_tellLives_45 : decode cX6_tellLives 45 = .ok (.aload_n 0, 1) := by decide +kernel
theorem dX6_tellLives_46 : decode cX6_tellLives 46 = .ok (.iload_n 2, 1) := by decide +kernel
theorem dX6_tellLives_47 : decode cX6_tellLives 47 = .ok (.invokevirtual 158, 3) := by decide +kernel
theorem dX6_tellLives_50 : decode cX6_tellLives 50 = .ok (.ifCond .ne 11, 3) := by decide +kernel
theorem dX6_tellLives_53 : decode cX6_tellLives 53 = .ok (.aload_n 0, 1) := by decide +kernel
theorem dX6_tellLives_54 : decode cX6_tellLives 54 = .ok (.iload_n 2, 1) := by decide +kernel
theorem dX6_tellLives_55 : decode cX6_tellLives 55 = .ok (.invokevirtual 176, 3) := by decide +kernel
theorem dX6_tellLives_58 : decode cX6_tellLives 58 = .ok (.goto 4, 3) := by decide +kernel
theorem dX6_tellLives_61 : decode cX6_tellLives 61 = .ok (.iconst 0, 1) := by decide +kernel
theorem dX6_tellLives_62 : decode cX6_tellLives 62 = .ok (.istore_n 3, 1) := by decide +kernel
theorem dX6_tellLives_63 : decode cX6_tellLives 63 = .ok (.iload_n 1, 1) := by decide +kernel
theorem dX6_tellLives_64 : decode cX6_tellLives 64 = .ok (.iload_n 3, 1) := by decide +kernel
theorem dX6_tellLives_65 : decode cX6_tellLives 65 = .ok (.aload_n 0, 1) := by decide +kernel
theorem dX6_tellLives_66 : decode cX6_tellLives 66 = .ok (.getfield 50, 3) := by decide +kernel
theorem dX6_tellLives_69 : decode cX6_tellLives 69 = .ok (.iload_n 2, 1) := by decide +kernel
theorem dX6_tellLives_70 : decode cX6_tellLives 70 = .ok (.iaload, 1) := by decide +kernel
theorem dX6_tellLives_71 : decode cX6_tellLives 71 = .ok (.if_icmp .eq 7, 3) := by decide +kernel
theorem dX6_tellLives_74 : decode cX6_tellLives 74 = .ok (.iconst 1, 1) := by decide +kernel
theorem dX6_tellLives_75 : decode cX6_tellLives 75 = .ok (.goto 4, 3) := by decide +kernel
theorem dX6_tellLives_78 : decode cX6_tellLives 78 = .ok (.iconst 0, 1) := by decide +kernel
theorem dX6_tellLives_79 : decode cX6_tellLives 79 = .ok (.ior, 1) := by decide +kernel
theorem dX6_tellLives_80 : decode cX6_tellLives 80 = .ok (.istore_n 1, 1) := by decide +kernel
theorem dX6_tellLives_81 : decode cX6_tellLives 81 = .ok (.aload_n 0, 1) := by decide +kernel
theorem dX6_tellLives_82 : decode cX6_tellLives 82 = .ok (.getfield 50, 3) := by decide +kernel
theorem dX6_tellLives_85 : decode cX6_tellLives 85 = .ok (.iload_n 2, 1) := by decide +kernel
theorem dX6_tellLives_86 : decode cX6_tellLives 86 = .ok (.iload_n 3, 1) := by decide +kernel
theorem dX6_tellLives_87 : decode cX6_tellLives 87 = .ok (.iastore, 1) := by decide +kernel
theorem dX6_tellLives_88 : decode cX6_tellLives 88 = .ok (.iinc 2 1, 3) := by decide +kernel
theorem dX6_tellLives_91 : decode cX6_tellLives 91 = .ok (.goto (-60), 3) := by decide +kernel
theorem dX6_tellLives_94 : decode cX6_tellLives 94 = .ok (.goto (-71), 3) := by decide +kernel
theorem dX6_tellLives_97 : decode cX6_tellLives 97 = .ok (.return_, 1) := by decide +kernel
theorem dX6_liveAt_0 : decode cX6_liveAt 0 = .ok (.iconst 0, 1) := by decide +kernel
theorem dX6_liveAt_1 : decode cX6_liveAt 1 = .ok (.istore_n 2, 1) := by decide +kernel
theorem dX6_liveAt_2 : decode cX6_liveAt 2 = .ok (.iconst 0, 1) := by decide +kernel
theorem dX6_liveAt_3 : decode cX6_liveAt 3 = .ok (.istore_n 3, 1) := by decide +kernel
theorem dX6_liveAt_4 : decode cX6_liveAt 4 = .ok (.iload_n 3, 1) := by decide +kernel
theorem dX6_liveAt_5 : decode cX6_liveAt 5 = .ok (.bipush 6, 2) := by decide +kernel
theorem dX6_liveAt_7 : decode cX6_liveAt 7 = .ok (.if_icmp .ge 118, 3) := by decide +kernel
theorem dX6_liveAt_10 : decode cX6_liveAt 10 = .ok (.iload_n 1, 1) := by decide +kernel
theorem dX6_liveAt_11 : decode cX6_liveAt 11 = .ok (.iload_n 3, 1) := by decide +kernel
theorem dX6_liveAt_12 : decode cX6_liveAt 12 = .ok (.invokestatic 75, 3) := by decide +kernel
theorem dX6_liveAt_15 : decode cX6_liveAt 15 = .ok (.istore 4, 2) := by decide +kernel
theorem dX6_liveAt_17 : decode cX6_liveAt 17 = .ok (.aload_n 0, 1) := by decide +kernel
theorem dX6_liveAt_18 : decode cX6_liveAt 18 = .ok (.getfield 7, 3) := by decide +kernel
theorem dX6_liveAt_21 : decode cX6_liveAt 21 = .ok (.iload 4, 2) := by decide +kernel
theorem dX6_liveAt_23 : decode cX6_liveAt 23 = .ok (.iconst 1, 1) := by decide +kernel
theorem dX6_liveAt_24 : decode cX6_liveAt 24 = .ok (.iadd, 1) := by decide +kernel
theorem dX6_liveAt_25 : decode cX6_liveAt 25 = .ok (.iaload, 1) := by decide +kernel
theorem dX6_liveAt_26 : decode cX6_liveAt 26 = .ok (.istore 5, 2) := by decide +kernel
theorem dX6_liveAt_28 : decode cX6_liveAt 28 = .ok (.aload_n 0, 1) := by decide +kernel
theorem dX6_liveAt_29 : decode cX6_liveAt 29 = .ok (.iload_n 1, 1) := by decide +kernel
theorem dX6_liveAt_30 : decode cX6_liveAt 30 = .ok (.iload_n 3, 1) := by decide +kernel
theorem dX6_liveAt_31 : decode cX6_liveAt 31 = .ok (.invokevirtual 146, 3) := by decide +kernel
theorem dX6_liveAt_34 : decode cX6_liveAt 34 = .ok (.ifCond .eq 85, 3) := by decide +kernel
theorem dX6_liveAt_37 : decode cX6_liveAt 37 = .ok (.aload_n 0, 1) := by decide +kernel
theorem dX6_liveAt_38 : decode cX6_liveAt 38 = .ok (.iload 5, 2) := by decide +kernel
theorem dX6_liveAt_40 : decode cX6_liveAt 40 = .ok (.invokevirtual 137, 3) := by decide +kernel
theorem dX6_liveAt_43 : decode cX6_liveAt 43 = .ok (.ifCond .eq 76, 3) := by decide +kernel
theorem dX6_liveAt_46 : decode cX6_liveAt 46 = .ok (.aload_n 0, 1) := by decide +kernel
theorem dX6_liveAt_47 : decode cX6_liveAt 47 = .ok (.bipush 10, 2) := by decide +kernel
theorem dX6_liveAt_49 : decode cX6_liveAt 49 = .ok (.iload 5, 2) := by decide +kernel
theorem dX6_liveAt_51 : decode cX6_liveAt 51 = .ok (.imul, 1) := by decide +kernel
theorem dX6_liveAt_52 : decode cX6_liveAt 52 = .ok (.iconst 2, 1) := by decide +kernel
theorem dX6_liveAt_53 : decode cX6_liveAt 53 = .ok (.iadd, 1) := by decide +kernel
theorem dX6_liveAt_54 : decode cX6_liveAt 54 = .ok (.invokevirtual 152, 3) := by decide +kernel
theorem dX6_liveAt_57 : decode cX6_liveAt 57 = .ok (.aload_n 0, 1) := by decide +kernel
theorem dX6_liveAt_58 : decode cX6_liveAt 58 = .ok (.getfield 50, 3) := by decide +kernel
theorem dX6_liveAt_61 : decode cX6_liveAt 61 = .ok (.iload 5, 2) := by decide +kernel
theorem dX6_liveAt_63 : decode cX6_liveAt 63 = .ok (.iaload, 1) := by decide +kernel
theorem dX6_liveAt_64 : decode cX6_liveAt 64 = .ok (.aload_n 0, 1) := by decide +kernel
theorem dX6_liveAt_65 : decode cX6_liveAt 65 = .ok (.getfield 7, 3) := by decide +kernel
theorem dX6_liveAt_68 : decode cX6_liveAt 68 = .ok (.bipush 10, 2) := by decide +kernel
theorem dX6_liveAt_70 : decode cX6_liveAt 70 = .ok (.iload 5, 2) := by decide +kernel
theorem dX6_liveAt_72 : decode cX6_liveAt 72 = .ok (.imul, 1) := by decide +kernel
theorem dX6_liveAt_73 : decode cX6_liveAt 73 = .ok (.iconst 1, 1) := by decide +kernel
theorem dX6_liveAt_74 : decode cX6_liveAt 74 = .ok (.iadd, 1) := by decide +kernel
theorem dX6_liveAt_75 : decode cX6_liveAt 75 = .ok (.iaload, 1) := by decide +kernel
theorem dX6_liveAt_76 : decode cX6_liveAt 76 = .ok (.iconst (-1), 1) := by decide +kernel
theorem dX6_liveAt_77 : decode cX6_liveAt 77 = .ok (.ixor, 1) := by decide +kernel
theorem dX6_liveAt_78 : decode cX6_liveAt 78 = .ok (.iand, 1) := by decide +kernel
theorem dX6_liveAt_79 : decode cX6_liveAt 79 = .ok (.ior, 1) := by decide +kernel
theorem dX6_liveAt_80 : decode cX6_liveAt 80 = .ok (.istore 6, 2) := by decide +kernel
theorem dX6_liveAt_82 : decode cX6_liveAt 82 = .ok (.iload_n 2, 1) := by decide +kernel
theorem dX6_liveAt_83 : decode cX6_liveAt 83 = .ok (.aload_n 0, 1) := by decide +kernel
theorem dX6_liveAt_84 : decode cX6_liveAt 84 = .ok (.iload 4, 2) := by decide +kernel
theorem dX6_liveAt_86 : decode cX6_liveAt 86 = .ok (.bipush 6, 2) := by decide +kernel
theorem dX6_liveAt_88 : decode cX6_liveAt 88 = .ok (.iadd, 1) := by decide +kernel
theorem dX6_liveAt_89 : decode cX6_liveAt 89 = .ok (.invokevirtual 152, 3) := by decide +kernel
theorem dX6_liveAt_92 : decode cX6_liveAt 92 = .ok (.iload 6, 2) := by decide +kernel
theorem dX6_liveAt_94 : decode cX6_liveAt 94 = .ok (.aload_n 0, 1) := by decide +kernel
theorem dX6_liveAt_95 : decode cX6_liveAt 95 = .ok (.getfield 7, 3) := by decide +kernel
theorem dX6_liveAt_98 : decode cX6_liveAt 98 = .ok (.iload 4, 2) := by decide +kernel
theorem dX6_liveAt_100 : decode cX6_liveAt 100 = .ok (.iconst 2, 1) := by decide +kernel
theorem dX6_liveAt_101 : decode cX6_liveAt 101 = .ok (.iadd, 1) := by decide +kernel
theorem dX6_liveAt_102 : decode cX6_liveAt 102 = .ok (.iaload, 1) := by decide +kernel
theorem dX6_liveAt_103 : decode cX6_liveAt 103 = .ok (.aload_n 0, 1) := by decide +kernel
theorem dX6_liveAt_104 : decode cX6_liveAt 104 = .ok (.getfield 7, 3) := by decide +kernel
theorem dX6_liveAt_107 : decode cX6_liveAt 107 = .ok (.iload 4, 2) := by decide +kernel
theorem dX6_liveAt_109 : decode cX6_liveAt 109 = .ok (.iconst 3, 1) := by decide +kernel
theorem dX6_liveAt_110 : decode cX6_liveAt 110 = .ok (.iadd, 1) := by decide +kernel
theorem dX6_liveAt_111 : decode cX6_liveAt 111 = .ok (.iaload, 1) := by decide +kernel
theorem dX6_liveAt_112 : decode cX6_liveAt 112 = .ok (.ior, 1) := by decide +kernel
theorem dX6_liveAt_113 : decode cX6_liveAt 113 = .ok (.iconst (-1), 1) := by decide +kernel
theorem dX6_liveAt_114 : decode cX6_liveAt 114 = .ok (.ixor, 1) := by decide +kernel
theorem dX6_liveAt_115 : decode cX6_liveAt 115 = .ok (.iand, 1) := by decide +kernel
theorem dX6_liveAt_116 : decode cX6_liveAt 116 = .ok (.ior, 1) := by decide +kernel
theorem dX6_liveAt_117 : decode cX6_liveAt 117 = .ok (.ior, 1) := by decide +kernel
theorem dX6_liveAt_118 : decode cX6_liveAt 118 = .ok (.istore_n 2, 1) := by decide +kernel
theorem dX6_liveAt_119 : decode cX6_liveAt 119 = .ok (.iinc 3 1, 3) := by decide +kernel
theorem dX6_liveAt_122 : decode cX6_liveAt 122 = .ok (.goto (-118), 3) := by decide +kernel
theorem dX6_liveAt_125 : decode cX6_liveAt 125 = .ok (.iload_n 2, 1) := by decide +kernel
theorem dX6_liveAt_126 : decode cX6_liveAt 126 = .ok (.ireturn, 1) := by decide +kernel
theorem dX6_states_0 : decode cX6_states 0 = .ok (.iload_n 1, 1) := by decide +kernel
theorem dX6_states_1 : decode cX6_states 1 = .ok (.iconst 0, 1) := by decide +kernel
theorem dX6_states_2 : decode cX6_states 2 = .ok (.iconst 4, 1) := by decide +kernel
theorem dX6_states_3 : decode cX6_states 3 = .ok (.invokestatic 67, 3) := by decide +kernel
theorem dX6_states_6 : decode cX6_states 6 = .ok (.ifCond .ne 7, 3) := by decide +kernel
theorem dX6_states_9 : decode cX6_states 9 = .ok (.sipush (-1002), 3) := by decide +kernel
theorem dX6_states_12 : decode cX6_states 12 = .ok (.ireturn, 1) := by decide +kernel
theorem dX6_states_13 : decode cX6_states 13 = .ok (.aload_n 0, 1) := by decide +kernel
theorem dX6_states_14 : decode cX6_states 14 = .ok (.invokevirtual 179, 3) := by decide +kernel
theorem dX6_states_17 : decode cX6_states 17 = .ok (.iload_n 1, 1) := by decide +kernel
theorem dX6_states_18 : decode cX6_states 18 = .ok (.iconst 3, 1) := by decide +kernel
theorem dX6_states_19 : decode cX6_states 19 = .ok (.if_icmp .ne 7, 3) := by decide +kernel
theorem dX6_states_22 : decode cX6_states 22 = .ok (.aload_n 0, 1) := by decide +kernel
theorem dX6_states_23 : decode cX6_states 23 = .ok (.invokevirtual 181, 3) := by decide +kernel
theorem dX6_states_26 : decode cX6_states 26 = .ok (.iload_n 1, 1) := by decide +kernel
theorem dX6_states_27 : decode cX6_states 27 = .ok (.iconst 4, 1) := by decide +kernel
theorem dX6_states_28 : decode cX6_states 28 = .ok (.if_icmp .ne 7, 3) := by decide +kernel
theorem dX6_states_31 : decode cX6_states 31 = .ok (.aload_n 0, 1) := by decide +kernel
theorem dX6_states_32 : decode cX6_states 32 = .ok (.invokevirtual 184, 3) := by decide +kernel
theorem dX6_states_35 : decode cX6_states 35 = .ok (.iconst 0, 1) := by decide +kernel
theorem dX6_states_36 : decode cX6_states 36 = .ok (.istore_n 2, 1) := by decide +kernel
theorem dX6_states_37 : decode cX6_states 37 = .ok (.iload_n 2, 1) := by decide +kernel
theorem dX6_states_38 : decode cX6_states 38 = .ok (.sipush 5120, 3) := by decide +kernel
theorem dX6_states_41 : decode cX6_states 41 = .ok (.if_icmp .ge 16, 3) := by decide +kernel
theorem dX6_states_44 : decode cX6_states 44 = .ok (.aload_n 0, 1) := by decide +kernel
theorem dX6_states_45 : decode cX6_states 45 = .ok (.getfield 53, 3) := by decide +kernel
theorem dX6_states_48 : decode cX6_states 48 = .ok (.iload_n 2, 1) := by decide +kernel
theorem dX6_states_49 : decode cX6_states 49 = .ok (.iconst 0, 1) := by decide +kernel
theorem dX6_states_50 : decode cX6_states 50 = .ok (.bastore, 1) := by decide +kernel
theorem dX6_states_51 : decode cX6_states 51 = .ok (.iinc 2 1, 3) := by decide +kernel
theorem dX6_states_54 : decode cX6_states 54 = .ok (.goto (-17), 3) := by decide +kernel
theorem dX6_states_57 : decode cX6_states 57 = .ok (.iconst 0, 1) := by decide +kernel
theorem dX6_states_58 : decode cX6_states 58 = .ok (.istore_n 2, 1) := by decide +kernel
theorem dX6_states_59 : decode cX6_states 59 = .ok (.iconst 0, 1) := by decide +kernel
theorem dX6_states_60 : decode cX6_states 60 = .ok (.istore_n 3, 1) := by decide +kernel
theorem dX6_states_61 : decode cX6_states 61 = .ok (.iload_n 3, 1) := by decide +kernel
theorem dX6_states_62 : decode cX6_states 62 = .ok (.aload_n 0, 1) := by decide +kernel
theorem dX6_states_63 : decode cX6_states 63 = .ok (.getfield 165, 3) := by decide +kernel
theorem dX6_states_66 : decode cX6_states 66 = .ok (.if_icmp .ge 142, 3) := by decide +kernel
theorem dX6_states_69 : decode cX6_states 69 = .ok (.aload_n 0, 1) := by decide +kernel
theorem dX6_states_70 : decode cX6_states 70 = .ok (.getfield 44, 3) := by decide +kernel
theorem dX6_states_73 : decode cX6_states 73 = .ok (.iload_n 3, 1) := by decide +kernel
theorem dX6_states_74 : decode cX6_states 74 = .ok (.iaload, 1) := by decide +kernel
theorem dX6_states_75 : decode cX6_states 75 = .ok (.istore 4, 2) := by decide +kernel
theorem dX6_states_77 : decode cX6_states 77 = .ok (.iload 4, 2) := by decide +kernel
theorem dX6_states_79 : decode cX6_states 79 = .ok (.sipush 256, 3) := by decide +kernel
theorem dX6_states_82 : decode cX6_states 82 = .ok (.idiv, 1) := by decide +kernel
theorem dX6_states_83 : decode cX6_states 83 = .ok (.sipush 256, 3) := by decide +kernel
theorem dX6_states_86 : decode cX6_states 86 = .ok (.imul, 1) := by decide +kernel
theorem dX6_states_87 : decode cX6_states 87 = .ok (.iload 4, 2) := by decide +kernel
theorem dX6_states_89 : decode cX6_states 89 = .ok (.sipush 256, 3) := by decide +kernel
theorem dX6_states_92 : decode cX6_states 92 = .ok (.irem, 1) := by decide +kernel
theorem dX6_states_93 : decode cX6_states 93 = .ok (.aload_n 0, 1) := by decide +kernel
theorem dX6_states_94 : decode cX6_states 94 = .ok (.getfield 50, 3) := by decide +kernel
theorem dX6_states_97 : decode cX6_states 97 = .ok (.iload 4, 2) := by decide +kernel
theorem dX6_states_99 : decode cX6_states 99 = .ok (.sipush 256, 3) := by decide +kernel
theorem dX6_states_102 : decode cX6_states 102 = .ok (.idiv, 1) := by decide +kernel
theorem dX6_states_103 : decode cX6_states 103 = .ok (.iaload, 1) := by decide +kernel
theorem dX6_states_104 : decode cX6_states 104 = .ok (.iand, 1) := by decide +kernel
theorem dX6_states_105 : decode cX6_states 105 = .ok (.iadd, 1) := by decide +kernel
theorem dX6_states_106 : decode cX6_states 106 = .ok (.istore 5, 2) := by decide +kernel
theorem dX6_states_108 : decode cX6_states 108 = .ok (.iload_n 1, 1) := by decide +kernel
theorem dX6_states_109 : decode cX6_states 109 = .ok (.ifCond .eq 65, 3) := by decide +kernel
theorem dX6_states_112 : decode cX6_states 112 = .ok (.iload_n 1, 1) := by decide +kernel
theorem dX6_states_113 : decode cX6_states 113 = .ok (.iconst 1, 1) := by decide +kernel
theorem dX6_states_114 : decode cX6_states 114 = .ok (.if_icmp .ne 16, 3) := by decide +kernel
theorem dX6_states_117 : decode cX6_states 117 = .ok (.aload_n 0, 1) := by decide +kernel
theorem dX6_states_118 : decode cX6_states 118 = .ok (.iload 4, 2) := by decide +kernel
theorem dX6_states_120 : decode cX6_states 120 = .ok (.sipush 256, 3) := by decide +kernel
theorem dX6_states_123 : decode cX6_states 123 = .ok (.idiv, 1) := by decide +kernel
theorem dX6_states_124 : decode cX6_states 124 = .ok (.invokevirtual 158, 3) := by decide +kernel
theorem dX6_states_127 : decode cX6_states 127 = .ok (.ifCond .ne 47, 3) := by decide +kernel
theorem dX6_states_130 : decode cX6_states 130 = .ok (.iload_n 1, 1) := by decide +kernel
theorem dX6_states_131 : decode cX6_states 131 = .ok (.iconst 2, 1) := by decide +kernel
theorem dX6_states_132 : decode cX6_states 132 = .ok (.if_icmp .ne 12, 3) := by decide +kernel
theorem dX6_states_135 : decode cX6_states 135 = .ok (.aload_n 0, 1) := by decide +kernel
theorem dX6_states_136 : decode cX6_states 136 = .ok (.iload 4, 2) := by decide +kernel
theorem dX6_states_138 : decode cX6_states 138 = .ok (.invokevirtual 187, 3) := by decide +kernel
theorem dX6_states_141 : decode cX6_states 141 = .ok (.ifCond .ne 33, 3) := by decide +kernel
theorem dX6_states_144 : decode cX6_states 144 = .ok (.iload_n 1, 1) := by decide +kernel
theorem dX6_states_145 : decode cX6_states 145 = .ok (.iconst 3, 1) := by decide +kernel
theorem dX6_states_146 : decode cX6_states 146 = .ok (.if_icmp .ne 13, 3) := by decide +kernel
theorem dX6_states_149 : decode cX6_states 149 = .ok (.aload_n 0, 1) := by decide +kernel
theorem dX6_states_150 : decode cX6_states 150 = .ok (.getfield 47, 3) := by decide +kernel
theorem dX6_states_153 : decode cX6_states 153 = .ok (.iload 4, 2) := by decide +kernel
theorem dX6_states_155 : decode cX6_states 155 = .ok (.baload, 1) := by decide +kernel
theorem dX6_states_156 : decode cX6_states 156 = .ok (.ifCond .eq 18, 3) := by decide +kernel
theorem dX6_states_159 : decode cX6_states 159 = .ok (.iload_n 1, 1) := by decide +kernel
theorem dX6_states_160 : decode cX6_states 160 = .ok (.iconst 4, 1) := by decide +kernel
theorem dX6_states_161 : decode cX6_states 161 = .ok (.if_icmp .ne 17, 3) := by decide +kernel
theorem dX6_states_164 : decode cX6_states 164 = .ok (.aload_n 0, 1) := by decide +kernel
theorem dX6_states_165 : decode cX6_states 165 = .ok (.getfield 53, 3) := by decide +kernel
theorem dX6_states_168 : decode cX6_states 168 = .ok (.iload 5, 2) := by decide +kernel
theorem dX6_states_170 : decode cX6_states 170 = .ok (.baload, 1) := by decide +kernel
theorem dX6_states_171 : decode cX6_states 171 = .ok (.ifCond .ne 7, 3) := by decide +kernel
theorem dX6_states_174 : decode cX6_states 174 = .ok (.iconst 1, 1) := by decide +kernel
theorem dX6_states_175 : decode cX6_states 175 = .ok (.goto 4, 3) := by decide +kernel
theorem dX6_states_178 : decode cX6_states 178 = .ok (.iconst 0, 1) := by decide +kernel
theorem dX6_states_179 : decode cX6_states 179 = .ok (.istore 6, 2) := by decide +kernel
theorem dX6_states_181 : decode cX6_states 181 = .ok (.aload_n 0, 1) := by decide +kernel
theorem dX6_states_182 : decode cX6_states 182 = .ok (.getfield 53, 3) := by decide +kernel
theorem dX6_states_185 : decode cX6_states 185 = .ok (.iload 5, 2) := by decide +kernel
theorem dX6_states_187 : decode cX6_states 187 = .ok (.iconst 1, 1) := by decide +kernel
theorem dX6_states_188 : decode cX6_states 188 = .ok (.bastore, 1) := by decide +kernel
theorem dX6_states_189 : decode cX6_states 189 = .ok (.iload_n 2, 1) := by decide +kernel
theorem dX6_states_190 : decode cX6_states 190 = .ok (.iload 6, 2) := by decide +kernel
theorem dX6_states_192 : decode cX6_states 192 = .ok (.ifCond .eq 7, 3) := by decide +kernel
theorem dX6_states_195 : decode cX6_states 195 = .ok (.iconst 1, 1) := by decide +kernel
theorem dX6_states_196 : decode cX6_states 196 = .ok (.goto 4, 3) := by decide +kernel
theorem dX6_states_199 : decode cX6_states 199 = .ok (.iconst 0, 1) := by decide +kernel
theorem dX6_states_200 : decode cX6_states 200 = .ok (.iadd, 1) := by decide +kernel
theorem dX6_states_201 : decode cX6_states 201 = .ok (.istore_n 2, 1) := by decide +kernel
theorem dX6_states_202 : decode cX6_states 202 = .ok (.iinc 3 1, 3) := by decide +kernel
theorem dX6_states_205 : decode cX6_states 205 = .ok (.goto (-144), 3) := by decide +kernel
theorem dX6_states_208 : decode cX6_states 208 = .ok (.iload_n 2, 1) := by decide +kernel
theorem dX6_states_209 : decode cX6_states 209 = .ok (.ireturn, 1) := by decide +kernel
theorem dX6_reached_0 : decode cX6_reached 0 = .ok (.iload_n 1, 1) := by decide +kernel
theorem dX6_reached_1 : decode cX6_reached 1 = .ok (.invokestatic 71, 3) := by decide +kernel
theorem dX6_reached_4 : decode cX6_reached 4 = .ok (.ifCond .ne 7, 3) := by decide +kernel
theorem dX6_reached_7 : decode cX6_reached 7 = .ok (.sipush (-1002), 3) := by decide +kernel
theorem dX6_reached_10 : decode cX6_reached 10 = .ok (.ireturn, 1) := by decide +kernel
theorem dX6_reached_11 : decode cX6_reached 11 = .ok (.aload_n 0, 1) := by decide +kernel
theorem dX6_reached_12 : decode cX6_reached 12 = .ok (.invokevirtual 179, 3) := by decide +kernel
theorem dX6_reached_15 : decode cX6_reached 15 = .ok (.iconst 0, 1) := by decide +kernel
theorem dX6_reached_16 : decode cX6_reached 16 = .ok (.istore_n 2, 1) := by decide +kernel
theorem dX6_reached_17 : decode cX6_reached 17 = .ok (.iconst 0, 1) := by decide +kernel
theorem dX6_reached_18 : decode cX6_reached 18 = .ok (.istore_n 3, 1) := by decide +kernel
theorem dX6_reached_19 : decode cX6_reached 19 = .ok (.iload_n 3, 1) := by decide +kernel
theorem dX6_reached_20 : decode cX6_reached 20 = .ok (.sipush 256, 3) := by decide +kernel
theorem dX6_reached_23 : decode cX6_reached 23 = .ok (.if_icmp .ge 32, 3) := by decide +kernel
theorem dX6_reached_26 : decode cX6_reached 26 = .ok (.iload_n 2, 1) := by decide +kernel
theorem dX6_reached_27 : decode cX6_reached 27 = .ok (.aload_n 0, 1) := by decide +kernel
theorem dX6_reached_28 : decode cX6_reached 28 = .ok (.getfield 41, 3) := by decide +kernel
theorem dX6_reached_31 : decode cX6_reached 31 = .ok (.sipush 256, 3) := by decide +kernel
theorem dX6_reached_34 : decode cX6_reached 34 = .ok (.iload_n 1, 1) := by decide +kernel
theorem dX6_reached_35 : decode cX6_reached 35 = .ok (.imul, 1) := by decide +kernel
theorem dX6_reached_36 : decode cX6_reached 36 = .ok (.iload_n 3, 1) := by decide +kernel
theorem dX6_reached_37 : decode cX6_reached 37 = .ok (.iadd, 1) := by decide +kernel
theorem dX6_reached_38 : decode cX6_reached 38 = .ok (.iaload, 1) := by decide +kernel
theorem dX6_reached_39 : decode cX6_reached 39 = .ok (.ifCond .lt 7, 3) := by decide +kernel
theorem dX6_reached_42 : decode cX6_reached 42 = .ok (.iconst 1, 1) := by decide +kernel
theorem dX6_reached_43 : decode cX6_reached 43 = .ok (.goto 4, 3) := by decide +kernel
theorem dX6_reached_46 : decode cX6_reached 46 = .ok (.iconst 0, 1) := by decide +kernel
theorem dX6_reached_47 : decode cX6_reached 47 = .ok (.iadd, 1) := by decide +kernel
theorem dX6_reached_48 : decode cX6_reached 48 = .ok (.istore_n 2, 1) := by decide +kernel
theorem dX6_reached_49 : decode cX6_reached 49 = .ok (.iinc 3 1, 3) := by decide +kernel
theorem dX6_reached_52 : decode cX6_reached 52 = .ok (.goto (-33), 3) := by decide +kernel
theorem dX6_reached_55 : decode cX6_reached 55 = .ok (.iload_n 2, 1) := by decide +kernel
theorem dX6_reached_56 : decode cX6_reached 56 = .ok (.ireturn, 1) := by decide +kernel
theorem dX6_live_0 : decode cX6_live 0 = .ok (.iload_n 1, 1) := by decide +kernel
theorem dX6_live_1 : decode cX6_live 1 = .ok (.invokestatic 71, 3) := by decide +kernel
theorem dX6_live_4 : decode cX6_live 4 = .ok (.ifCond .ne 7, 3) := by decide +kernel
theorem dX6_live_7 : decode cX6_live 7 = .ok (.sipush (-1002), 3) := by decide +kernel
theorem dX6_live_10 : decode cX6_live 10 = .ok (.ireturn, 1) := by decide +kernel
theorem dX6_live_11 : decode cX6_live 11 = .ok (.aload_n 0, 1) := by decide +kernel
theorem dX6_live_12 : decode cX6_live 12 = .ok (.iload_n 1, 1) := by decide +kernel
theorem dX6_live_13 : decode cX6_live 13 = .ok (.invokevirtual 137, 3) := by decide +kernel
theorem dX6_live_16 : decode cX6_live 16 = .ok (.ifCond .ne 11, 3) := by decide +kernel
theorem dX6_live_19 : decode cX6_live 19 = .ok (.aload_n 0, 1) := by decide +kernel
theorem dX6_live_20 : decode cX6_live 20 = .ok (.sipush (-1010), 3) := by decide +kernel
theorem dX6_live_23 : decode cX6_live 23 = .ok (.invokevirtual 140, 3) := by decide +kernel
theorem dX6_live_26 : decode cX6_live 26 = .ok (.ireturn, 1) := by decide +kernel
theorem dX6_live_27 : decode cX6_live 27 = .ok (.aload_n 0, 1) := by decide +kernel
theorem dX6_live_28 : decode cX6_live 28 = .ok (.invokevirtual 184, 3) := by decide +kernel
theorem dX6_live_31 : decode cX6_live 31 = .ok (.aload_n 0, 1) := by decide +kernel
theorem dX6_live_32 : decode cX6_live 32 = .ok (.getfield 50, 3) := by decide +kernel
theorem dX6_live_35 : decode cX6_live 35 = .ok (.iload_n 1, 1) := by decide +kernel
theorem dX6_live_36 : decode cX6_live 36 = .ok (.iaload, 1) := by decide +kernel
theorem dX6_live_37 : decode cX6_live 37 = .ok (.ireturn, 1) := by decide +kernel
theorem dX6_open_0 : decode cX6_open 0 = .ok (.iload_n 1, 1) := by decide +kernel
theorem dX6_open_1 : decode cX6_open 1 = .ok (.iload_n 2, 1) := by decide +kernel
theorem dX6_open_2 : decode cX6_open 2 = .ok (.invokestatic 143, 3) := by decide +kernel
theorem dX6_open_5 : decode cX6_open 5 = .ok (.ifCond .ne 7, 3) := by decide +kernel
theorem dX6_open_8 : decode cX6_open 8 = .ok (.sipush (-1002), 3) := by decide +kernel
theorem dX6_open_11 : decode cX6_open 11 = .ok (.ireturn, 1) := by decide +kernel
theorem dX6_open_12 : decode cX6_open 12 = .ok (.aload_n 0, 1) := by decide +kernel
theorem dX6_open_13 : decode cX6_open 13 = .ok (.iload_n 1, 1) := by decide +kernel
theorem dX6_open_14 : decode cX6_open 14 = .ok (.iload_n 2, 1) := by decide +kernel
theorem dX6_open_15 : decode cX6_open 15 = .ok (.invokevirtual 146, 3) := by decide +kernel
theorem dX6_open_18 : decode cX6_open 18 = .ok (.ifCond .ne 11, 3) := by decide +kernel
theorem dX6_open_21 : decode cX6_open 21 = .ok (.aload_n 0, 1) := by decide +kernel
theorem dX6_open_22 : decode cX6_open 22 = .ok (.sipush (-1010), 3) := by decide +kernel
theorem dX6_open_25 : decode cX6_open 25 = .ok (.invokevirtual 140, 3) := by decide +kernel
theorem dX6_open_28 : decode cX6_open 28 = .ok (.ireturn, 1) := by decide +kernel
theorem dX6_open_29 : decode cX6_open 29 = .ok (.aload_n 0, 1) := by decide +kernel
theorem dX6_open_30 : decode cX6_open 30 = .ok (.invokevirtual 179, 3) := by decide +kernel
theorem dX6_open_33 : decode cX6_open 33 = .ok (.iconst 0, 1) := by decide +kernel
theorem dX6_open_34 : decode cX6_open 34 = .ok (.istore_n 3, 1) := by decide +kernel
theorem dX6_open_35 : decode cX6_open 35 = .ok (.iconst 0, 1) := by decide +kernel
theorem dX6_open_36 : decode cX6_open 36 = .ok (.istore 4, 2) := by decide +kernel
theorem dX6_open_38 : decode cX6_open 38 = .ok (.iload 4, 2) := by decide +kernel
theorem dX6_open_40 : decode cX6_open 40 = .ok (.sipush 256, 3) := by decide +kernel
theorem dX6_open_43 : decode cX6_open 43 = .ok (.if_icmp .ge 50, 3) := by decide +kernel
theorem dX6_open_46 : decode cX6_open 46 = .ok (.iload_n 3, 1) := by decide +kernel
theorem dX6_open_47 : decode cX6_open 47 = .ok (.aload_n 0, 1) := by decide +kernel
theorem dX6_open_48 : decode cX6_open 48 = .ok (.getfield 41, 3) := by decide +kernel
theorem dX6_open_51 : decode cX6_open 51 = .ok (.sipush 256, 3) := by decide +kernel
theorem dX6_open_54 : decode cX6_open 54 = .ok (.iload_n 1, 1) := by decide +kernel
theorem dX6_open_55 : decode cX6_open 55 = .ok (.imul, 1) := by decide +kernel
theorem dX6_open_56 : decode cX6_open 56 = .ok (.iload 4, 2) := by decide +kernel
theorem dX6_open_58 : decode cX6_open 58 = .ok (.iadd, 1) := by decide +kernel
theorem dX6_open_59 : decode cX6_open 59 = .ok (.iaload, 1) := by decide +kernel
theorem dX6_open_60 : decode cX6_open 60 = .ok (.ifCond .lt 24, 3) := by decide +kernel
theorem dX6_open_63 : decode cX6_open 63 = .ok (.aload_n 0, 1) := by decide +kernel
theorem dX6_open_64 : decode cX6_open 64 = .ok (.sipush 256, 3) := by decide +kernel
theorem dX6_open_67 : decode cX6_open 67 = .ok (.iload_n 1, 1) := by decide +kernel
theorem dX6_open_68 : decode cX6_open 68 = .ok (.imul, 1) := by decide +kernel
theorem dX6_open_69 : decode cX6_open 69 = .ok (.iload 4, 2) := by decide +kernel
theorem dX6_open_71 : decode cX6_open 71 = .ok (.iadd, 1) := by decide +kernel
theorem dX6_open_72 : decode cX6_open 72 = .ok (.iload_n 2, 1) := by decide +kernel
theorem dX6_open_73 : decode cX6_open 73 = .ok (.iconst 1, 1) := by decide +kernel
theorem dX6_open_74 : decode cX6_open 74 = .ok (.invokevirtual 168, 3) := by decide +kernel
theorem dX6_open_77 : decode cX6_open 77 = .ok (.ifCond .lt 7, 3) := by decide +kernel
theorem dX6_open_80 : decode cX6_open 80 = .ok (.iconst 1, 1) := by decide +kernel
theorem dX6_open_81 : decode cX6_open 81 = .ok (.goto 4, 3) := by decide +kernel
theorem dX6_open_84 : decode cX6_open 84 = .ok (.iconst 0, 1) := by decide +kernel
theorem dX6_open_85 : decode cX6_open 85 = .ok (.iadd, 1) := by decide +kernel
theorem dX6_open_86 : decode cX6_open 86 = .ok (.istore_n 3, 1) := by decide +kernel
theorem dX6_open_87 : decode cX6_open 87 = .ok (.iinc 4 1, 3) := by decide +kernel
theorem dX6_open_90 : decode cX6_open 90 = .ok (.goto (-52), 3) := by decide +kernel
theorem dX6_open_93 : decode cX6_open 93 = .ok (.iload_n 3, 1) := by decide +kernel
theorem dX6_open_94 : decode cX6_open 94 = .ok (.ireturn, 1) := by decide +kernel
theorem dX6_isTrap_0 : decode cX6_isTrap 0 = .ok (.iconst 0, 1) := by decide +kernel
theorem dX6_isTrap_1 : decode cX6_isTrap 1 = .ok (.istore_n 3, 1) := by decide +kernel
theorem dX6_isTrap_2 : decode cX6_isTrap 2 = .ok (.iconst 0, 1) := by decide +kernel
theorem dX6_isTrap_3 : decode cX6_isTrap 3 = .ok (.istore 4, 2) := by decide +kernel
theorem dX6_isTrap_5 : decode cX6_isTrap 5 = .ok (.iload 4, 2) := by decide +kernel
theorem dX6_isTrap_7 : decode cX6_isTrap 7 = .ok (.sipush 256, 3) := by decide +kernel
theorem dX6_isTrap_10 : decode cX6_isTrap 10 = .ok (.if_icmp .ge 66, 3) := by decide +kernel
theorem dX6_isTrap_13 : decode cX6_isTrap 13 = .ok (.sipush 256, 3) := by decide +kernel
theorem dX6_isTrap_16 : decode cX6_isTrap 16 = .ok (.iload_n 1, 1) := by decide +kernel
theorem dX6_isTrap_17 : decode cX6_isTrap 17 = .ok (.imul, 1) := by decide +kernel
theorem dX6_isTrap_18 : decode cX6_isTrap 18 = .ok (.iload 4, 2) := by decide +kernel
theorem dX6_isTrap_20 : decode cX6_isTrap 20 = .ok (.iadd, 1) := by decide +kernel
theorem dX6_isTrap_21 : decode cX6_isTrap 21 = .ok (.istore 5, 2) := by decide +kernel
theorem dX6_isTrap_23 : decode cX6_isTrap 23 = .ok (.aload_n 0, 1) := by decide +kernel
theorem dX6_isTrap_24 : decode cX6_isTrap 24 = .ok (.getfield 47, 3) := by decide +kernel
theorem dX6_isTrap_27 : decode cX6_isTrap 27 = .ok (.iload 5, 2) := by decide +kernel
theorem dX6_isTrap_29 : decode cX6_isTrap 29 = .ok (.baload, 1) := by decide +kernel
theorem dX6_isTrap_30 : decode cX6_isTrap 30 = .ok (.ifCond .eq 14, 3) := by decide +kernel
theorem dX6_isTrap_33 : decode cX6_isTrap 33 = .ok (.aload_n 0, 1) := by decide +kernel
theorem dX6_isTrap_34 : decode cX6_isTrap 34 = .ok (.iload 5, 2) := by decide +kernel
theorem dX6_isTrap_36 : decode cX6_isTrap 36 = .ok (.iload_n 2, 1) := by decide +kernel
theorem dX6_isTrap_37 : decode cX6_isTrap 37 = .ok (.iconst 1, 1) := by decide +kernel
theorem dX6_isTrap_38 : decode cX6_isTrap 38 = .ok (.invokevirtual 168, 3) := by decide +kernel
theorem dX6_isTrap_41 : decode cX6_isTrap 41 = .ok (.goto 4, 3) := by decide +kernel
theorem dX6_isTrap_44 : decode cX6_isTrap 44 = .ok (.iconst (-1), 1) := by decide +kernel
theorem dX6_isTrap_45 : decode cX6_isTrap 45 = .ok (.istore 6, 2) := by decide +kernel
theorem dX6_isTrap_47 : decode cX6_isTrap 47 = .ok (.iload_n 3, 1) := by decide +kernel
theorem dX6_isTrap_48 : decode cX6_isTrap 48 = .ok (.iload 6, 2) := by decide +kernel
theorem dX6_isTrap_50 : decode cX6_isTrap 50 = .ok (.ifCond .lt 17, 3) := by decide +kernel
theorem dX6_isTrap_53 : decode cX6_isTrap 53 = .ok (.aload_n 0, 1) := by decide +kernel
theorem dX6_isTrap_54 : decode cX6_isTrap 54 = .ok (.getfield 47, 3) := by decide +kernel
theorem dX6_isTrap_57 : decode cX6_isTrap 57 = .ok (.iload 6, 2) := by decide +kernel
theorem dX6_isTrap_59 : decode cX6_isTrap 59 = .ok (.baload, 1) := by decide +kernel
theorem dX6_isTrap_60 : decode cX6_isTrap 60 = .ok (.ifCond .ne 7, 3) := by decide +kernel
theorem dX6_isTrap_63 : decode cX6_isTrap 63 = .ok (.iconst 1, 1) := by decide +kernel
theorem dX6_isTrap_64 : decode cX6_isTrap 64 = .ok (.goto 4, 3) := by decide +kernel
theorem dX6_isTrap_67 : decode cX6_isTrap 67 = .ok (.iconst 0, 1) := by decide +kernel
theorem dX6_isTrap_68 : decode cX6_isTrap 68 = .ok (.ior, 1) := by decide +kernel
theorem dX6_isTrap_69 : decode cX6_isTrap 69 = .ok (.istore_n 3, 1) := by decide +kernel
theorem dX6_isTrap_70 : decode cX6_isTrap 70 = .ok (.iinc 4 1, 3) := by decide +kernel
theorem dX6_isTrap_73 : decode cX6_isTrap 73 = .ok (.goto (-68), 3) := by decide +kernel
theorem dX6_isTrap_76 : decode cX6_isTrap 76 = .ok (.iload_n 3, 1) := by decide +kernel
theorem dX6_isTrap_77 : decode cX6_isTrap 77 = .ok (.ireturn, 1) := by decide +kernel
theorem dX6_trap_0 : decode cX6_trap 0 = .ok (.aload_n 0, 1) := by decide +kernel
theorem dX6_trap_1 : decode cX6_trap 1 = .ok (.invokevirtual 179, 3) := by decide +kernel
theorem dX6_trap_4 : decode cX6_trap 4 = .ok (.aload_n 0, 1) := by decide +kernel
theorem dX6_trap_5 : decode cX6_trap 5 = .ok (.invokevirtual 181, 3) := by decide +kernel
theorem dX6_trap_8 : decode cX6_trap 8 = .ok (.iconst 0, 1) := by decide +kernel
theorem dX6_trap_9 : decode cX6_trap 9 = .ok (.istore_n 2, 1) := by decide +kernel
theorem dX6_trap_10 : decode cX6_trap 10 = .ok (.iconst 0, 1) := by decide +kernel
theorem dX6_trap_11 : decode cX6_trap 11 = .ok (.istore_n 3, 1) := by decide +kernel
theorem dX6_trap_12 : decode cX6_trap 12 = .ok (.iload_n 3, 1) := by decide +kernel
theorem dX6_trap_13 : decode cX6_trap 13 = .ok (.bipush 20, 2) := by decide +kernel
theorem dX6_trap_15 : decode cX6_trap 15 = .ok (.if_icmp .ge 55, 3) := by decide +kernel
theorem dX6_trap_18 : decode cX6_trap 18 = .ok (.iload_n 1, 1) := by decide +kernel
theorem dX6_trap_19 : decode cX6_trap 19 = .ok (.ifCond .lt 51, 3) := by decide +kernel
theorem dX6_trap_22 : decode cX6_trap 22 = .ok (.iconst 0, 1) := by decide +kernel
theorem dX6_trap_23 : decode cX6_trap 23 = .ok (.istore 4, 2) := by decide +kernel
theorem dX6_trap_25 : decode cX6_trap 25 = .ok (.iload 4, 2) := by decide +kernel
theorem dX6_trap_27 : decode cX6_trap 27 = .ok (.bipush 6, 2) := by decide +kernel
theorem dX6_trap_29 : decode cX6_trap 29 = .ok (.if_icmp .ge 35, 3) := by decide +kernel
theorem dX6_trap_32 : decode cX6_trap 32 = .ok (.aload_n 0, 1) := by decide +kernel
theorem dX6_trap_33 : decode cX6_trap 33 = .ok (.iload_n 3, 1) := by decide +kernel
theorem dX6_trap_34 : decode cX6_trap 34 = .ok (.iload 4, 2) := by decide +kernel
theorem dX6_trap_36 : decode cX6_trap 36 = .ok (.invokevirtual 190, 3) := by decide +kernel
theorem dX6_trap_39 : decode cX6_trap 39 = .ok (.ifCond .eq 19, 3) := by decide +kernel
theorem dX6_trap_42 : decode cX6_trap 42 = .ok (.iload_n 2, 1) := by decide +kernel
theorem dX6_trap_43 : decode cX6_trap 43 = .ok (.iload_n 1, 1) := by decide +kernel
theorem dX6_trap_44 : decode cX6_trap 44 = .ok (.if_icmp .ne 11, 3) := by decide +kernel
theorem dX6_trap_47 : decode cX6_trap 47 = .ok (.bipush 10, 2) := by decide +kernel
theorem dX6_trap_49 : decode cX6_trap 49 = .ok (.iload_n 3, 1) := by decide +kernel
theorem dX6_trap_50 : decode cX6_trap 50 = .ok (.imul, 1) := by decide +kernel
theorem dX6_trap_51 : decode cX6_trap 51 = .ok (.iload 4, 2) := by decide +kernel
theorem dX6_trap_53 : decode cX6_trap 53 = .ok (.iadd, 1) := by decide +kernel
theorem dX6_trap_54 : decode cX6_trap 54 = .ok (.ireturn, 1) := by decide +kernel
theorem dX6_trap_55 : decode cX6_trap 55 = .ok (.iinc 2 1, 3) := by decide +kernel
theorem dX6_trap_58 : decode cX6_trap 58 = .ok (.iinc 4 1, 3) := by decide +kernel
theorem dX6_trap_61 : decode cX6_trap 61 = .ok (.goto (-36), 3) := by decide +kernel
theorem dX6_trap_64 : decode cX6_trap 64 = .ok (.iinc 3 1, 3) := by decide +kernel
theorem dX6_trap_67 : decode cX6_trap 67 = .ok (.goto (-55), 3) := by decide +kernel
theorem dX6_trap_70 : decode cX6_trap 70 = .ok (.sipush (-1003), 3) := by decide +kernel
theorem dX6_trap_73 : decode cX6_trap 73 = .ok (.ireturn, 1) := by decide +kernel
theorem dX6_nearest_0 : decode cX6_nearest 0 = .ok (.iconst (-1), 1) := by decide +kernel
theorem dX6_nearest_1 : decode cX6_nearest 1 = .ok (.istore_n 2, 1) := by decide +kernel
theorem dX6_nearest_2 : decode cX6_nearest 2 = .ok (.iconst 0, 1) := by decide +kernel
theorem dX6_nearest_3 : decode cX6_nearest 3 = .ok (.istore_n 3, 1) := by decide +kernel
theorem dX6_nearest_4 : decode cX6_nearest 4 = .ok (.iload_n 3, 1) := by decide +kernel
theorem dX6_nearest_5 : decode cX6_nearest 5 = .ok (.sipush 256, 3) := by decide +kernel
theorem dX6_nearest_8 : decode cX6_nearest 8 = .ok (.if_icmp .ge 45, 3) := by decide +kernel
theorem dX6_nearest_11 : decode cX6_nearest 11 = .ok (.aload_n 0, 1) := by decide +kernel
theorem dX6_nearest_12 : decode cX6_nearest 12 = .ok (.getfield 41, 3) := by decide +kernel
theorem dX6_nearest_15 : decode cX6_nearest 15 = .ok (.sipush 256, 3) := by decide +kernel
theorem dX6_nearest_18 : decode cX6_nearest 18 = .ok (.iload_n 1, 1) := by decide +kernel
theorem dX6_nearest_19 : decode cX6_nearest 19 = .ok (.imul, 1) := by decide +kernel
theorem dX6_nearest_20 : decode cX6_nearest 20 = .ok (.iload_n 3, 1) := by decide +kernel
theorem dX6_nearest_21 : decode cX6_nearest 21 = .ok (.iadd, 1) := by decide +kernel
theorem dX6_nearest_22 : decode cX6_nearest 22 = .ok (.iaload, 1) := by decide +kernel
theorem dX6_nearest_23 : decode cX6_nearest 23 = .ok (.istore 4, 2) := by decide +kernel
theorem dX6_nearest_25 : decode cX6_nearest 25 = .ok (.iload 4, 2) := by decide +kernel
theorem dX6_nearest_27 : decode cX6_nearest 27 = .ok (.ifCond .lt 18, 3) := by decide +kernel
theorem dX6_nearest_30 : decode cX6_nearest 30 = .ok (.iload_n 2, 1) := by decide +kernel
theorem dX6_nearest_31 : decode cX6_nearest 31 = .ok (.ifCond .lt 9, 3) := by decide +kernel
theorem dX6_nearest_34 : decode cX6_nearest 34 = .ok (.iload 4, 2) := by decide +kernel
theorem dX6_nearest_36 : decode cX6_nearest 36 = .ok (.iload_n 2, 1) := by decide +kernel
theorem dX6_nearest_37 : decode cX6_nearest 37 = .ok (.if_icmp .ge 8, 3) := by decide +kernel
theorem dX6_nearest_40 : decode cX6_nearest 40 = .ok (.iload 4, 2) := by decide +kernel
theorem dX6_nearest_42 : decode cX6_nearest 42 = .ok (.goto 4, 3) := by decide +kernel
theorem dX6_nearest_45 : decode cX6_nearest 45 = .ok (.iload_n 2, 1) := by decide +kernel
theorem dX6_nearest_46 : decode cX6_nearest 46 = .ok (.istore_n 2, 1) := by decide +kernel
theorem dX6_nearest_47 : decode cX6_nearest 47 = .ok (.iinc 3 1, 3) := by decide +kernel
theorem dX6_nearest_50 : decode cX6_nearest 50 = .ok (.goto (-46), 3) := by decide +kernel
theorem dX6_nearest_53 : decode cX6_nearest 53 = .ok (.iload_n 2, 1) := by decide +kernel
theorem dX6_nearest_54 : decode cX6_nearest 54 = .ok (.ireturn, 1) := by decide +kernel
theorem dX6_way_0 : decode cX6_way 0 = .ok (.iload_n 1, 1) := by decide +kernel
theorem dX6_way_1 : decode cX6_way 1 = .ok (.invokestatic 71, 3) := by decide +kernel
theorem dX6_way_4 : decode cX6_way 4 = .ok (.ifCond .ne 7, 3) := by decide +kernel
theorem dX6_way_7 : decode cX6_way 7 = .ok (.sipush (-1002), 3) := by decide +kernel
theorem dX6_way_10 : decode cX6_way 10 = .ok (.ireturn, 1) := by decide +kernel
theorem dX6_way_11 : decode cX6_way 11 = .ok (.aload_n 0, 1) := by decide +kernel
theorem dX6_way_12 : decode cX6_way 12 = .ok (.invokevirtual 179, 3) := by decide +kernel
theorem dX6_way_15 : decode cX6_way 15 = .ok (.aload_n 0, 1) := by decide +kernel
theorem dX6_way_16 : decode cX6_way 16 = .ok (.iload_n 1, 1) := by decide +kernel
theorem dX6_way_17 : decode cX6_way 17 = .ok (.invokevirtual 193, 3) := by decide +kernel
theorem dX6_way_20 : decode cX6_way 20 = .ok (.istore_n 2, 1) := by decide +kernel
theorem dX6_way_21 : decode cX6_way 21 = .ok (.iload_n 2, 1) := by decide +kernel
theorem dX6_way_22 : decode cX6_way 22 = .ok (.ifCond .ge 9, 3) := by decide +kernel
theorem dX6_way_25 : decode cX6_way 25 = .ok (.sipush (-1003), 3) := by decide +kernel
theorem dX6_way_28 : decode cX6_way 28 = .ok (.goto 4, 3) := by decide +kernel
theorem dX6_way_31 : decode cX6_way 31 = .ok (.iload_n 2, 1) := by decide +kernel
theorem dX6_way_32 : decode cX6_way 32 = .ok (.ireturn, 1) := by decide +kernel
theorem dX6_step_0 : decode cX6_step 0 = .ok (.iload_n 1, 1) := by decide +kernel
theorem dX6_step_1 : decode cX6_step 1 = .ok (.invokestatic 71, 3) := by decide +kernel
theorem dX6_step_4 : decode cX6_step 4 = .ok (.ifCond .eq 7, 3) := by decide +kernel
theorem dX6_step_7 : decode cX6_step 7 = .ok (.iload_n 2, 1) := by decide +kernel
theorem dX6_step_8 : decode cX6_step 8 = .ok (.ifCond .ge 7, 3) := by decide +kernel
theorem dX6_step_11 : decode cX6_step 11 = .ok (.sipush (-1002), 3) := by decide +kernel
theorem dX6_step_14 : decode cX6_step 14 = .ok (.ireturn, 1) := by decide +kernel
theorem dX6_step_15 : decode cX6_step 15 = .ok (.aload_n 0, 1) := by decide +kernel
theorem dX6_step_16 : decode cX6_step 16 = .ok (.invokevirtual 179, 3) := by decide +kernel
theorem dX6_step_19 : decode cX6_step 19 = .ok (.aload_n 0, 1) := by decide +kernel
theorem dX6_step_20 : decode cX6_step 20 = .ok (.iload_n 1, 1) := by decide +kernel
theorem dX6_step_21 : decode cX6_step 21 = .ok (.invokevirtual 193, 3) := by decide +kernel
theorem dX6_step_24 : decode cX6_step 24 = .ok (.istore_n 3, 1) := by decide +kernel
theorem dX6_step_25 : decode cX6_step 25 = .ok (.iload_n 3, 1) := by decide +kernel
theorem dX6_step_26 : decode cX6_step 26 = .ok (.ifCond .ge 7, 3) := by decide +kernel
theorem dX6_step_29 : decode cX6_step 29 = .ok (.sipush (-1003), 3) := by decide +kernel
theorem dX6_step_32 : decode cX6_step 32 = .ok (.ireturn, 1) := by decide +kernel
theorem dX6_step_33 : decode cX6_step 33 = .ok (.iload_n 2, 1) := by decide +kernel
theorem dX6_step_34 : decode cX6_step 34 = .ok (.iload_n 3, 1) := by decide +kernel
theorem dX6_step_35 : decode cX6_step 35 = .ok (.if_icmp .lt 5, 3) := by decide +kernel
theorem dX6_step_38 : decode cX6_step 38 = .ok (.iconst (-1), 1) := by decide +kernel
theorem dX6_step_39 : decode cX6_step 39 = .ok (.ireturn, 1) := by decide +kernel
theorem dX6_step_40 : decode cX6_step 40 = .ok (.iconst 0, 1) := by decide +kernel
theorem dX6_step_41 : decode cX6_step 41 = .ok (.istore 4, 2) := by decide +kernel
theorem dX6_step_43 : decode cX6_step 43 = .ok (.iload 4, 2) := by decide +kernel
theorem dX6_step_45 : decode cX6_step 45 = .ok (.sipush 5120, 3) := by decide +kernel
theorem dX6_step_48 : decode cX6_step 48 = .ok (.if_icmp .ge 42, 3) := by decide +kernel
theorem dX6_step_51 : decode cX6_step 51 = .ok (.aload_n 0, 1) := by decide +kernel
theorem dX6_step_52 : decode cX6_step 52 = .ok (.getfield 53, 3) := by decide +kernel
theorem dX6_step_55 : decode cX6_step 55 = .ok (.iload 4, 2) := by decide +kernel
theorem dX6_step_57 : decode cX6_step 57 = .ok (.iload 4, 2) := by decide +kernel
theorem dX6_step_59 : decode cX6_step 59 = .ok (.sipush 256, 3) := by decide +kernel
theorem dX6_step_62 : decode cX6_step 62 = .ok (.idiv, 1) := by decide +kernel
theorem dX6_step_63 : decode cX6_step 63 = .ok (.iload_n 1, 1) := by decide +kernel
theorem dX6_step_64 : decode cX6_step 64 = .ok (.if_icmp .ne 18, 3) := by decide +kernel
theorem dX6_step_67 : decode cX6_step 67 = .ok (.aload_n 0, 1) := by decide +kernel
theorem dX6_step_68 : decode cX6_step 68 = .ok (.getfield 41, 3) := by decide +kernel
theorem dX6_step_71 : decode cX6_step 71 = .ok (.iload 4, 2) := by decide +kernel
theorem dX6_step_73 : decode cX6_step 73 = .ok (.iaload, 1) := by decide +kernel
theorem dX6_step_74 : decode cX6_step 74 = .ok (.iload_n 3, 1) := by decide +kernel
theorem dX6_step_75 : decode cX6_step 75 = .ok (.if_icmp .ne 7, 3) := by decide +kernel
theorem dX6_step_78 : decode cX6_step 78 = .ok (.iconst 1, 1) := by decide +kernel
theorem dX6_step_79 : decode cX6_step 79 = .ok (.goto 4, 3) := by decide +kernel
theorem dX6_step_82 : decode cX6_step 82 = .ok (.iconst 0, 1) := by decide +kernel
theorem dX6_step_83 : decode cX6_step 83 = .ok (.bastore, 1) := by decide +kernel
theorem dX6_step_84 : decode cX6_step 84 = .ok (.iinc 4 1, 3) := by decide +kernel
theorem dX6_step_87 : decode cX6_step 87 = .ok (.goto (-44), 3) := by decide +kernel
theorem dX6_step_90 : decode cX6_step 90 = .ok (.iload_n 3, 1) := by decide +kernel
theorem dX6_step_91 : decode cX6_step 91 = .ok (.iconst 1, 1) := by decide +kernel
theorem dX6_step_92 : decode cX6_step 92 = .ok (.isub, 1) := by decide +kernel
theorem dX6_step_93 : decode cX6_step 93 = .ok (.istore 4, 2) := by decide +kernel
theorem dX6_step_95 : decode cX6_step 95 = .ok (.iload 4, 2) := by decide +kernel
theorem dX6_step_97 : decode cX6_step 97 = .ok (.ifCond .lt 125, 3) := by decide +kernel
theorem dX6_step_100 : decode cX6_step 100 = .ok (.iconst 0, 1) := by decide +kernel
theorem dX6_step_101 : decode cX6_step 101 = .ok (.istore 5, 2) := by decide +kernel
theorem dX6_step_103 : decode cX6_step 103 = .ok (.iload 5, 2) := by decide +kernel
theorem dX6_step_105 : decode cX6_step 105 = .ok (.aload_n 0, 1) := by decide +kernel
theorem dX6_step_106 : decode cX6_step 106 = .ok (.getfield 165, 3) := by decide +kernel
theorem dX6_step_109 : decode cX6_step 109 = .ok (.if_icmp .ge 107, 3) := by decide +kernel
theorem dX6_step_112 : decode cX6_step 112 = .ok (.iconst 0, 1) := by decide +kernel
theorem dX6_step_113 : decode cX6_step 113 = .ok (.istore 6, 2) := by decide +kernel
theorem dX6_step_115 : decode cX6_step 115 = .ok (.iload 6, 2) := by decide +kernel
theorem dX6_step_117 : decode cX6_step 117 = .ok (.bipush 6, 2) := by decide +kernel
theorem dX6_step_119 : decode cX6_step 119 = .ok (.if_icmp .ge 91, 3) := by decide +kernel
theorem dX6_step_122 : decode cX6_step 122 = .ok (.aload_n 0, 1) := by decide +kernel
theorem dX6_step_123 : decode cX6_step 123 = .ok (.getfield 41, 3) := by decide +kernel
theorem dX6_step_126 : decode cX6_step 126 = .ok (.aload_n 0, 1) := by decide +kernel
theorem dX6_step_127 : decode cX6_step 127 = .ok (.getfield 44, 3) := by decide +kernel
theorem dX6_step_130 : decode cX6_step 130 = .ok (.iload 5, 2) := by decide +kernel
theorem dX6_step_132 : decode cX6_step 132 = .ok (.iaload, 1) := by decide +kernel
theorem dX6_step_133 : decode cX6_step 133 = .ok (.iaload, 1) := by decide +kernel
theorem dX6_step_134 : decode cX6_step 134 = .ok (.iload 4, 2) := by decide +kernel
theorem dX6_step_136 : decode cX6_step 136 = .ok (.if_icmp .ne 74, 3) := by decide +kernel
theorem dX6_step_139 : decode cX6_step 139 = .ok (.aload_n 0, 1) := by decide +kernel
theorem dX6_step_140 : decode cX6_step 140 = .ok (.aload_n 0, 1) := by decide +kernel
theorem dX6_step_141 : decode cX6_step 141 = .ok (.getfield 44, 3) := by decide +kernel
theorem dX6_step_144 : decode cX6_step 144 = .ok (.iload 5, 2) := by decide +kernel
theorem dX6_step_146 : decode cX6_step 146 = .ok (.iaload, 1) := by decide +kernel
theorem dX6_step_147 : decode cX6_step 147 = .ok (.iload 6, 2) := by decide +kernel
theorem dX6_step_149 : decode cX6_step 149 = .ok (.iconst 1, 1) := by decide +kernel
theorem dX6_step_150 : decode cX6_step 150 = .ok (.invokevirtual 168, 3) := by decide +kernel
theorem dX6_step_153 : decode cX6_step 153 = .ok (.istore 7, 2) := by decide +kernel
theorem dX6_step_155 : decode cX6_step 155 = .ok (.aload_n 0, 1) := by decide +kernel
theorem dX6_step_156 : decode cX6_step 156 = .ok (.getfield 53, 3) := by decide +kernel
theorem dX6_step_159 : decode cX6_step 159 = .ok (.aload_n 0, 1) := by decide +kernel
theorem dX6_step_160 : decode cX6_step 160 = .ok (.getfield 44, 3) := by decide +kernel
theorem dX6_step_163 : decode cX6_step 163 = .ok (.iload 5, 2) := by decide +kernel
theorem dX6_step_165 : decode cX6_step 165 = .ok (.iaload, 1) := by decide +kernel
theorem dX6_step_166 : decode cX6_step 166 = .ok (.dup2, 1) := by decide +kernel
theorem dX6_step_167 : decode cX6_step 167 = .ok (.baload, 1) := by decide +kernel
theorem dX6_step_168 : decode cX6_step 168 = .ok (.iload 7, 2) := by decide +kernel
theorem dX6_step_170 : decode cX6_step 170 = .ok (.ifCond .lt 31, 3) := by decide +kernel
theorem dX6_step_173 : decode cX6_step 173 = .ok (.aload_n 0, 1) := by decide +kernel
theorem dX6_step_174 : decode cX6_step 174 = .ok (.getfield 41, 3) := by decide +kernel
theorem dX6_step_177 : decode cX6_step 177 = .ok (.iload 7, 2) := by decide +kernel
theorem dX6_step_179 : decode cX6_step 179 = .ok (.iaload, 1) := by decide +kernel
theorem dX6_step_180 : decode cX6_step 180 = .ok (.iload 4, 2) := by decide +kernel
theorem dX6_step_182 : decode cX6_step 182 = .ok (.iconst 1, 1) := by decide +kernel
theorem dX6_step_183 : decode cX6_step 183 = .ok (.iadd, 1) := by decide +kernel
theorem dX6_step_184 : decode cX6_step 184 = .ok (.if_icmp .ne 17, 3) := by decide +kernel
theorem dX6_step_187 : decode cX6_step 187 = .ok (.aload_n 0, 1) := by decide +kernel
theorem dX6_step_188 : decode cX6_step 188 = .ok (.getfield 53, 3) := by decide +kernel
theorem dX6_step_191 : decode cX6_step 191 = .ok (.iload 7, 2) := by decide +kernel
theorem dX6_step_193 : decode cX6_step 193 = .ok (.baload, 1) := by decide +kernel
theorem dX6_step_194 : decode cX6_step 194 = .ok (.ifCond .eq 7, 3) := by decide +kernel
theorem dX6_step_197 : decode cX6_step 197 = .ok (.iconst 1, 1) := by decide +kernel
theorem dX6_step_198 : decode cX6_step 198 = .ok (.goto 4, 3) := by decide +kernel
theorem dX6_step_201 : decode cX6_step 201 = .ok (.iconst 0, 1) := by decide +kernel
theorem dX6_step_202 : decode cX6_step 202 = .ok (.ior, 1) := by decide +kernel
theorem dX6_step_203 : decode cX6_step 203 = .ok (.bastore, 1) := by decide +kernel
theorem dX6_step_204 : decode cX6_step 204 = .ok (.iinc 6 1, 3) := by decide +kernel
theorem dX6_step_207 : decode cX6_step 207 = .ok (.goto (-92), 3) := by decide +kernel
theorem dX6_step_210 : decode cX6_step 210 = .ok (.iinc 5 1, 3) := by decide +kernel
theorem dX6_step_213 : decode cX6_step 213 = .ok (.goto (-110), 3) := by decide +kernel
theorem dX6_step_216 : decode cX6_step 216 = .ok (.iinc 4 (-1), 3) := by decide +kernel
theorem dX6_step_219 : decode cX6_step 219 = .ok (.goto (-124), 3) := by decide +kernel
theorem dX6_step_222 : decode cX6_step 222 = .ok (.aload_n 0, 1) := by decide +kernel
theorem dX6_step_223 : decode cX6_step 223 = .ok (.getfield 7, 3) := by decide +kernel
theorem dX6_step_226 : decode cX6_step 226 = .ok (.sipush 1880, 3) := by decide +kernel
theorem dX6_step_229 : decode cX6_step 229 = .ok (.iaload, 1) := by decide +kernel
theorem dX6_step_230 : decode cX6_step 230 = .ok (.istore 4, 2) := by decide +kernel
theorem dX6_step_232 : decode cX6_step 232 = .ok (.iconst 0, 1) := by decide +kernel
theorem dX6_step_233 : decode cX6_step 233 = .ok (.istore 5, 2) := by decide +kernel
theorem dX6_step_235 : decode cX6_step 235 = .ok (.iconst 0, 1) := by decide +kernel
theorem dX6_step_236 : decode cX6_step 236 = .ok (.istore 6, 2) := by decide +kernel
theorem dX6_step_238 : decode cX6_step 238 = .ok (.iload 6, 2) := by decide +kernel
theorem dX6_step_240 : decode cX6_step 240 = .ok (.iload_n 2, 1) := by decide +kernel
theorem dX6_step_241 : decode cX6_step 241 = .ok (.if_icmp .gt 44, 3) := by decide +kernel
theorem dX6_step_244 : decode cX6_step 244 = .ok (.iconst 0, 1) := by decide +kernel
theorem dX6_step_245 : decode cX6_step 245 = .ok (.istore 5, 2) := by decide +kernel
theorem dX6_step_247 : decode cX6_step 247 = .ok (.aload_n 0, 1) := by decide +kernel
theorem dX6_step_248 : decode cX6_step 248 = .ok (.iload 4, 2) := by decide +kernel
theorem dX6_step_250 : decode cX6_step 250 = .ok (.iload 5, 2) := by decide +kernel
theorem dX6_step_252 : decode cX6_step 252 = .ok (.iload 6, 2) := by decide +kernel
theorem dX6_step_254 : decode cX6_step 254 = .ok (.iconst 1, 1) := by decide +kernel
theorem dX6_step_255 : decode cX6_step 255 = .ok (.iadd, 1) := by decide +kernel
theorem dX6_step_256 : decode cX6_step 256 = .ok (.invokevirtual 196, 3) := by decide +kernel
theorem dX6_step_259 : decode cX6_step 259 = .ok (.ifCond .ne 9, 3) := by decide +kernel
theorem dX6_step_262 : decode cX6_step 262 = .ok (.iinc 5 1, 3) := by decide +kernel
theorem dX6_step_265 : decode cX6_step 265 = .ok (.goto (-18), 3) := by decide +kernel
theorem dX6_step_268 : decode cX6_step 268 = .ok (.aload_n 0, 1) := by decide +kernel
theorem dX6_step_269 : decode cX6_step 269 = .ok (.iload 4, 2) := by decide +kernel
theorem dX6_step_271 : decode cX6_step 271 = .ok (.iload 5, 2) := by decide +kernel
theorem dX6_step_273 : decode cX6_step 273 = .ok (.iconst 1, 1) := by decide +kernel
theorem dX6_step_274 : decode cX6_step 274 = .ok (.invokevirtual 168, 3) := by decide +kernel
theorem dX6_step_277 : decode cX6_step 277 = .ok (.istore 4, 2) := by decide +kernel
theorem dX6_step_279 : decode cX6_step 279 = .ok (.iinc 6 1, 3) := by decide +kernel
theorem dX6_step_282 : decode cX6_step 282 = .ok (.goto (-44), 3) := by decide +kernel
theorem dX6_step_285 : decode cX6_step 285 = .ok (.iload 5, 2) := by decide +kernel
theorem dX6_step_287 : decode cX6_step 287 = .ok (.ireturn, 1) := by decide +kernel
theorem dX6_goesOn_0 : decode cX6_goesOn 0 = .ok (.aload_n 0, 1) := by decide +kernel
theorem dX6_goesOn_1 : decode cX6_goesOn 1 = .ok (.iload_n 1, 1) := by decide +kernel
theorem dX6_goesOn_2 : decode cX6_goesOn 2 = .ok (.iload_n 2, 1) := by decide +kernel
theorem dX6_goesOn_3 : decode cX6_goesOn 3 = .ok (.iconst 1, 1) := by decide +kernel
theorem dX6_goesOn_4 : decode cX6_goesOn 4 = .ok (.invokevirtual 168, 3) := by decide +kernel
theorem dX6_goesOn_7 : decode cX6_goesOn 7 = .ok (.istore 4, 2) := by decide +kernel
theorem dX6_goesOn_9 : decode cX6_goesOn 9 = .ok (.iload 4, 2) := by decide +kernel
theorem dX6_goesOn_11 : decode cX6_goesOn 11 = .ok (.ifCond .lt 28, 3) := by decide +kernel
theorem dX6_goesOn_14 : decode cX6_goesOn 14 = .ok (.aload_n 0, 1) := by decide +kernel
theorem dX6_goesOn_15 : decode cX6_goesOn 15 = .ok (.getfield 41, 3) := by decide +kernel
theorem dX6_goesOn_18 : decode cX6_goesOn 18 = .ok (.iload 4, 2) := by decide +kernel
theorem dX6_goesOn_20 : decode cX6_goesOn 20 = .ok (.iaload, 1) := by decide +kernel
theorem dX6_goesOn_21 : decode cX6_goesOn 21 = .ok (.iload_n 3, 1) := by decide +kernel
theorem dX6_goesOn_22 : decode cX6_goesOn 22 = .ok (.if_icmp .ne 17, 3) := by decide +kernel
theorem dX6_goesOn_25 : decode cX6_goesOn 25 = .ok (.aload_n 0, 1) := by decide +kernel
theorem dX6_goesOn_26 : decode cX6_goesOn 26 = .ok (.getfield 53, 3) := by decide +kernel
theorem dX6_goesOn_29 : decode cX6_goesOn 29 = .ok (.iload 4, 2) := by decide +kernel
theorem dX6_goesOn_31 : decode cX6_goesOn 31 = .ok (.baload, 1) := by decide +kernel
theorem dX6_goesOn_32 : decode cX6_goesOn 32 = .ok (.ifCond .eq 7, 3) := by decide +kernel
theorem dX6_goesOn_35 : decode cX6_goesOn 35 = .ok (.iconst 1, 1) := by decide +kernel
theorem dX6_goesOn_36 : decode cX6_goesOn 36 = .ok (.goto 4, 3) := by decide +kernel
theorem dX6_goesOn_39 : decode cX6_goesOn 39 = .ok (.iconst 0, 1) := by decide +kernel
theorem dX6_goesOn_40 : decode cX6_goesOn 40 = .ok (.ireturn, 1) := by decide +kernel
theorem dX6_ways_0 : decode cX6_ways 0 = .ok (.iload_n 1, 1) := by decide +kernel
theorem dX6_ways_1 : decode cX6_ways 1 = .ok (.iconst 0, 1) := by decide +kernel
theorem dX6_ways_2 : decode cX6_ways 2 = .ok (.bipush 20, 2) := by decide +kernel
theorem dX6_ways_4 : decode cX6_ways 4 = .ok (.invokestatic 67, 3) := by decide +kernel
theorem dX6_ways_7 : decode cX6_ways 7 = .ok (.ifCond .ne 7, 3) := by decide +kernel
theorem dX6_ways_10 : decode cX6_ways 10 = .ok (.ldc2_w 199, 3) := by decide +kernel
theorem dX6_ways_13 : decode cX6_ways 13 = .ok (.lreturn, 1) := by decide +kernel
theorem dX6_ways_14 : decode cX6_ways 14 = .ok (.aload_n 0, 1) := by decide +kernel
theorem dX6_ways_15 : decode cX6_ways 15 = .ok (.invokevirtual 179, 3) := by decide +kernel
theorem dX6_ways_18 : decode cX6_ways 18 = .ok (.iconst 0, 1) := by decide +kernel
theorem dX6_ways_19 : decode cX6_ways 19 = .ok (.istore_n 2, 1) := by decide +kernel
theorem dX6_ways_20 : decode cX6_ways 20 = .ok (.iload_n 2, 1) := by decide +kernel
theorem dX6_ways_21 : decode cX6_ways 21 = .ok (.sipush 5120, 3) := by decide +kernel
theorem dX6_ways_24 : decode cX6_ways 24 = .ok (.if_icmp .ge 39, 3) := by decide +kernel
theorem dX6_ways_27 : decode cX6_ways 27 = .ok (.aload_n 0, 1) := by decide +kernel
theorem dX6_ways_28 : decode cX6_ways 28 = .ok (.getfield 56, 3) := by decide +kernel
theorem dX6_ways_31 : decode cX6_ways 31 = .ok (.iload_n 2, 1) := by decide +kernel
theorem dX6_ways_32 : decode cX6_ways 32 = .ok (.aload_n 0, 1) := by decide +kernel
theorem dX6_ways_33 : decode cX6_ways 33 = .ok (.getfield 165, 3) := by decide +kernel
theorem dX6_ways_36 : decode cX6_ways 36 = .ok (.ifCond .le 19, 3) := by decide +kernel
theorem dX6_ways_39 : decode cX6_ways 39 = .ok (.iload_n 2, 1) := by decide +kernel
theorem dX6_ways_40 : decode cX6_ways 40 = .ok (.aload_n 0, 1) := by decide +kernel
theorem dX6_ways_41 : decode cX6_ways 41 = .ok (.getfield 7, 3) := by decide +kernel
theorem dX6_ways_44 : decode cX6_ways 44 = .ok (.sipush 1880, 3) := by decide +kernel
theorem dX6_ways_47 : decode cX6_ways 47 = .ok (.iaload, 1) := by decide +kernel
theorem dX6_ways_48 : decode cX6_ways 48 = .ok (.if_icmp .ne 7, 3) := by decide +kernel
theorem dX6_ways_51 : decode cX6_ways 51 = .ok (.lconst 1, 1) := by decide +kernel
theorem dX6_ways_52 : decode cX6_ways 52 = .ok (.goto 4, 3) := by decide +kernel
theorem dX6_ways_55 : decode cX6_ways 55 = .ok (.lconst 0, 1) := by decide +kernel
theorem dX6_ways_56 : decode cX6_ways 56 = .ok (.lastore, 1) := by decide +kernel
theorem dX6_ways_57 : decode cX6_ways 57 = .ok (.iinc 2 1, 3) := by decide +kernel
theorem dX6_ways_60 : decode cX6_ways 60 = .ok (.goto (-40), 3) := by decide +kernel
theorem dX6_ways_63 : decode cX6_ways 63 = .ok (.iconst 0, 1) := by decide +kernel
theorem dX6_ways_64 : decode cX6_ways 64 = .ok (.istore_n 2, 1) := by decide +kernel
theorem dX6_ways_65 : decode cX6_ways 65 = .ok (.iload_n 2, 1) := by decide +kernel
theorem dX6_ways_66 : decode cX6_ways 66 = .ok (.iload_n 1, 1) := by decide +kernel
theorem dX6_ways_67 : decode cX6_ways 67 = .ok (.if_icmp .ge 147, 3) := by decide +kernel
theorem dX6_ways_70 : decode cX6_ways 70 = .ok (.iconst 0, 1) := by decide +kernel
theorem dX6_ways_71 : decode cX6_ways 71 = .ok (.istore_n 3, 1) := by decide +kernel
theorem dX6_ways_72 : decode cX6_ways 72 = .ok (.iload_n 3, 1) := by decide +kernel
theorem dX6_ways_73 : decode cX6_ways 73 = .ok (.sipush 5120, 3) := by decide +kernel
theorem dX6_ways_76 : decode cX6_ways 76 = .ok (.if_icmp .ge 16, 3) := by decide +kernel
theorem dX6_ways_79 : decode cX6_ways 79 = .ok (.aload_n 0, 1) := by decide +kernel
theorem dX6_ways_80 : decode cX6_ways 80 = .ok (.getfield 60, 3) := by decide +kernel
theorem dX6_ways_83 : decode cX6_ways 83 = .ok (.iload_n 3, 1) := by decide +kernel
theorem dX6_ways_84 : decode cX6_ways 84 = .ok (.lconst 0, 1) := by decide +kernel
theorem dX6_ways_85 : decode cX6_ways 85 = .ok (.lastore, 1) := by decide +kernel
theorem dX6_ways_86 : decode cX6_ways 86 = .ok (.iinc 3 1, 3) := by decide +kernel
theorem dX6_ways_89 : decode cX6_ways 89 = .ok (.goto (-17), 3) := by decide +kernel
theorem dX6_ways_92 : decode cX6_ways 92 = .ok (.iconst 0, 1) := by decide +kernel
theorem dX6_ways_93 : decode cX6_ways 93 = .ok (.istore_n 3, 1) := by decide +kernel
theorem dX6_ways_94 : decode cX6_ways 94 = .ok (.iload_n 3, 1) := by decide +kernel
theorem dX6_ways_95 : decode cX6_ways 95 = .ok (.aload_n 0, 1) := by decide +kernel
theorem dX6_ways_96 : decode cX6_ways 96 = .ok (.getfield 165, 3) := by decide +kernel
theorem dX6_ways_99 : decode cX6_ways 99 = .ok (.if_icmp .ge 82, 3) := by decide +kernel
theorem dX6_ways_102 : decode cX6_ways 102 = .ok (.iconst 0, 1) := by decide +kernel
theorem dX6_ways_103 : decode cX6_ways 103 = .ok (.istore 4, 2) := by decide +kernel
theorem dX6_ways_105 : decode cX6_ways 105 = .ok (.iload 4, 2) := by decide +kernel
theorem dX6_ways_107 : decode cX6_ways 107 = .ok (.bipush 6, 2) := by decide +kernel
theorem dX6_ways_109 : decode cX6_ways 109 = .ok (.if_icmp .ge 66, 3) := by decide +kernel
theorem dX6_ways_112 : decode cX6_ways 112 = .ok (.aload_n 0, 1) := by decide +kernel
theorem dX6_ways_113 : decode cX6_ways 113 = .ok (.getfield 56, 3) := by decide +kernel
theorem dX6_ways_116 : decode cX6_ways 116 = .ok (.aload_n 0, 1) := by decide +kernel
theorem dX6_ways_117 : decode cX6_ways 117 = .ok (.getfield 44, 3) := by decide +kernel
theorem dX6_ways_120 : decode cX6_ways 120 = .ok (.iload_n 3, 1) := by decide +kernel
theorem dX6_ways_121 : decode cX6_ways 121 = .ok (.iaload, 1) := by decide +kernel
theorem dX6_ways_122 : decode cX6_ways 122 = .ok (.laload, 1) := by decide +kernel
theorem dX6_ways_123 : decode cX6_ways 123 = .ok (.lconst 0, 1) := by decide +kernel
theorem dX6_ways_124 : decode cX6_ways 124 = .ok (.lcmp, 1) := by decide +kernel
theorem dX6_ways_125 : decode cX6_ways 125 = .ok (.ifCond .le 50, 3) := by decide +kernel
theorem dX6_ways_128 : decode cX6_ways 128 = .ok (.aload_n 0, 1) := by decide +kernel
theorem dX6_ways_129 : decode cX6_ways 129 = .ok (.aload_n 0, 1) := by decide +kernel
theorem dX6_ways_130 : decode cX6_ways 130 = .ok (.getfield 44, 3) := by decide +kernel
theorem dX6_ways_133 : decode cX6_ways 133 = .ok (.iload_n 3, 1) := by decide +kernel
theorem dX6_ways_134 : decode cX6_ways 134 = .ok (.iaload, 1) := by decide +kernel
theorem dX6_ways_135 : decode cX6_ways 135 = .ok (.iload 4, 2) := by decide +kernel
theorem dX6_ways_137 : decode cX6_ways 137 = .ok (.iconst 1, 1) := by decide +kernel
theorem dX6_ways_138 : decode cX6_ways 138 = .ok (.invokevirtual 168, 3) := by decide +kernel
theorem dX6_ways_141 : decode cX6_ways 141 = .ok (.istore 5, 2) := by decide +kernel
theorem dX6_ways_143 : decode cX6_ways 143 = .ok (.iload 5, 2) := by decide +kernel
theorem dX6_ways_145 : decode cX6_ways 145 = .ok (.ifCond .lt 24, 3) := by decide +kernel
theorem dX6_ways_148 : decode cX6_ways 148 = .ok (.aload_n 0, 1) := by decide +kernel
theorem dX6_ways_149 : decode cX6_ways 149 = .ok (.getfield 60, 3) := by decide +kernel
theorem dX6_ways_152 : decode cX6_ways 152 = .ok (.iload 5, 2) := by decide +kernel
theorem dX6_ways_154 : decode cX6_ways 154 = .ok (.dup2, 1) := by decide +kernel
theorem dX6_ways_155 : decode cX6_ways 155 = .ok (.laload, 1) := by decide +kernel
theorem dX6_ways_156 : decode cX6_ways 156 = .ok (.aload_n 0, 1) := by decide +kernel
theorem dX6_ways_157 : decode cX6_ways 157 = .ok (.getfield 56, 3) := by decide +kernel
theorem dX6_ways_160 : decode cX6_ways 160 = .ok (.aload_n 0, 1) := by decide +kernel
theorem dX6_ways_161 : decode cX6_ways 161 = .ok (.getfield 44, 3) := by decide +kernel
theorem dX6_ways_164 : decode cX6_ways 164 = .ok (.iload_n 3, 1) := by decide +kernel
theorem dX6_ways_165 : decode cX6_ways 165 = .ok (.iaload, 1) := by decide +kernel
theorem dX6_ways_166 : decode cX6_ways 166 = .ok (.laload, 1) := by decide +kernel
theorem dX6_ways_167 : decode cX6_ways 167 = .ok (.ladd, 1) := by decide +kernel
theorem dX6_ways_168 : decode cX6_ways 168 = .ok (.lastore, 1) := by decide +kernel
theorem dX6_ways_169 : decode cX6_ways 169 = .ok (.iinc 4 1, 3) := by decide +kernel
theorem dX6_ways_172 : decode cX6_ways 172 = .ok (.goto (-67), 3) := by decide +kernel
theorem dX6_ways_175 : decode cX6_ways 175 = .ok (.iinc 3 1, 3) := by decide +kernel
theorem dX6_ways_178 : decode cX6_ways 178 = .ok (.goto (-84), 3) := by decide +kernel
theorem dX6_ways_181 : decode cX6_ways 181 = .ok (.iconst 0, 1) := by decide +kernel
theorem dX6_ways_182 : decode cX6_ways 182 = .ok (.istore_n 3, 1) := by decide +kernel
theorem dX6_ways_183 : decode cX6_ways 183 = .ok (.iload_n 3, 1) := by decide +kernel
theorem dX6_ways_184 : decode cX6_ways 184 = .ok (.sipush 5120, 3) := by decide +kernel
theorem dX6_ways_187 : decode cX6_ways 187 = .ok (.if_icmp .ge 21, 3) := by decide +kernel
theorem dX6_ways_190 : decode cX6_ways 190 = .ok (.aload_n 0, 1) := by decide +kernel
theorem dX6_ways_191 : decode cX6_ways 191 = .ok (.getfield 56, 3) := by decide +kernel
theorem dX6_ways_194 : decode cX6_ways 194 = .ok (.iload_n 3, 1) := by decide +kernel
theorem dX6_ways_195 : decode cX6_ways 195 = .ok (.aload_n 0, 1) := by decide +kernel
theorem dX6_ways_196 : decode cX6_ways 196 = .ok (.getfield 60, 3) := by decide +kernel
theorem dX6_ways_199 : decode cX6_ways 199 = .ok (.iload_n 3, 1) := by decide +kernel
theorem dX6_ways_200 : decode cX6_ways 200 = .ok (.laload, 1) := by decide +kernel
theorem dX6_ways_201 : decode cX6_ways 201 = .ok (.lastore, 1) := by decide +kernel
theorem dX6_ways_202 : decode cX6_ways 202 = .ok (.iinc 3 1, 3) := by decide +kernel
theorem dX6_ways_205 : decode cX6_ways 205 = .ok (.goto (-22), 3) := by decide +kernel
theorem dX6_ways_208 : decode cX6_ways 208 = .ok (.iinc 2 1, 3) := by decide +kernel
theorem dX6_ways_211 : decode cX6_ways 211 = .ok (.goto (-146), 3) := by decide +kernel
theorem dX6_ways_214 : decode cX6_ways 214 = .ok (.lconst 0, 1) := by decide +kernel
theorem dX6_ways_215 : decode cX6_ways 215 = .ok (.lstore_n 2, 1) := by decide +kernel
theorem dX6_ways_216 : decode cX6_ways 216 = .ok (.iconst 0, 1) := by decide +kernel
theorem dX6_ways_217 : decode cX6_ways 217 = .ok (.istore 4, 2) := by decide +kernel
theorem dX6_ways_219 : decode cX6_ways 219 = .ok (.iload 4, 2) := by decide +kernel
theorem dX6_ways_221 : decode cX6_ways 221 = .ok (.sipush 5120, 3) := by decide +kernel
theorem dX6_ways_224 : decode cX6_ways 224 = .ok (.if_icmp .ge 48, 3) := by decide +kernel
theorem dX6_ways_227 : decode cX6_ways 227 = .ok (.lload_n 2, 1) := by decide +kernel
theorem dX6_ways_228 : decode cX6_ways 228 = .ok (.aload_n 0, 1) := by decide +kernel
theorem dX6_ways_229 : decode cX6_ways 229 = .ok (.getfield 56, 3) := by decide +kernel
theorem dX6_ways_232 : decode cX6_ways 232 = .ok (.iload 4, 2) := by decide +kernel
theorem dX6_ways_234 : decode cX6_ways 234 = .ok (.laload, 1) := by decide +kernel
theorem dX6_ways_235 : decode cX6_ways 235 = .ok (.lconst 0, 1) := by decide +kernel
theorem dX6_ways_236 : decode cX6_ways 236 = .ok (.lcmp, 1) := by decide +kernel
theorem dX6_ways_237 : decode cX6_ways 237 = .ok (.ifCond .le 26, 3) := by decide +kernel
theorem dX6_ways_240 : decode cX6_ways 240 = .ok (.aload_n 0, 1) := by decide +kernel
theorem dX6_ways_241 : decode cX6_ways 241 = .ok (.iload 4, 2) := by decide +kernel
theorem dX6_ways_243 : decode cX6_ways 243 = .ok (.sipush 256, 3) := by decide +kernel
theorem dX6_ways_246 : decode cX6_ways 246 = .ok (.idiv, 1) := by decide +kernel
theorem dX6_ways_247 : decode cX6_ways 247 = .ok (.invokevirtual 158, 3) := by decide +kernel
theorem dX6_ways_250 : decode cX6_ways 250 = .ok (.ifCond .eq 13, 3) := by decide +kernel
theorem dX6_ways_253 : decode cX6_ways 253 = .ok (.aload_n 0, 1) := by decide +kernel
theorem dX6_ways_254 : decode cX6_ways 254 = .ok (.getfield 56, 3) := by decide +kernel
theorem dX6_ways_257 : decode cX6_ways 257 = .ok (.iload 4, 2) := by decide +kernel
theorem dX6_ways_259 : decode cX6_ways 259 = .ok (.laload, 1) := by decide +kernel
theorem dX6_ways_260 : decode cX6_ways 260 = .ok (.goto 4, 3) := by decide +kernel
theorem dX6_ways_263 : decode cX6_ways 263 = .ok (.lconst 0, 1) := by decide +kernel
theorem dX6_ways_264 : decode cX6_ways 264 = .ok (.ladd, 1) := by decide +kernel
theorem dX6_ways_265 : decode cX6_ways 265 = .ok (.lstore_n 2, 1) := by decide +kernel
theorem dX6_ways_266 : decode cX6_ways 266 = .ok (.iinc 4 1, 3) := by decide +kernel
theorem dX6_ways_269 : decode cX6_ways 269 = .ok (.goto (-50), 3) := by decide +kernel
theorem dX6_ways_272 : decode cX6_ways 272 = .ok (.lload_n 2, 1) := by decide +kernel
theorem dX6_ways_273 : decode cX6_ways 273 = .ok (.lreturn, 1) := by decide +kernel
theorem dX6_cut_0 : decode cX6_cut 0 = .ok (.iload_n 1, 1) := by decide +kernel
theorem dX6_cut_1 : decode cX6_cut 1 = .ok (.invokestatic 71, 3) := by decide +kernel
theorem dX6_cut_4 : decode cX6_cut 4 = .ok (.ifCond .ne 7, 3) := by decide +kernel
theorem dX6_cut_7 : decode cX6_cut 7 = .ok (.sipush (-1002), 3) := by decide +kernel
theorem dX6_cut_10 : decode cX6_cut 10 = .ok (.ireturn, 1) := by decide +kernel
theorem dX6_cut_11 : decode cX6_cut 11 = .ok (.aload_n 0, 1) := by decide +kernel
theorem dX6_cut_12 : decode cX6_cut 12 = .ok (.getfield 19, 3) := by decide +kernel
theorem dX6_cut_15 : decode cX6_cut 15 = .ok (.iload_n 1, 1) := by decide +kernel
theorem dX6_cut_16 : decode cX6_cut 16 = .ok (.baload, 1) := by decide +kernel
theorem dX6_cut_17 : decode cX6_cut 17 = .ok (.ifCond .eq 7, 3) := by decide +kernel
theorem dX6_cut_20 : decode cX6_cut 20 = .ok (.iconst 1, 1) := by decide +kernel
theorem dX6_cut_21 : decode cX6_cut 21 = .ok (.goto 4, 3) := by decide +kernel
theorem dX6_cut_24 : decode cX6_cut 24 = .ok (.iconst 0, 1) := by decide +kernel
theorem dX6_cut_25 : decode cX6_cut 25 = .ok (.istore_n 3, 1) := by decide +kernel
theorem dX6_cut_26 : decode cX6_cut 26 = .ok (.aload_n 0, 1) := by decide +kernel
theorem dX6_cut_27 : decode cX6_cut 27 = .ok (.getfield 19, 3) := by decide +kernel
theorem dX6_cut_30 : decode cX6_cut 30 = .ok (.iload_n 1, 1) := by decide +kernel
theorem dX6_cut_31 : decode cX6_cut 31 = .ok (.iload_n 2, 1) := by decide +kernel
theorem dX6_cut_32 : decode cX6_cut 32 = .ok (.bastore, 1) := by decide +kernel
theorem dX6_cut_33 : decode cX6_cut 33 = .ok (.iload_n 3, 1) := by decide +kernel
theorem dX6_cut_34 : decode cX6_cut 34 = .ok (.ireturn, 1) := by decide +kernel
theorem dX6_reachedScenes_0 : decode cX6_reachedScenes 0 = .ok (.iconst 0, 1) := by decide +kernel
theorem dX6_reachedScenes_1 : decode cX6_reachedScenes 1 = .ok (.istore_n 1, 1) := by decide +kernel
theorem dX6_reachedScenes_2 : decode cX6_reachedScenes 2 = .ok (.iconst 0, 1) := by decide +kernel
theorem dX6_reachedScenes_3 : decode cX6_reachedScenes 3 = .ok (.istore_n 2, 1) := by decide +kernel
theorem dX6_reachedScenes_4 : decode cX6_reachedScenes 4 = .ok (.iload_n 2, 1) := by decide +kernel
theorem dX6_reachedScenes_5 : decode cX6_reachedScenes 5 = .ok (.aload_n 0, 1) := by decide +kernel
theorem dX6_reachedScenes_6 : decode cX6_reachedScenes 6 = .ok (.getfield 165, 3) := by decide +kernel
theorem dX6_reachedScenes_9 : decode cX6_reachedScenes 9 = .ok (.if_icmp .ge 24, 3) := by decide +kernel
theorem dX6_reachedScenes_12 : decode cX6_reachedScenes 12 = .ok (.iload_n 1, 1) := by decide +kernel
theorem dX6_reachedScenes_13 : decode cX6_reachedScenes 13 = .ok (.iconst 1, 1) := by decide +kernel
theorem dX6_reachedScenes_14 : decode cX6_reachedScenes 14 = .ok (.aload_n 0, 1) := by decide +kernel
theorem dX6_reachedScenes_15 : decode cX6_reachedScenes 15 = .ok (.getfield 44, 3) := by decide +kernel
theorem dX6_reachedScenes_18 : decode cX6_reachedScenes 18 = .ok (.iload_n 2, 1) := by decide +kernel
theorem dX6_reachedScenes_19 : decode cX6_reachedScenes 19 = .ok (.iaload, 1) := by decide +kernel
theorem dX6_reachedScenes_20 : decode cX6_reachedScenes 20 = .ok (.sipush 256, 3) := by decide +kernel
theorem dX6_reachedScenes_23 : decode cX6_reachedScenes 23 = .ok (.idiv, 1) := by decide +kernel
theorem dX6_reachedScenes_24 : decode cX6_reachedScenes 24 = .ok (.ishl, 1) := by decide +kernel
theorem dX6_reachedScenes_25 : decode cX6_reachedScenes 25 = .ok (.ior, 1) := by decide +kernel
theorem dX6_reachedScenes_26 : decode cX6_reachedScenes 26 = .ok (.istore_n 1, 1) := by decide +kernel
theorem dX6_reachedScenes_27 : decode cX6_reachedScenes 27 = .ok (.iinc 2 1, 3) := by decide +kernel
theorem dX6_reachedScenes_30 : decode cX6_reachedScenes 30 = .ok (.goto (-26), 3) := by decide +kernel
theorem dX6_reachedScenes_33 : decode cX6_reachedScenes 33 = .ok (.iload_n 1, 1) := by decide +kernel
theorem dX6_reachedScenes_34 : decode cX6_reachedScenes 34 = .ok (.ireturn, 1) := by decide +kernel
theorem dX6_size_0 : decode cX6_size 0 = .ok (.iconst 0, 1) := by decide +kernel
theorem dX6_size_1 : decode cX6_size 1 = .ok (.istore_n 1, 1) := by decide +kernel
theorem dX6_size_2 : decode cX6_size 2 = .ok (.iconst 0, 1) := by decide +kernel
theorem dX6_size_3 : decode cX6_size 3 = .ok (.istore_n 2, 1) := by decide +kernel
theorem dX6_size_4 : decode cX6_size 4 = .ok (.iload_n 2, 1) := by decide +kernel
theorem dX6_size_5 : decode cX6_size 5 = .ok (.bipush 8, 2) := by decide +kernel
theorem dX6_size_7 : decode cX6_size 7 = .ok (.if_icmp .ge 17, 3) := by decide +kernel
theorem dX6_size_10 : decode cX6_size 10 = .ok (.iload_n 1, 1) := by decide +kernel
theorem dX6_size_11 : decode cX6_size 11 = .ok (.iload_n 0, 1) := by decide +kernel
theorem dX6_size_12 : decode cX6_size 12 = .ok (.iload_n 2, 1) := by decide +kernel
theorem dX6_size_13 : decode cX6_size 13 = .ok (.ishr, 1) := by decide +kernel
theorem dX6_size_14 : decode cX6_size 14 = .ok (.iconst 1, 1) := by decide +kernel
theorem dX6_size_15 : decode cX6_size 15 = .ok (.iand, 1) := by decide +kernel
theorem dX6_size_16 : decode cX6_size 16 = .ok (.iadd, 1) := by decide +kernel
theorem dX6_size_17 : decode cX6_size 17 = .ok (.istore_n 1, 1) := by decide +kernel
theorem dX6_size_18 : decode cX6_size 18 = .ok (.iinc 2 1, 3) := by decide +kernel
theorem dX6_size_21 : decode cX6_size 21 = .ok (.goto (-17), 3) := by decide +kernel
theorem dX6_size_24 : decode cX6_size 24 = .ok (.iload_n 1, 1) := by decide +kernel
theorem dX6_size_25 : decode cX6_size 25 = .ok (.ireturn, 1) := by decide +kernel
theorem dX6_mend_0 : decode cX6_mend 0 = .ok (.aload_n 0, 1) := by decide +kernel
theorem dX6_mend_1 : decode cX6_mend 1 = .ok (.aload_n 0, 1) := by decide +kernel
theorem dX6_mend_2 : decode cX6_mend 2 = .ok (.getfield 7, 3) := by decide +kernel
theorem dX6_mend_5 : decode cX6_mend 5 = .ok (.sipush 1880, 3) := by decide +kernel
theorem dX6_mend_8 : decode cX6_mend 8 = .ok (.iaload, 1) := by decide +kernel
theorem dX6_mend_9 : decode cX6_mend 9 = .ok (.iconst 0, 1) := by decide +kernel
theorem dX6_mend_10 : decode cX6_mend 10 = .ok (.invokevirtual 172, 3) := by decide +kernel
theorem dX6_mend_13 : decode cX6_mend 13 = .ok (.aload_n 0, 1) := by decide +kernel
theorem dX6_mend_14 : decode cX6_mend 14 = .ok (.invokevirtual 201, 3) := by decide +kernel
theorem dX6_mend_17 : decode cX6_mend 17 = .ok (.istore_n 1, 1) := by decide +kernel
theorem dX6_mend_18 : decode cX6_mend 18 = .ok (.iconst 0, 1) := by decide +kernel
theorem dX6_mend_19 : decode cX6_mend 19 = .ok (.istore_n 2, 1) := by decide +kernel
theorem dX6_mend_20 : decode cX6_mend 20 = .ok (.iload_n 2, 1) := by decide +kernel
theorem dX6_mend_21 : decode cX6_mend 21 = .ok (.bipush 20, 2) := by decide +kernel
theorem dX6_mend_23 : decode cX6_mend 23 = .ok (.if_icmp .ge 30, 3) := by decide +kernel
theorem dX6_mend_26 : decode cX6_mend 26 = .ok (.iload_n 1, 1) := by decide +kernel
theorem dX6_mend_27 : decode cX6_mend 27 = .ok (.aload_n 0, 1) := by decide +kernel
theorem dX6_mend_28 : decode cX6_mend 28 = .ok (.getfield 19, 3) := by decide +kernel
theorem dX6_mend_31 : decode cX6_mend 31 = .ok (.iload_n 2, 1) := by decide +kernel
theorem dX6_mend_32 : decode cX6_mend 32 = .ok (.baload, 1) := by decide +kernel
theorem dX6_mend_33 : decode cX6_mend 33 = .ok (.ifCond .eq 11, 3) := by decide +kernel
theorem dX6_mend_36 : decode cX6_mend 36 = .ok (.iconst 1, 1) := by decide +kernel
theorem dX6_mend_37 : decode cX6_mend 37 = .ok (.iload_n 2, 1) := by decide +kernel
theorem dX6_mend_38 : decode cX6_mend 38 = .ok (.ishl, 1) := by decide +kernel
theorem dX6_mend_39 : decode cX6_mend 39 = .ok (.iconst (-1), 1) := by decide +kernel
theorem dX6_mend_40 : decode cX6_mend 40 = .ok (.ixor, 1) := by decide +kernel
theorem dX6_mend_41 : decode cX6_mend 41 = .ok (.goto 4, 3) := by decide +kernel
theorem dX6_mend_44 : decode cX6_mend 44 = .ok (.iconst (-1), 1) := by decide +kernel
theorem dX6_mend_45 : decode cX6_mend 45 = .ok (.iand, 1) := by decide +kernel
theorem dX6_mend_46 : decode cX6_mend 46 = .ok (.istore_n 1, 1) := by decide +kernel
theorem dX6_mend_47 : decode cX6_mend 47 = .ok (.iinc 2 1, 3) := by decide +kernel
theorem dX6_mend_50 : decode cX6_mend 50 = .ok (.goto (-30), 3) := by decide +kernel
theorem dX6_mend_53 : decode cX6_mend 53 = .ok (.iconst 0, 1) := by decide +kernel
theorem dX6_mend_54 : decode cX6_mend 54 = .ok (.istore_n 2, 1) := by decide +kernel
theorem dX6_mend_55 : decode cX6_mend 55 = .ok (.iload_n 2, 1) := by decide +kernel
theorem dX6_mend_56 : decode cX6_mend 56 = .ok (.bipush 8, 2) := by decide +kernel
theorem dX6_mend_58 : decode cX6_mend 58 = .ok (.if_icmp .gt 60, 3) := by decide +kernel
theorem dX6_mend_61 : decode cX6_mend 61 = .ok (.iconst 0, 1) := by decide +kernel
theorem dX6_mend_62 : decode cX6_mend 62 = .ok (.istore_n 3, 1) := by decide +kernel
theorem dX6_mend_63 : decode cX6_mend 63 = .ok (.iload_n 3, 1) := by decide +kernel
theorem dX6_mend_64 : decode cX6_mend 64 = .ok (.sipush 256, 3) := by decide +kernel
theorem dX6_mend_67 : decode cX6_mend 67 = .ok (.if_icmp .ge 45, 3) := by decide +kernel
theorem dX6_mend_70 : decode cX6_mend 70 = .ok (.iload_n 3, 1) := by decide +kernel
theorem dX6_mend_71 : decode cX6_mend 71 = .ok (.invokestatic 204, 3) := by decide +kernel
theorem dX6_mend_74 : decode cX6_mend 74 = .ok (.iload_n 2, 1) := by decide +kernel
theorem dX6_mend_75 : decode cX6_mend 75 = .ok (.if_icmp .ne 31, 3) := by decide +kernel
theorem dX6_mend_78 : decode cX6_mend 78 = .ok (.aload_n 0, 1) := by decide +kernel
theorem dX6_mend_79 : decode cX6_mend 79 = .ok (.aload_n 0, 1) := by decide +kernel
theorem dX6_mend_80 : decode cX6_mend 80 = .ok (.getfield 7, 3) := by decide +kernel
theorem dX6_mend_83 : decode cX6_mend 83 = .ok (.sipush 1880, 3) := by decide +kernel
theorem dX6_mend_86 : decode cX6_mend 86 = .ok (.iaload, 1) := by decide +kernel
theorem dX6_mend_87 : decode cX6_mend 87 = .ok (.iload_n 3, 1) := by decide +kernel
theorem dX6_mend_88 : decode cX6_mend 88 = .ok (.ior, 1) := by decide +kernel
theorem dX6_mend_89 : decode cX6_mend 89 = .ok (.iconst 1, 1) := by decide +kernel
theorem dX6_mend_90 : decode cX6_mend 90 = .ok (.invokevirtual 172, 3) := by decide +kernel
theorem dX6_mend_93 : decode cX6_mend 93 = .ok (.iload_n 1, 1) := by decide +kernel
theorem dX6_mend_94 : decode cX6_mend 94 = .ok (.aload_n 0, 1) := by decide +kernel
theorem dX6_mend_95 : decode cX6_mend 95 = .ok (.invokevirtual 201, 3) := by decide +kernel
theorem dX6_mend_98 : decode cX6_mend 98 = .ok (.iconst (-1), 1) := by decide +kernel
theorem dX6_mend_99 : decode cX6_mend 99 = .ok (.ixor, 1) := by decide +kernel
theorem dX6_mend_100 : decode cX6_mend 100 = .ok (.iand, 1) := by decide +kernel
theorem dX6_mend_101 : decode cX6_mend 101 = .ok (.ifCond .ne 5, 3) := by decide +kernel
theorem dX6_mend_104 : decode cX6_mend 104 = .ok (.iload_n 3, 1) := by decide +kernel
theorem dX6_mend_105 : decode cX6_mend 105 = .ok (.ireturn, 1) := by decide +kernel
theorem dX6_mend_106 : decode cX6_mend 106 = .ok (.iinc 3 1, 3) := by decide +kernel
theorem dX6_mend_109 : decode cX6_mend 109 = .ok (.goto (-46), 3) := by decide +kernel
theorem dX6_mend_112 : decode cX6_mend 112 = .ok (.iinc 2 1, 3) := by decide +kernel
theorem dX6_mend_115 : decode cX6_mend 115 = .ok (.goto (-60), 3) := by decide +kernel
theorem dX6_mend_118 : decode cX6_mend 118 = .ok (.sipush (-1003), 3) := by decide +kernel
theorem dX6_mend_121 : decode cX6_mend 121 = .ok (.ireturn, 1) := by decide +kernel
theorem dX6_isSheet_0 : decode cX6_isSheet 0 = .ok (.iload_n 0, 1) := by decide +kernel
theorem dX6_isSheet_1 : decode cX6_isSheet 1 = .ok (.iconst 0, 1) := by decide +kernel
theorem dX6_isSheet_2 : decode cX6_isSheet 2 = .ok (.iconst 3, 1) := by decide +kernel
theorem dX6_isSheet_3 : decode cX6_isSheet 3 = .ok (.invokestatic 67, 3) := by decide +kernel
theorem dX6_isSheet_6 : decode cX6_isSheet 6 = .ok (.ireturn, 1) := by decide +kernel
theorem dX6_sheet_0 : decode cX6_sheet 0 = .ok (.iload_n 1, 1) := by decide +kernel
theorem dX6_sheet_1 : decode cX6_sheet 1 = .ok (.invokestatic 207, 3) := by decide +kernel
theorem dX6_sheet_4 : decode cX6_sheet 4 = .ok (.ifCond .eq 18, 3) := by decide +kernel
theorem dX6_sheet_7 : decode cX6_sheet 7 = .ok (.iload_n 2, 1) := by decide +kernel
theorem dX6_sheet_8 : decode cX6_sheet 8 = .ok (.iconst 0, 1) := by decide +kernel
theorem dX6_sheet_9 : decode cX6_sheet 9 = .ok (.iconst 2, 1) := by decide +kernel
theorem dX6_sheet_10 : decode cX6_sheet 10 = .ok (.invokestatic 67, 3) := by decide +kernel
theorem dX6_sheet_13 : decode cX6_sheet 13 = .ok (.ifCond .eq 9, 3) := by decide +kernel
theorem dX6_sheet_16 : decode cX6_sheet 16 = .ok (.iload_n 3, 1) := by decide +kernel
theorem dX6_sheet_17 : decode cX6_sheet 17 = .ok (.bipush 30, 2) := by decide +kernel
theorem dX6_sheet_19 : decode cX6_sheet 19 = .ok (.if_icmp .le 7, 3) := by decide +kernel
theorem dX6_sheet_22 : decode cX6_sheet 22 = .ok (.sipush (-1002), 3) := by decide +kernel
theorem dX6_sheet_25 : decode cX6_sheet 25 = .ok (.ireturn, 1) := by decide +kernel
theorem dX6_sheet_26 : decode cX6_sheet 26 = .ok (.iload_n 3, 1) := by decide +kernel
theorem dX6_sheet_27 : decode cX6_sheet 27 = .ok (.ifCond .ge 11, 3) := by decide +kernel
theorem dX6_sheet_30 : decode cX6_sheet 30 = .ok (.aload_n 0, 1) := by decide +kernel
theorem dX6_sheet_31 : decode cX6_sheet 31 = .ok (.sipush (-1013), 3) := by decide +kernel
theorem dX6_sheet_34 : decode cX6_sheet 34 = .ok (.invokevirtual 140, 3) := by decide +kernel
theorem dX6_sheet_37 : decode cX6_sheet 37 = .ok (.ireturn, 1) := by decide +kernel
theorem dX6_sheet_38 : decode cX6_sheet 38 = .ok (.aload_n 0, 1) := by decide +kernel
theorem dX6_sheet_39 : decode cX6_sheet 39 = .ok (.getfield 26, 3) := by decide +kernel
theorem dX6_sheet_42 : decode cX6_sheet 42 = .ok (.iload_n 1, 1) := by decide +kernel
theorem dX6_sheet_43 : decode cX6_sheet 43 = .ok (.iload_n 2, 1) := by decide +kernel
theorem dX6_sheet_44 : decode cX6_sheet 44 = .ok (.iastore, 1) := by decide +kernel
theorem dX6_sheet_45 : decode cX6_sheet 45 = .ok (.aload_n 0, 1) := by decide +kernel
theorem dX6_sheet_46 : decode cX6_sheet 46 = .ok (.getfield 29, 3) := by decide +kernel
theorem dX6_sheet_49 : decode cX6_sheet 49 = .ok (.iload_n 1, 1) := by decide +kernel
theorem dX6_sheet_50 : decode cX6_sheet 50 = .ok (.iload_n 3, 1) := by decide +kernel
theorem dX6_sheet_51 : decode cX6_sheet 51 = .ok (.iastore, 1) := by decide +kernel
theorem dX6_sheet_52 : decode cX6_sheet 52 = .ok (.iconst 0, 1) := by decide +kernel
theorem dX6_sheet_53 : decode cX6_sheet 53 = .ok (.istore 4, 2) := by decide +kernel
theorem dX6_sheet_55 : decode cX6_sheet 55 = .ok (.iload 4, 2) := by decide +kernel
theorem dX6_sheet_57 : decode cX6_sheet 57 = .ok (.iload_n 3, 1) := by decide +kernel
theorem dX6_sheet_58 : decode cX6_sheet 58 = .ok (.if_icmp .ge 22, 3) := by decide +kernel
theorem dX6_sheet_61 : decode cX6_sheet 61 = .ok (.aload_n 0, 1) := by decide +kernel
theorem dX6_sheet_62 : decode cX6_sheet 62 = .ok (.getfield 32, 3) := by decide +kernel
theorem dX6_sheet_65 : decode cX6_sheet 65 = .ok (.bipush 30, 2) := by decide +kernel
theorem dX6_sheet_67 : decode cX6_sheet 67 = .ok (.iload_n 1, 1) := by decide +kernel
theorem dX6_sheet_68 : decode cX6_sheet 68 = .ok (.imul, 1) := by decide +kernel
theorem dX6_sheet_69 : decode cX6_sheet 69 = .ok (.iload 4, 2) := by decide +kernel
theorem dX6_sheet_71 : decode cX6_sheet 71 = .ok (.iadd, 1) := by decide +kernel
theorem dX6_sheet_72 : decode cX6_sheet 72 = .ok (.iconst 0, 1) := by decide +kernel
theorem dX6_sheet_73 : decode cX6_sheet 73 = .ok (.iastore, 1) := by decide +kernel
theorem dX6_sheet_74 : decode cX6_sheet 74 = .ok (.iinc 4 1, 3) := by decide +kernel
theorem dX6_sheet_77 : decode cX6_sheet 77 = .ok (.goto (-22), 3) := by decide +kernel
theorem dX6_sheet_80 : decode cX6_sheet 80 = .ok (.iload_n 3, 1) := by decide +kernel
theorem dX6_sheet_81 : decode cX6_sheet 81 = .ok (.ireturn, 1) := by decide +kernel
theorem dX6_write_0 : decode cX6_write 0 = .ok (.iload_n 1, 1) := by decide +kernel
theorem dX6_write_1 : decode cX6_write 1 = .ok (.invokestatic 207, 3) := by decide +kernel
theorem dX6_write_4 : decode cX6_write 4 = .ok (.ifCond .ne 7, 3) := by decide +kernel
theorem dX6_write_7 : decode cX6_write 7 = .ok (.sipush (-1002), 3) := by decide +kernel
theorem dX6_write_10 : decode cX6_write 10 = .ok (.ireturn, 1) := by decide +kernel
theorem dX6_write_11 : decode cX6_write 11 = .ok (.aload_n 0, 1) := by decide +kernel
theorem dX6_write_12 : decode cX6_write 12 = .ok (.getfield 29, 3) := by decide +kernel
theorem dX6_write_15 : decode cX6_write 15 = .ok (.iload_n 1, 1) := by decide +kernel
theorem dX6_write_16 : decode cX6_write 16 = .ok (.iaload, 1) := by decide +kernel
theorem dX6_write_17 : decode cX6_write 17 = .ok (.ifCond .ge 11, 3) := by decide +kernel
theorem dX6_write_20 : decode cX6_write 20 = .ok (.aload_n 0, 1) := by decide +kernel
theorem dX6_write_21 : decode cX6_write 21 = .ok (.sipush (-1010), 3) := by decide +kernel
theorem dX6_write_24 : decode cX6_write 24 = .ok (.invokevirtual 140, 3) := by decide +kernel
theorem dX6_write_27 : decode cX6_write 27 = .ok (.ireturn, 1) := by decide +kernel
theorem dX6_write_28 : decode cX6_write 28 = .ok (.iload_n 2, 1) := by decide +kernel
theorem dX6_write_29 : decode cX6_write 29 = .ok (.ifCond .lt 13, 3) := by decide +kernel
theorem dX6_write_32 : decode cX6_write 32 = .ok (.iload_n 2, 1) := by decide +kernel
theorem dX6_write_33 : decode cX6_write 33 = .ok (.aload_n 0, 1) := by decide +kernel
theorem dX6_write_34 : decode cX6_write 34 = .ok (.getfield 29, 3) := by decide +kernel
theorem dX6_write_37 : decode cX6_write 37 = .ok (.iload_n 1, 1) := by decide +kernel
theorem dX6_write_38 : decode cX6_write 38 = .ok (.iaload, 1) := by decide +kernel
theorem dX6_write_39 : decode cX6_write 39 = .ok (.if_icmp .lt 11, 3) := by decide +kernel
theorem dX6_write_42 : decode cX6_write 42 = .ok (.aload_n 0, 1) := by decide +kernel
theorem dX6_write_43 : decode cX6_write 43 = .ok (.sipush (-1011), 3) := by decide +kernel
theorem dX6_write_46 : decode cX6_write 46 = .ok (.invokevirtual 140, 3) := by decide +kernel
theorem dX6_write_49 : decode cX6_write 49 = .ok (.ireturn, 1) := by decide +kernel
theorem dX6_write_50 : decode cX6_write 50 = .ok (.aload_n 0, 1) := by decide +kernel
theorem dX6_write_51 : decode cX6_write 51 = .ok (.getfield 32, 3) := by decide +kernel
theorem dX6_write_54 : decode cX6_write 54 = .ok (.bipush 30, 2) := by decide +kernel
theorem dX6_write_56 : decode cX6_write 56 = .ok (.iload_n 1, 1) := by decide +kernel
theorem dX6_write_57 : decode cX6_write 57 = .ok (.imul, 1) := by decide +kernel
theorem dX6_write_58 : decode cX6_write 58 = .ok (.iload_n 2, 1) := by decide +kernel
theorem dX6_write_59 : decode cX6_write 59 = .ok (.iadd, 1) := by decide +kernel
theorem dX6_write_60 : decode cX6_write 60 = .ok (.iaload, 1) := by decide +kernel
theorem dX6_write_61 : decode cX6_write 61 = .ok (.istore 4, 2) := by decide +kernel
theorem dX6_write_63 : decode cX6_write 63 = .ok (.aload_n 0, 1) := by decide +kernel
theorem dX6_write_64 : decode cX6_write 64 = .ok (.getfield 32, 3) := by decide +kernel
theorem dX6_write_67 : decode cX6_write 67 = .ok (.bipush 30, 2) := by decide +kernel
theorem dX6_write_69 : decode cX6_write 69 = .ok (.iload_n 1, 1) := by decide +kernel
theorem dX6_write_70 : decode cX6_write 70 = .ok (.imul, 1) := by decide +kernel
theorem dX6_write_71 : decode cX6_write 71 = .ok (.iload_n 2, 1) := by decide +kernel
theorem dX6_write_72 : decode cX6_write 72 = .ok (.iadd, 1) := by decide +kernel
theorem dX6_write_73 : decode cX6_write 73 = .ok (.aload_n 0, 1) := by decide +kernel
theorem dX6_write_74 : decode cX6_write 74 = .ok (.getfield 26, 3) := by decide +kernel
theorem dX6_write_77 : decode cX6_write 77 = .ok (.iload_n 1, 1) := by decide +kernel
theorem dX6_write_78 : decode cX6_write 78 = .ok (.iaload, 1) := by decide +kernel
theorem dX6_write_79 : decode cX6_write 79 = .ok (.ifCond .ne 8, 3) := by decide +kernel
theorem dX6_write_82 : decode cX6_write 82 = .ok (.iload_n 3, 1) := by decide +kernel
theorem dX6_write_83 : decode cX6_write 83 = .ok (.i2b, 1) := by decide +kernel
theorem dX6_write_84 : decode cX6_write 84 = .ok (.goto 19, 3) := by decide +kernel
theorem dX6_write_87 : decode cX6_write 87 = .ok (.aload_n 0, 1) := by decide +kernel
theorem dX6_write_88 : decode cX6_write 88 = .ok (.getfield 26, 3) := by decide +kernel
theorem dX6_write_91 : decode cX6_write 91 = .ok (.iload_n 1, 1) := by decide +kernel
theorem dX6_write_92 : decode cX6_write 92 = .ok (.iaload, 1) := by decide +kernel
theorem dX6_write_93 : decode cX6_write 93 = .ok (.iconst 1, 1) := by decide +kernel
theorem dX6_write_94 : decode cX6_write 94 = .ok (.if_icmp .ne 8, 3) := by decide +kernel
theorem dX6_write_97 : decode cX6_write 97 = .ok (.iload_n 3, 1) := by decide +kernel
theorem dX6_write_98 : decode cX6_write 98 = .ok (.i2s, 1) := by decide +kernel
theorem dX6_write_99 : decode cX6_write 99 = .ok (.goto 4, 3) := by decide +kernel
theorem dX6_write_102 : decode cX6_write 102 = .ok (.iload_n 3, 1) := by decide +kernel
theorem dX6_write_103 : decode cX6_write 103 = .ok (.iastore, 1) := by decide +kernel
theorem dX6_write_104 : decode cX6_write 104 = .ok (.iload 4, 2) := by decide +kernel
theorem dX6_write_106 : decode cX6_write 106 = .ok (.ireturn, 1) := by decide +kernel
theorem dX6_words_0 : decode cX6_words 0 = .ok (.iload_n 1, 1) := by decide +kernel
theorem dX6_words_1 : decode cX6_words 1 = .ok (.invokestatic 71, 3) := by decide +kernel
theorem dX6_words_4 : decode cX6_words 4 = .ok (.ifCond .eq 19, 3) := by decide +kernel
theorem dX6_words_7 : decode cX6_words 7 = .ok (.iload_n 2, 1) := by decide +kernel
theorem dX6_words_8 : decode cX6_words 8 = .ok (.invokestatic 207, 3) := by decide +kernel
theorem dX6_words_11 : decode cX6_words 11 = .ok (.ifCond .eq 12, 3) := by decide +kernel
theorem dX6_words_14 : decode cX6_words 14 = .ok (.iload_n 3, 1) := by decide +kernel
theorem dX6_words_15 : decode cX6_words 15 = .ok (.iconst 0, 1) := by decide +kernel
theorem dX6_words_16 : decode cX6_words 16 = .ok (.iconst 2, 1) := by decide +kernel
theorem dX6_words_17 : decode cX6_words 17 = .ok (.invokestatic 67, 3) := by decide +kernel
theorem dX6_words_20 : decode cX6_words 20 = .ok (.ifCond .ne 7, 3) := by decide +kernel
theorem dX6_words_23 : decode cX6_words 23 = .ok (.sipush (-1002), 3) := by decide +kernel
theorem dX6_words_26 : decode cX6_words 26 = .ok (.ireturn, 1) := by decide +kernel
theorem dX6_words_27 : decode cX6_words 27 = .ok (.aload_n 0, 1) := by decide +kernel
theorem dX6_words_28 : decode cX6_words 28 = .ok (.iload_n 1, 1) := by decide +kernel
theorem dX6_words_29 : decode cX6_words 29 = .ok (.invokevirtual 137, 3) := by decide +kernel
theorem dX6_words_32 : decode cX6_words 32 = .ok (.ifCond .eq 12, 3) := by decide +kernel
theorem dX6_words_35 : decode cX6_words 35 = .ok (.aload_n 0, 1) := by decide +kernel
theorem dX6_words_36 : decode cX6_words 36 = .ok (.getfield 29, 3) := by decide +kernel
theorem dX6_words_39 : decode cX6_words 39 = .ok (.iload_n 2, 1) := by decide +kernel
theorem dX6_words_40 : decode cX6_words 40 = .ok (.iaload, 1) := by decide +kernel
theorem dX6_words_41 : decode cX6_words 41 = .ok (.ifCond .ge 11, 3) := by decide +kernel
theorem dX6_words_44 : decode cX6_words 44 = .ok (.aload_n 0, 1) := by decide +kernel
theorem dX6_words_45 : decode cX6_words 45 = .ok (.sipush (-1010), 3) := by decide +kernel
theorem dX6_words_48 : decode cX6_words 48 = .ok (.invokevirtual 140, 3) := by decide +kernel
theorem dX6_words_51 : decode cX6_words 51 = .ok (.ireturn, 1) := by decide +kernel
theorem dX6_words_52 : decode cX6_words 52 = .ok (.aload_n 0, 1) := by decide +kernel
theorem dX6_words_53 : decode cX6_words 53 = .ok (.getfield 26, 3) := by decide +kernel
theorem dX6_words_56 : decode cX6_words 56 = .ok (.iload_n 2, 1) := by decide +kernel
theorem dX6_words_57 : decode cX6_words 57 = .ok (.iaload, 1) := by decide +kernel
theorem dX6_words_58 : decode cX6_words 58 = .ok (.iload_n 3, 1) := by decide +kernel
theorem dX6_words_59 : decode cX6_words 59 = .ok (.if_icmp .eq 11, 3) := by decide +kernel
theorem dX6_words_62 : decode cX6_words 62 = .ok (.aload_n 0, 1) := by decide +kernel
theorem dX6_words_63 : decode cX6_words 63 = .ok (.sipush (-1012), 3) := by decide +kernel
theorem dX6_words_66 : decode cX6_words 66 = .ok (.invokevirtual 140, 3) := by decide +kernel
theorem dX6_words_69 : decode cX6_words 69 = .ok (.ireturn, 1) := by decide +kernel
theorem dX6_words_70 : decode cX6_words 70 = .ok (.iconst 0, 1) := by decide +kernel
theorem dX6_words_71 : decode cX6_words 71 = .ok (.istore 5, 2) := by decide +kernel
theorem dX6_words_73 : decode cX6_words 73 = .ok (.iload 5, 2) := by decide +kernel
theorem dX6_words_75 : decode cX6_words 75 = .ok (.bipush 6, 2) := by decide +kernel
theorem dX6_words_77 : decode cX6_words 77 = .ok (.if_icmp .ge 56, 3) := by decide +kernel
theorem dX6_words_80 : decode cX6_words 80 = .ok (.iload 4, 2) := by decide +kernel
theorem dX6_words_82 : decode cX6_words 82 = .ok (.i2l, 1) := by decide +kernel
theorem dX6_words_83 : decode cX6_words 83 = .ok (.iload 5, 2) := by decide +kernel
theorem dX6_words_85 : decode cX6_words 85 = .ok (.i2l, 1) := by decide +kernel
theorem dX6_words_86 : decode cX6_words 86 = .ok (.ladd, 1) := by decide +kernel
theorem dX6_words_87 : decode cX6_words 87 = .ok (.lstore 6, 2) := by decide +kernel
theorem dX6_words_89 : decode cX6_words 89 = .ok (.aload_n 0, 1) := by decide +kernel
theorem dX6_words_90 : decode cX6_words 90 = .ok (.iload_n 1, 1) := by decide +kernel
theorem dX6_words_91 : decode cX6_words 91 = .ok (.iload 5, 2) := by decide +kernel
theorem dX6_words_93 : decode cX6_words 93 = .ok (.invokevirtual 146, 3) := by decide +kernel
theorem dX6_words_96 : decode cX6_words 96 = .ok (.ifCond .eq 31, 3) := by decide +kernel
theorem dX6_words_99 : decode cX6_words 99 = .ok (.lload 6, 2) := by decide +kernel
theorem dX6_words_101 : decode cX6_words 101 = .ok (.lconst 0, 1) := by decide +kernel
theorem dX6_words_102 : decode cX6_words 102 = .ok (.lcmp, 1) := by decide +kernel
theorem dX6_words_103 : decode cX6_words 103 = .ok (.ifCond .lt 16, 3) := by decide +kernel
theorem dX6_words_106 : decode cX6_words 106 = .ok (.lload 6, 2) := by decide +kernel
theorem dX6_words_108 : decode cX6_words 108 = .ok (.aload_n 0, 1) := by decide +kernel
theorem dX6_words_109 : decode cX6_words 109 = .ok (.getfield 29, 3) := by decide +kernel
theorem dX6_words_112 : decode cX6_words 112 = .ok (.iload_n 2, 1) := by decide +kernel
theorem dX6_words_113 : decode cX6_words 113 = .ok (.iaload, 1) := by decide +kernel
theorem dX6_words_114 : decode cX6_words 114 = .ok (.i2l, 1) := by decide +kernel
theorem dX6_words_115 : decode cX6_words 115 = .ok (.lcmp, 1) := by decide +kernel
theorem dX6_words_116 : decode cX6_words 116 = .ok (.ifCond .lt 11, 3) := by decide +kernel
theorem dX6_words_119 : decode cX6_words 119 = .ok (.aload_n 0, 1) := by decide +kernel
theorem dX6_words_120 : decode cX6_words 120 = .ok (.sipush (-1011), 3) := by decide +kernel
theorem dX6_words_123 : decode cX6_words 123 = .ok (.invokevirtual 140, 3) := by decide +kernel
theorem dX6_words_126 : decode cX6_words 126 = .ok (.ireturn, 1) := by decide +kernel
theorem dX6_words_127 : decode cX6_words 127 = .ok (.iinc 5 1, 3) := by decide +kernel
theorem dX6_words_130 : decode cX6_words 130 = .ok (.goto (-57), 3) := by decide +kernel
theorem dX6_words_133 : decode cX6_words 133 = .ok (.iconst 0, 1) := by decide +kernel
theorem dX6_words_134 : decode cX6_words 134 = .ok (.istore 5, 2) := by decide +kernel
theorem dX6_words_136 : decode cX6_words 136 = .ok (.iconst 0, 1) := by decide +kernel
theorem dX6_words_137 : decode cX6_words 137 = .ok (.istore 6, 2) := by decide +kernel
theorem dX6_words_139 : decode cX6_words 139 = .ok (.iload 6, 2) := by decide +kernel
theorem dX6_words_141 : decode cX6_words 141 = .ok (.bipush 6, 2) := by decide +kernel
theorem dX6_words_143 : decode cX6_words 143 = .ok (.if_icmp .ge 94, 3) := by decide +kernel
theorem dX6_words_146 : decode cX6_words 146 = .ok (.aload_n 0, 1) := by decide +kernel
theorem dX6_words_147 : decode cX6_words 147 = .ok (.iload_n 1, 1) := by decide +kernel
theorem dX6_words_148 : decode cX6_words 148 = .ok (.iload 6, 2) := by decide +kernel
theorem dX6_words_150 : decode cX6_words 150 = .ok (.invokevirtual 146, 3) := by decide +kernel
theorem dX6_words_153 : decode cX6_words 153 = .ok (.ifCond .eq 78, 3) := by decide +kernel
theorem dX6_words_156 : decode cX6_words 156 = .ok (.aload_n 0, 1) := by decide +kernel
theorem dX6_words_157 : decode cX6_words 157 = .ok (.getfield 32, 3) := by decide +kernel
theorem dX6_words_160 : decode cX6_words 160 = .ok (.bipush 30, 2) := by decide +kernel
theorem dX6_words_162 : decode cX6_words 162 = .ok (.iload_n 2, 1) := by decide +kernel
theorem dX6_words_163 : decode cX6_words 163 = .ok (.imul, 1) := by decide +kernel
theorem dX6_words_164 : decode cX6_words 164 = .ok (.iload 4, 2) := by decide +kernel
theorem dX6_words_166 : decode cX6_words 166 = .ok (.iadd, 1) := by decide +kernel
theorem dX6_words_167 : decode cX6_words 167 = .ok (.iload 6, 2) := by decide +kernel
theorem dX6_words_169 : decode cX6_words 169 = .ok (.iadd, 1) := by decide +kernel
theorem dX6_words_170 : decode cX6_words 170 = .ok (.iaload, 1) := by decide +kernel
theorem dX6_words_171 : decode cX6_words 171 = .ok (.istore 7, 2) := by decide +kernel
theorem dX6_words_173 : decode cX6_words 173 = .ok (.iload 5, 2) := by decide +kernel
theorem dX6_words_175 : decode cX6_words 175 = .ok (.iload 7, 2) := by decide +kernel
theorem dX6_words_177 : decode cX6_words 177 = .ok (.ifCond .lt 10, 3) := by decide +kernel
theorem dX6_words_180 : decode cX6_words 180 = .ok (.iload 7, 2) := by decide +kernel
theorem dX6_words_182 : decode cX6_words 182 = .ok (.bipush 99, 2) := by decide +kernel
theorem dX6_words_184 : decode cX6_words 184 = .ok (.if_icmp .le 7, 3) := by decide +kernel
theorem dX6_words_187 : decode cX6_words 187 = .ok (.iconst 1, 1) := by decide +kernel
theorem dX6_words_188 : decode cX6_words 188 = .ok (.goto 4, 3) := by decide +kernel
theorem dX6_words_191 : decode cX6_words 191 = .ok (.iconst 0, 1) := by decide +kernel
theorem dX6_words_192 : decode cX6_words 192 = .ok (.iadd, 1) := by decide +kernel
theorem dX6_words_193 : decode cX6_words 193 = .ok (.istore 5, 2) := by decide +kernel
theorem dX6_words_195 : decode cX6_words 195 = .ok (.aload_n 0, 1) := by decide +kernel
theorem dX6_words_196 : decode cX6_words 196 = .ok (.getfield 7, 3) := by decide +kernel
theorem dX6_words_199 : decode cX6_words 199 = .ok (.iload_n 1, 1) := by decide +kernel
theorem dX6_words_200 : decode cX6_words 200 = .ok (.iload 6, 2) := by decide +kernel
theorem dX6_words_202 : decode cX6_words 202 = .ok (.invokestatic 75, 3) := by decide +kernel
theorem dX6_words_205 : decode cX6_words 205 = .ok (.iconst 4, 1) := by decide +kernel
theorem dX6_words_206 : decode cX6_words 206 = .ok (.iadd, 1) := by decide +kernel
theorem dX6_words_207 : decode cX6_words 207 = .ok (.iload 7, 2) := by decide +kernel
theorem dX6_words_209 : decode cX6_words 209 = .ok (.ifCond .ge 7, 3) := by decide +kernel
theorem dX6_words_212 : decode cX6_words 212 = .ok (.iconst 0, 1) := by decide +kernel
theorem dX6_words_213 : decode cX6_words 213 = .ok (.goto 17, 3) := by decide +kernel
theorem dX6_words_216 : decode cX6_words 216 = .ok (.iload 7, 2) := by decide +kernel
theorem dX6_words_218 : decode cX6_words 218 = .ok (.bipush 99, 2) := by decide +kernel
theorem dX6_words_220 : decode cX6_words 220 = .ok (.if_icmp .le 8, 3) := by decide +kernel
theorem dX6_words_223 : decode cX6_words 223 = .ok (.bipush 99, 2) := by decide +kernel
theorem dX6_words_225 : decode cX6_words 225 = .ok (.goto 5, 3) := by decide +kernel
theorem dX6_words_228 : decode cX6_words 228 = .ok (.iload 7, 2) := by decide +kernel
theorem dX6_words_230 : decode cX6_words 230 = .ok (.iastore, 1) := by decide +kernel
theorem dX6_words_231 : decode cX6_words 231 = .ok (.iinc 6 1, 3) := by decide +kernel
theorem dX6_words_234 : decode cX6_words 234 = .ok (.goto (-95), 3) := by decide +kernel
theorem dX6_words_237 : decode cX6_words 237 = .ok (.iload 5, 2) := by decide +kernel
theorem dX6_words_239 : decode cX6_words 239 = .ok (.ireturn, 1) := by decide +kernel
theorem dX6_sessions_0 : decode cX6_sessions 0 = .ok (.iload_n 1, 1) := by decide +kernel
theorem dX6_sessions_1 : decode cX6_sessions 1 = .ok (.iconst 0, 1) := by decide +kernel
theorem dX6_sessions_2 : decode cX6_sessions 2 = .ok (.iconst 3, 1) := by decide +kernel
theorem dX6_sessions_3 : decode cX6_sessions 3 = .ok (.invokestatic 67, 3) := by decide +kernel
theorem dX6_sessions_6 : decode cX6_sessions 6 = .ok (.ifCond .eq 14, 3) := by decide +kernel
theorem dX6_sessions_9 : decode cX6_sessions 9 = .ok (.iload_n 2, 1) := by decide +kernel
theorem dX6_sessions_10 : decode cX6_sessions 10 = .ok (.iconst 1, 1) := by decide +kernel
theorem dX6_sessions_11 : decode cX6_sessions 11 = .ok (.sipush 1000, 3) := by decide +kernel
theorem dX6_sessions_14 : decode cX6_sessions 14 = .ok (.invokestatic 67, 3) := by decide +kernel
theorem dX6_sessions_17 : decode cX6_sessions 17 = .ok (.ifCond .ne 7, 3) := by decide +kernel
theorem dX6_sessions_20 : decode cX6_sessions 20 = .ok (.sipush (-1002), 3) := by decide +kernel
theorem dX6_sessions_23 : decode cX6_sessions 23 = .ok (.ireturn, 1) := by decide +kernel
theorem dX6_sessions_24 : decode cX6_sessions 24 = .ok (.iconst 0, 1) := by decide +kernel
theorem dX6_sessions_25 : decode cX6_sessions 25 = .ok (.istore_n 3, 1) := by decide +kernel
theorem dX6_sessions_26 : decode cX6_sessions 26 = .ok (.iconst 0, 1) := by decide +kernel
theorem dX6_sessions_27 : decode cX6_sessions 27 = .ok (.istore 4, 2) := by decide +kernel
theorem dX6_sessions_29 : decode cX6_sessions 29 = .ok (.iconst 0, 1) := by decide +kernel
theorem dX6_sessions_30 : decode cX6_sessions 30 = .ok (.istore 5, 2) := by decide +kernel
theorem dX6_sessions_32 : decode cX6_sessions 32 = .ok (.iload 5, 2) := by decide +kernel
theorem dX6_sessions_34 : decode cX6_sessions 34 = .ok (.bipush 120, 2) := by decide +kernel
theorem dX6_sessions_36 : decode cX6_sessions 36 = .ok (.if_icmp .ge 92, 3) := by decide +kernel
theorem dX6_sessions_39 : decode cX6_sessions 39 = .ok (.iload 5, 2) := by decide +kernel
theorem dX6_sessions_41 : decode cX6_sessions 41 = .ok (.bipush 6, 2) := by decide +kernel
theorem dX6_sessions_43 : decode cX6_sessions 43 = .ok (.idiv, 1) := by decide +kernel
theorem dX6_sessions_44 : decode cX6_sessions 44 = .ok (.iload 5, 2) := by decide +kernel
theorem dX6_sessions_46 : decode cX6_sessions 46 = .ok (.bipush 6, 2) := by decide +kernel
theorem dX6_sessions_48 : decode cX6_sessions 48 = .ok (.irem, 1) := by decide +kernel
theorem dX6_sessions_49 : decode cX6_sessions 49 = .ok (.invokestatic 75, 3) := by decide +kernel
theorem dX6_sessions_52 : decode cX6_sessions 52 = .ok (.istore 6, 2) := by decide +kernel
theorem dX6_sessions_54 : decode cX6_sessions 54 = .ok (.aload_n 0, 1) := by decide +kernel
theorem dX6_sessions_55 : decode cX6_sessions 55 = .ok (.getfield 7, 3) := by decide +kernel
theorem dX6_sessions_58 : decode cX6_sessions 58 = .ok (.iload 6, 2) := by decide +kernel
theorem dX6_sessions_60 : decode cX6_sessions 60 = .ok (.iaload, 1) := by decide +kernel
theorem dX6_sessions_61 : decode cX6_sessions 61 = .ok (.ifCond .le 28, 3) := by decide +kernel
theorem dX6_sessions_64 : decode cX6_sessions 64 = .ok (.aload_n 0, 1) := by decide +kernel
theorem dX6_sessions_65 : decode cX6_sessions 65 = .ok (.getfield 7, 3) := by decide +kernel
theorem dX6_sessions_68 : decode cX6_sessions 68 = .ok (.iload 6, 2) := by decide +kernel
theorem dX6_sessions_70 : decode cX6_sessions 70 = .ok (.iconst 5, 1) := by decide +kernel
theorem dX6_sessions_71 : decode cX6_sessions 71 = .ok (.iadd, 1) := by decide +kernel
theorem dX6_sessions_72 : decode cX6_sessions 72 = .ok (.iaload, 1) := by decide +kernel
theorem dX6_sessions_73 : decode cX6_sessions 73 = .ok (.iload_n 1, 1) := by decide +kernel
theorem dX6_sessions_74 : decode cX6_sessions 74 = .ok (.if_icmp .ne 15, 3) := by decide +kernel
theorem dX6_sessions_77 : decode cX6_sessions 77 = .ok (.aload_n 0, 1) := by decide +kernel
theorem dX6_sessions_78 : decode cX6_sessions 78 = .ok (.getfield 7, 3) := by decide +kernel
theorem dX6_sessions_81 : decode cX6_sessions 81 = .ok (.iload 6, 2) := by decide +kernel
theorem dX6_sessions_83 : decode cX6_sessions 83 = .ok (.iconst 4, 1) := by decide +kernel
theorem dX6_sessions_84 : decode cX6_sessions 84 = .ok (.iadd, 1) := by decide +kernel
theorem dX6_sessions_85 : decode cX6_sessions 85 = .ok (.iaload, 1) := by decide +kernel
theorem dX6_sessions_86 : decode cX6_sessions 86 = .ok (.goto 4, 3) := by decide +kernel
theorem dX6_sessions_89 : decode cX6_sessions 89 = .ok (.iconst 0, 1) := by decide +kernel
theorem dX6_sessions_90 : decode cX6_sessions 90 = .ok (.istore 7, 2) := by decide +kernel
theorem dX6_sessions_92 : decode cX6_sessions 92 = .ok (.iload 7, 2) := by decide +kernel
theorem dX6_sessions_94 : decode cX6_sessions 94 = .ok (.iload_n 2, 1) := by decide +kernel
theorem dX6_sessions_95 : decode cX6_sessions 95 = .ok (.if_icmp .le 7, 3) := by decide +kernel
theorem dX6_sessions_98 : decode cX6_sessions 98 = .ok (.sipush (-1003), 3) := by decide +kernel
theorem dX6_sessions_101 : decode cX6_sessions 101 = .ok (.ireturn, 1) := by decide +kernel
theorem dX6_sessions_102 : decode cX6_sessions 102 = .ok (.iload 7, 2) := by decide +kernel
theorem dX6_sessions_104 : decode cX6_sessions 104 = .ok (.iload 4, 2) := by decide +kernel
theorem dX6_sessions_106 : decode cX6_sessions 106 = .ok (.if_icmp .le 9, 3) := by decide +kernel
theorem dX6_sessions_109 : decode cX6_sessions 109 = .ok (.iinc 3 1, 3) := by decide +kernel
theorem dX6_sessions_112 : decode cX6_sessions 112 = .ok (.iload_n 2, 1) := by decide +kernel
theorem dX6_sessions_113 : decode cX6_sessions 113 = .ok (.istore 4, 2) := by decide +kernel
theorem dX6_sessions_115 : decode cX6_sessions 115 = .ok (.iload 4, 2) := by decide +kernel
theorem dX6_sessions_117 : decode cX6_sessions 117 = .ok (.iload 7, 2) := by decide +kernel
theorem dX6_sessions_119 : decode cX6_sessions 119 = .ok (.isub, 1) := by decide +kernel
theorem dX6_sessions_120 : decode cX6_sessions 120 = .ok (.istore 4, 2) := by decide +kernel
theorem dX6_sessions_122 : decode cX6_sessions 122 = .ok (.iinc 5 1, 3) := by decide +kernel
theorem dX6_sessions_125 : decode cX6_sessions 125 = .ok (.goto (-93), 3) := by decide +kernel
theorem dX6_sessions_128 : decode cX6_sessions 128 = .ok (.iload_n 3, 1) := by decide +kernel
theorem dX6_sessions_129 : decode cX6_sessions 129 = .ok (.ireturn, 1) := by decide +kernel
theorem dX6_tell_0 : decode cX6_tell 0 = .ok (.aload_n 0, 1) := by decide +kernel
theorem dX6_tell_1 : decode cX6_tell 1 = .ok (.getfield 210, 3) := by decide +kernel
theorem dX6_tell_4 : decode cX6_tell 4 = .ok (.bipush 30, 2) := by decide +kernel
theorem dX6_tell_6 : decode cX6_tell 6 = .ok (.if_icmp .ne 7, 3) := by decide +kernel
theorem dX6_tell_9 : decode cX6_tell 9 = .ok (.sipush (-1002), 3) := by decide +kernel
theorem dX6_tell_12 : decode cX6_tell 12 = .ok (.ireturn, 1) := by decide +kernel
theorem dX6_tell_13 : decode cX6_tell 13 = .ok (.aload_n 0, 1) := by decide +kernel
theorem dX6_tell_14 : decode cX6_tell 14 = .ok (.getfield 35, 3) := by decide +kernel
theorem dX6_tell_17 : decode cX6_tell 17 = .ok (.aload_n 0, 1) := by decide +kernel
theorem dX6_tell_18 : decode cX6_tell 18 = .ok (.getfield 210, 3) := by decide +kernel
theorem dX6_tell_21 : decode cX6_tell 21 = .ok (.iload_n 1, 1) := by decide +kernel
theorem dX6_tell_22 : decode cX6_tell 22 = .ok (.iastore, 1) := by decide +kernel
theorem dX6_tell_23 : decode cX6_tell 23 = .ok (.aload_n 0, 1) := by decide +kernel
theorem dX6_tell_24 : decode cX6_tell 24 = .ok (.dup, 1) := by decide +kernel
theorem dX6_tell_25 : decode cX6_tell 25 = .ok (.getfield 210, 3) := by decide +kernel
theorem dX6_tell_28 : decode cX6_tell 28 = .ok (.iconst 1, 1) := by decide +kernel
theorem dX6_tell_29 : decode cX6_tell 29 = .ok (.iadd, 1) := by decide +kernel
theorem dX6_tell_30 : decode cX6_tell 30 = .ok (.putfield 210, 3) := by decide +kernel
theorem dX6_tell_33 : decode cX6_tell 33 = .ok (.aload_n 0, 1) := by decide +kernel
theorem dX6_tell_34 : decode cX6_tell 34 = .ok (.getfield 210, 3) := by decide +kernel
theorem dX6_tell_37 : decode cX6_tell 37 = .ok (.ireturn, 1) := by decide +kernel
theorem dX6_play_0 : decode cX6_play 0 = .ok (.aload_n 0, 1) := by decide +kernel
theorem dX6_play_1 : decode cX6_play 1 = .ok (.getfield 210, 3) := by decide +kernel
theorem dX6_play_4 : decode cX6_play 4 = .ok (.istore_n 1, 1) := by decide +kernel
theorem dX6_play_5 : decode cX6_play 5 = .ok (.aload_n 0, 1) := by decide +kernel
theorem dX6_play_6 : decode cX6_play 6 = .ok (.iconst 0, 1) := by decide +kernel
theorem dX6_play_7 : decode cX6_play 7 = .ok (.putfield 210, 3) := by decide +kernel
theorem dX6_play_10 : decode cX6_play 10 = .ok (.aload_n 0, 1) := by decide +kernel
theorem dX6_play_11 : decode cX6_play 11 = .ok (.iconst 0, 1) := by decide +kernel
theorem dX6_play_12 : decode cX6_play 12 = .ok (.iconst 1, 1) := by decide +kernel
theorem dX6_play_13 : decode cX6_play 13 = .ok (.invokevirtual 161, 3) := by decide +kernel
theorem dX6_play_16 : decode cX6_play 16 = .ok (.ifCond .eq 7, 3) := by decide +kernel
theorem dX6_play_19 : decode cX6_play 19 = .ok (.sipush (-1003), 3) := by decide +kernel
theorem dX6_play_22 : decode cX6_play 22 = .ok (.ireturn, 1) := by decide +kernel
theorem dX6_play_23 : decode cX6_play 23 = .ok (.aload_n 0, 1) := by decide +kernel
theorem dX6_play_24 : decode cX6_play 24 = .ok (.getfield 7, 3) := by decide +kernel
theorem dX6_play_27 : decode cX6_play 27 = .ok (.sipush 1880, 3) := by decide +kernel
theorem dX6_play_30 : decode cX6_play 30 = .ok (.iaload, 1) := by decide +kernel
theorem dX6_play_31 : decode cX6_play 31 = .ok (.istore_n 2, 1) := by decide +kernel
theorem dX6_play_32 : decode cX6_play 32 = .ok (.iconst 0, 1) := by decide +kernel
theorem dX6_play_33 : decode cX6_play 33 = .ok (.istore_n 3, 1) := by decide +kernel
theorem dX6_play_34 : decode cX6_play 34 = .ok (.iconst 1, 1) := by decide +kernel
theorem dX6_play_35 : decode cX6_play 35 = .ok (.istore 4, 2) := by decide +kernel
theorem dX6_play_37 : decode cX6_play 37 = .ok (.iconst 0, 1) := by decide +kernel
theorem dX6_play_38 : decode cX6_play 38 = .ok (.istore 5, 2) := by decide +kernel
theorem dX6_play_40 : decode cX6_play 40 = .ok (.iload 5, 2) := by decide +kernel
theorem dX6_play_42 : decode cX6_play 42 = .ok (.iload_n 1, 1) := by decide +kernel
theorem dX6_play_43 : decode cX6_play 43 = .ok (.if_icmp .ge 85, 3) := by decide +kernel
theorem dX6_play_46 : decode cX6_play 46 = .ok (.iload 4, 2) := by decide +kernel
theorem dX6_play_48 : decode cX6_play 48 = .ok (.ifCond .eq 80, 3) := by decide +kernel
theorem dX6_play_51 : decode cX6_play 51 = .ok (.aload_n 0, 1) := by decide +kernel
theorem dX6_play_52 : decode cX6_play 52 = .ok (.getfield 35, 3) := by decide +kernel
theorem dX6_play_55 : decode cX6_play 55 = .ok (.iload 5, 2) := by decide +kernel
theorem dX6_play_57 : decode cX6_play 57 = .ok (.iaload, 1) := by decide +kernel
theorem dX6_play_58 : decode cX6_play 58 = .ok (.iconst 0, 1) := by decide +kernel
theorem dX6_play_59 : decode cX6_play 59 = .ok (.iconst 5, 1) := by decide +kernel
theorem dX6_play_60 : decode cX6_play 60 = .ok (.invokestatic 67, 3) := by decide +kernel
theorem dX6_play_63 : decode cX6_play 63 = .ok (.ifCond .eq 19, 3) := by decide +kernel
theorem dX6_play_66 : decode cX6_play 66 = .ok (.aload_n 0, 1) := by decide +kernel
theorem dX6_play_67 : decode cX6_play 67 = .ok (.iload_n 2, 1) := by decide +kernel
theorem dX6_play_68 : decode cX6_play 68 = .ok (.aload_n 0, 1) := by decide +kernel
theorem dX6_play_69 : decode cX6_play 69 = .ok (.getfield 35, 3) := by decide +kernel
theorem dX6_play_72 : decode cX6_play 72 = .ok (.iload 5, 2) := by decide +kernel
theorem dX6_play_74 : decode cX6_play 74 = .ok (.iaload, 1) := by decide +kernel
theorem dX6_play_75 : decode cX6_play 75 = .ok (.iconst 1, 1) := by decide +kernel
theorem dX6_play_76 : decode cX6_play 76 = .ok (.invokevirtual 168, 3) := by decide +kernel
theorem dX6_play_79 : decode cX6_play 79 = .ok (.goto 4, 3) := by decide +kernel
theorem dX6_play_82 : decode cX6_play 82 = .ok (.iconst (-1), 1) := by decide +kernel
theorem dX6_play_83 : decode cX6_play 83 = .ok (.istore 6, 2) := by decide +kernel
theorem dX6_play_85 : decode cX6_play 85 = .ok (.iload 6, 2) := by decide +kernel
theorem dX6_play_87 : decode cX6_play 87 = .ok (.ifCond .lt 7, 3) := by decide +kernel
theorem dX6_play_90 : decode cX6_play 90 = .ok (.iconst 1, 1) := by decide +kernel
theorem dX6_play_91 : decode cX6_play 91 = .ok (.goto 4, 3) := by decide +kernel
theorem dX6_play_94 : decode cX6_play 94 = .ok (.iconst 0, 1) := by decide +kernel
theorem dX6_play_95 : decode cX6_play 95 = .ok (.istore 4, 2) := by decide +kernel
theorem dX6_play_97 : decode cX6_play 97 = .ok (.iload 4, 2) := by decide +kernel
theorem dX6_play_99 : decode cX6_play 99 = .ok (.ifCond .eq 8, 3) := by decide +kernel
theorem dX6_play_102 : decode cX6_play 102 = .ok (.iload 6, 2) := by decide +kernel
theorem dX6_play_104 : decode cX6_play 104 = .ok (.goto 4, 3) := by decide +kernel
theorem dX6_play_107 : decode cX6_play 107 = .ok (.iload_n 2, 1) := by decide +kernel
theorem dX6_play_108 : decode cX6_play 108 = .ok (.istore_n 2, 1) := by decide +kernel
theorem dX6_play_109 : decode cX6_play 109 = .ok (.iload_n 3, 1) := by decide +kernel
theorem dX6_play_110 : decode cX6_play 110 = .ok (.iload 4, 2) := by decide +kernel
theorem dX6_play_112 : decode cX6_play 112 = .ok (.ifCond .eq 7, 3) := by decide +kernel
theorem dX6_play_115 : decode cX6_play 115 = .ok (.iconst 1, 1) := by decide +kernel
theorem dX6_play_116 : decode cX6_play 116 = .ok (.goto 4, 3) := by decide +kernel
theorem dX6_play_119 : decode cX6_play 119 = .ok (.iconst 0, 1) := by decide +kernel
theorem dX6_play_120 : decode cX6_play 120 = .ok (.iadd, 1) := by decide +kernel
theorem dX6_play_121 : decode cX6_play 121 = .ok (.istore_n 3, 1) := by decide +kernel
theorem dX6_play_122 : decode cX6_play 122 = .ok (.iinc 5 1, 3) := by decide +kernel
theorem dX6_play_125 : decode cX6_play 125 = .ok (.goto (-85), 3) := by decide +kernel
theorem dX6_play_128 : decode cX6_play 128 = .ok (.aload_n 0, 1) := by decide +kernel
theorem dX6_play_129 : decode cX6_play 129 = .ok (.iconst 1, 1) := by decide +kernel
theorem dX6_play_130 : decode cX6_play 130 = .ok (.putfield 213, 3) := by decide +kernel
theorem dX6_play_133 : decode cX6_play 133 = .ok (.aload_n 0, 1) := by decide +kernel
theorem dX6_play_134 : decode cX6_play 134 = .ok (.iload_n 2, 1) := by decide +kernel
theorem dX6_play_135 : decode cX6_play 135 = .ok (.sipush 256, 3) := by decide +kernel
theorem dX6_play_138 : decode cX6_play 138 = .ok (.idiv, 1) := by decide +kernel
theorem dX6_play_139 : decode cX6_play 139 = .ok (.putfield 216, 3) := by decide +kernel
theorem dX6_play_142 : decode cX6_play 142 = .ok (.aload_n 0, 1) := by decide +kernel
theorem dX6_play_143 : decode cX6_play 143 = .ok (.iload_n 2, 1) := by decide +kernel
theorem dX6_play_144 : decode cX6_play 144 = .ok (.sipush 256, 3) := by decide +kernel
theorem dX6_play_147 : decode cX6_play 147 = .ok (.irem, 1) := by decide +kernel
theorem dX6_play_148 : decode cX6_play 148 = .ok (.putfield 219, 3) := by decide +kernel
theorem dX6_play_151 : decode cX6_play 151 = .ok (.iload_n 3, 1) := by decide +kernel
theorem dX6_play_152 : decode cX6_play 152 = .ok (.ireturn, 1) := by decide +kernel
theorem dX6_at__0 : decode cX6_at_ 0 = .ok (.aload_n 0, 1) := by decide +kernel
theorem dX6_at__1 : decode cX6_at_ 1 = .ok (.getfield 213, 3) := by decide +kernel
theorem dX6_at__4 : decode cX6_at_ 4 = .ok (.ifCond .ne 7, 3) := by decide +kernel
theorem dX6_at__7 : decode cX6_at_ 7 = .ok (.sipush (-1003), 3) := by decide +kernel
theorem dX6_at__10 : decode cX6_at_ 10 = .ok (.ireturn, 1) := by decide +kernel
theorem dX6_at__11 : decode cX6_at_ 11 = .ok (.iload_n 1, 1) := by decide +kernel
theorem dX6_at__12 : decode cX6_at_ 12 = .ok (.ifCond .ne 10, 3) := by decide +kernel
theorem dX6_at__15 : decode cX6_at_ 15 = .ok (.aload_n 0, 1) := by decide +kernel
theorem dX6_at__16 : decode cX6_at_ 16 = .ok (.getfield 216, 3) := by decide +kernel
theorem dX6_at__19 : decode cX6_at_ 19 = .ok (.goto 18, 3) := by decide +kernel
theorem dX6_at__22 : decode cX6_at_ 22 = .ok (.iload_n 1, 1) := by decide +kernel
theorem dX6_at__23 : decode cX6_at_ 23 = .ok (.iconst 1, 1) := by decide +kernel
theorem dX6_at__24 : decode cX6_at_ 24 = .ok (.if_icmp .ne 10, 3) := by decide +kernel
theorem dX6_at__27 : decode cX6_at_ 27 = .ok (.aload_n 0, 1) := by decide +kernel
theorem dX6_at__28 : decode cX6_at_ 28 = .ok (.getfield 219, 3) := by decide +kernel
theorem dX6_at__31 : decode cX6_at_ 31 = .ok (.goto 6, 3) := by decide +kernel
theorem dX6_at__34 : decode cX6_at_ 34 = .ok (.sipush (-1002), 3) := by decide +kernel
theorem dX6_at__37 : decode cX6_at_ 37 = .ok (.ireturn, 1) := by decide +kernel
theorem dX6_carry_0 : decode cX6_carry 0 = .ok (.iconst 0, 1) := by decide +kernel
theorem dX6_carry_1 : decode cX6_carry 1 = .ok (.istore_n 2, 1) := by decide +kernel
theorem dX6_carry_2 : decode cX6_carry 2 = .ok (.iload_n 2, 1) := by decide +kernel
theorem dX6_carry_3 : decode cX6_carry 3 = .ok (.sipush 1881, 3) := by decide +kernel
theorem dX6_carry_6 : decode cX6_carry 6 = .ok (.if_icmp .ge 15, 3) := by decide +kernel
theorem dX6_carry_9 : decode cX6_carry 9 = .ok (.aload_n 1, 1) := by decide +kernel
theorem dX6_carry_10 : decode cX6_carry 10 = .ok (.iload_n 2, 1) := by decide +kernel
theorem dX6_carry_11 : decode cX6_carry 11 = .ok (.aload_n 0, 1) := by decide +kernel
theorem dX6_carry_12 : decode cX6_carry 12 = .ok (.iload_n 2, 1) := by decide +kernel
theorem dX6_carry_13 : decode cX6_carry 13 = .ok (.iaload, 1) := by decide +kernel
theorem dX6_carry_14 : decode cX6_carry 14 = .ok (.iastore, 1) := by decide +kernel
theorem dX6_carry_15 : decode cX6_carry 15 = .ok (.iinc 2 1, 3) := by decide +kernel
theorem dX6_carry_18 : decode cX6_carry 18 = .ok (.goto (-16), 3) := by decide +kernel
theorem dX6_carry_21 : decode cX6_carry 21 = .ok (.return_, 1) := by decide +kernel
theorem dX6_keep_0 : decode cX6_keep 0 = .ok (.iload_n 1, 1) := by decide +kernel
theorem dX6_keep_1 : decode cX6_keep 1 = .ok (.iconst 0, 1) := by decide +kernel
theorem dX6_keep_2 : decode cX6_keep 2 = .ok (.iconst 1, 1) := by decide +kernel
theorem dX6_keep_3 : decode cX6_keep 3 = .ok (.invokestatic 67, 3) := by decide +kernel
theorem dX6_keep_6 : decode cX6_keep 6 = .ok (.ifCond .ne 7, 3) := by decide +kernel
theorem dX6_keep_9 : decode cX6_keep 9 = .ok (.sipush (-1002), 3) := by decide +kernel
theorem dX6_keep_12 : decode cX6_keep 12 = .ok (.ireturn, 1) := by decide +kernel
theorem dX6_keep_13 : decode cX6_keep 13 = .ok (.aload_n 0, 1) := by decide +kernel
theorem dX6_keep_14 : decode cX6_keep 14 = .ok (.getfield 7, 3) := by decide +kernel
theorem dX6_keep_17 : decode cX6_keep 17 = .ok (.iload_n 1, 1) := by decide +kernel
theorem dX6_keep_18 : decode cX6_keep 18 = .ok (.ifCond .ne 10, 3) := by decide +kernel
theorem dX6_keep_21 : decode cX6_keep 21 = .ok (.aload_n 0, 1) := by decide +kernel
theorem dX6_keep_22 : decode cX6_keep 22 = .ok (.getfield 13, 3) := by decide +kernel
theorem dX6_keep_25 : decode cX6_keep 25 = .ok (.goto 7, 3) := by decide +kernel
theorem dX6_keep_28 : decode cX6_keep 28 = .ok (.aload_n 0, 1) := by decide +kernel
theorem dX6_keep_29 : decode cX6_keep 29 = .ok (.getfield 16, 3) := by decide +kernel
theorem dX6_keep_32 : decode cX6_keep 32 = .ok (.invokestatic 222, 3) := by decide +kernel
theorem dX6_keep_35 : decode cX6_keep 35 = .ok (.aload_n 0, 1) := by decide +kernel
theorem dX6_keep_36 : decode cX6_keep 36 = .ok (.dup, 1) := by decide +kernel
theorem dX6_keep_37 : decode cX6_keep 37 = .ok (.getfield 226, 3) := by decide +kernel
theorem dX6_keep_40 : decode cX6_keep 40 = .ok (.iload_n 1, 1) := by decide +kernel
theorem dX6_keep_41 : decode cX6_keep 41 = .ok (.ifCond .ne 7, 3) := by decide +kernel
theorem dX6_keep_44 : decode cX6_keep 44 = .ok (.iconst 1, 1) := by decide +kernel
theorem dX6_keep_45 : decode cX6_keep 45 = .ok (.goto 4, 3) := by decide +kernel
theorem dX6_keep_48 : decode cX6_keep 48 = .ok (.iconst 0, 1) := by decide +kernel
theorem dX6_keep_49 : decode cX6_keep 49 = .ok (.ior, 1) := by decide +kernel
theorem dX6_keep_50 : decode cX6_keep 50 = .ok (.putfield 226, 3) := by decide +kernel
theorem dX6_keep_53 : decode cX6_keep 53 = .ok (.aload_n 0, 1) := by decide +kernel
theorem dX6_keep_54 : decode cX6_keep 54 = .ok (.dup, 1) := by decide +kernel
theorem dX6_keep_55 : decode cX6_keep 55 = .ok (.getfield 229, 3) := by decide +kernel
theorem dX6_keep_58 : decode cX6_keep 58 = .ok (.iload_n 1, 1) := by decide +kernel
theorem dX6_keep_59 : decode cX6_keep 59 = .ok (.iconst 1, 1) := by decide +kernel
theorem dX6_keep_60 : decode cX6_keep 60 = .ok (.if_icmp .ne 7, 3) := by decide +kernel
theorem dX6_keep_63 : decode cX6_keep 63 = .ok (.iconst 1, 1) := by decide +kernel
theorem dX6_keep_64 : decode cX6_keep 64 = .ok (.goto 4, 3) := by decide +kernel
theorem dX6_keep_67 : decode cX6_keep 67 = .ok (.iconst 0, 1) := by decide +kernel
theorem dX6_keep_68 : decode cX6_keep 68 = .ok (.ior, 1) := by decide +kernel
theorem dX6_keep_69 : decode cX6_keep 69 = .ok (.putfield 229, 3) := by decide +kernel
theorem dX6_keep_72 : decode cX6_keep 72 = .ok (.iconst 1, 1) := by decide +kernel
theorem dX6_keep_73 : decode cX6_keep 73 = .ok (.ireturn, 1) := by decide +kernel
theorem dX6_back_0 : decode cX6_back 0 = .ok (.iload_n 1, 1) := by decide +kernel
theorem dX6_back_1 : decode cX6_back 1 = .ok (.iconst 0, 1) := by decide +kernel
theorem dX6_back_2 : decode cX6_back 2 = .ok (.iconst 1, 1) := by decide +kernel
theorem dX6_back_3 : decode cX6_back 3 = .ok (.invokestatic 67, 3) := by decide +kernel
theorem dX6_back_6 : decode cX6_back 6 = .ok (.ifCond .ne 7, 3) := by decide +kernel
theorem dX6_back_9 : decode cX6_back 9 = .ok (.sipush (-1002), 3) := by decide +kernel
theorem dX6_back_12 : decode cX6_back 12 = .ok (.ireturn, 1) := by decide +kernel
theorem dX6_back_13 : decode cX6_back 13 = .ok (.iload_n 1, 1) := by decide +kernel
theorem dX6_back_14 : decode cX6_back 14 = .ok (.ifCond .ne 13, 3) := by decide +kernel
theorem dX6_back_17 : decode cX6_back 17 = .ok (.aload_n 0, 1) := by decide +kernel
theorem dX6_back_18 : decode cX6_back 18 = .ok (.getfield 226, 3) := by decide +kernel
theorem dX6_back_21 : decode cX6_back 21 = .ok (.ifCond .ne 21, 3) := by decide +kernel
theorem dX6_back_24 : decode cX6_back 24 = .ok (.goto 10, 3) := by decide +kernel
theorem dX6_back_27 : decode cX6_back 27 = .ok (.aload_n 0, 1) := by decide +kernel
theorem dX6_back_28 : decode cX6_back 28 = .ok (.getfield 229, 3) := by decide +kernel
theorem dX6_back_31 : decode cX6_back 31 = .ok (.ifCond .ne 11, 3) := by decide +kernel
theorem dX6_back_34 : decode cX6_back 34 = .ok (.aload_n 0, 1) := by decide +kernel
theorem dX6_back_35 : decode cX6_back 35 = .ok (.sipush (-1010), 3) := by decide +kernel
theorem dX6_back_38 : decode cX6_back 38 = .ok (.invokevirtual 140, 3) := by decide +kernel
theorem dX6_back_41 : decode cX6_back 41 = .ok (.ireturn, 1) := by decide +kernel
theorem dX6_back_42 : decode cX6_back 42 = .ok (.iload_n 1, 1) := by decide +kernel
theorem dX6_back_43 : decode cX6_back 43 = .ok (.ifCond .ne 10, 3) := by decide +kernel
theorem dX6_back_46 : decode cX6_back 46 = .ok (.aload_n 0, 1) := by decide +kernel
theorem dX6_back_47 : decode cX6_back 47 = .ok (.getfield 13, 3) := by decide +kernel
theorem dX6_back_50 : decode cX6_back 50 = .ok (.goto 7, 3) := by decide +kernel
theorem dX6_back_53 : decode cX6_back 53 = .ok (.aload_n 0, 1) := by decide +kernel
theorem dX6_back_54 : decode cX6_back 54 = .ok (.getfield 16, 3) := by decide +kernel
theorem dX6_back_57 : decode cX6_back 57 = .ok (.aload_n 0, 1) := by decide +kernel
theorem dX6_back_58 : decode cX6_back 58 = .ok (.getfield 7, 3) := by decide +kernel
theorem dX6_back_61 : decode cX6_back 61 = .ok (.invokestatic 222, 3) := by decide +kernel
theorem dX6_back_64 : decode cX6_back 64 = .ok (.iconst 1, 1) := by decide +kernel
theorem dX6_back_65 : decode cX6_back 65 = .ok (.ireturn, 1) := by decide +kernel
theorem dX6_itemFrom_0 : decode cX6_itemFrom 0 = .ok (.iload_n 0, 1) := by decide +kernel
theorem dX6_itemFrom_1 : decode cX6_itemFrom 1 = .ok (.sipush 140, 3) := by decide +kernel
theorem dX6_itemFrom_4 : decode cX6_itemFrom 4 = .ok (.if_icmp .ne 9, 3) := by decide +kernel
theorem dX6_itemFrom_7 : decode cX6_itemFrom 7 = .ok (.sipush 1880, 3) := by decide +kernel
theorem dX6_itemFrom_10 : decode cX6_itemFrom 10 = .ok (.goto 33, 3) := by decide +kernel
theorem dX6_itemFrom_13 : decode cX6_itemFrom 13 = .ok (.iload_n 0, 1) := by decide +kernel
theorem dX6_itemFrom_14 : decode cX6_itemFrom 14 = .ok (.bipush 7, 2) := by decide +kernel
theorem dX6_itemFrom_16 : decode cX6_itemFrom 16 = .ok (.irem, 1) := by decide +kernel
theorem dX6_itemFrom_17 : decode cX6_itemFrom 17 = .ok (.ifCond .ne 13, 3) := by decide +kernel
theorem dX6_itemFrom_20 : decode cX6_itemFrom 20 = .ok (.bipush 10, 2) := by decide +kernel
theorem dX6_itemFrom_22 : decode cX6_itemFrom 22 = .ok (.iload_n 0, 1) := by decide +kernel
theorem dX6_itemFrom_23 : decode cX6_itemFrom 23 = .ok (.bipush 7, 2) := by decide +kernel
theorem dX6_itemFrom_25 : decode cX6_itemFrom 25 = .ok (.idiv, 1) := by decide +kernel
theorem dX6_itemFrom_26 : decode cX6_itemFrom 26 = .ok (.imul, 1) := by decide +kernel
theorem dX6_itemFrom_27 : decode cX6_itemFrom 27 = .ok (.goto 16, 3) := by decide +kernel
theorem dX6_itemFrom_30 : decode cX6_itemFrom 30 = .ok (.iload_n 0, 1) := by decide +kernel
theorem dX6_itemFrom_31 : decode cX6_itemFrom 31 = .ok (.bipush 7, 2) := by decide +kernel
theorem dX6_itemFrom_33 : decode cX6_itemFrom 33 = .ok (.idiv, 1) := by decide +kernel
theorem dX6_itemFrom_34 : decode cX6_itemFrom 34 = .ok (.iload_n 0, 1) := by decide +kernel
theorem dX6_itemFrom_35 : decode cX6_itemFrom 35 = .ok (.bipush 7, 2) := by decide +kernel
theorem dX6_itemFrom_37 : decode cX6_itemFrom 37 = .ok (.irem, 1) := by decide +kernel
theorem dX6_itemFrom_38 : decode cX6_itemFrom 38 = .ok (.iconst 1, 1) := by decide +kernel
theorem dX6_itemFrom_39 : decode cX6_itemFrom 39 = .ok (.isub, 1) := by decide +kernel
theorem dX6_itemFrom_40 : decode cX6_itemFrom 40 = .ok (.invokestatic 75, 3) := by decide +kernel
theorem dX6_itemFrom_43 : decode cX6_itemFrom 43 = .ok (.ireturn, 1) := by decide +kernel
theorem dX6_itemWide_0 : decode cX6_itemWide 0 = .ok (.iload_n 0, 1) := by decide +kernel
theorem dX6_itemWide_1 : decode cX6_itemWide 1 = .ok (.sipush 140, 3) := by decide +kernel
theorem dX6_itemWide_4 : decode cX6_itemWide 4 = .ok (.if_icmp .ne 7, 3) := by decide +kernel
theorem dX6_itemWide_7 : decode cX6_itemWide 7 = .ok (.iconst 1, 1) := by decide +kernel
theorem dX6_itemWide_8 : decode cX6_itemWide 8 = .ok (.goto 17, 3) := by decide +kernel
theorem dX6_itemWide_11 : decode cX6_itemWide 11 = .ok (.iload_n 0, 1) := by decide +kernel
theorem dX6_itemWide_12 : decode cX6_itemWide 12 = .ok (.bipush 7, 2) := by decide +kernel
theorem dX6_itemWide_14 : decode cX6_itemWide 14 = .ok (.irem, 1) := by decide +kernel
theorem dX6_itemWide_15 : decode cX6_itemWide 15 = .ok (.ifCond .ne 8, 3) := by decide +kernel
theorem dX6_itemWide_18 : decode cX6_itemWide 18 = .ok (.bipush 10, 2) := by decide +kernel
theorem dX6_itemWide_20 : decode cX6_itemWide 20 = .ok (.goto 5, 3) := by decide +kernel
theorem dX6_itemWide_23 : decode cX6_itemWide 23 = .ok (.bipush 14, 2) := by decide +kernel
theorem dX6_itemWide_25 : decode cX6_itemWide 25 = .ok (.ireturn, 1) := by decide +kernel
theorem dX6_differs_0 : decode cX6_differs 0 = .ok (.iconst 0, 1) := by decide +kernel
theorem dX6_differs_1 : decode cX6_differs 1 = .ok (.istore_n 3, 1) := by decide +kernel
theorem dX6_differs_2 : decode cX6_differs 2 = .ok (.iload_n 0, 1) := by decide +kernel
theorem dX6_differs_3 : decode cX6_differs 3 = .ok (.invokestatic 232, 3) := by decide +kernel
theorem dX6_differs_6 : decode cX6_differs 6 = .ok (.istore 4, 2) := by decide +kernel
theorem dX6_differs_8 : decode cX6_differs 8 = .ok (.iload 4, 2) := by decide +kernel
theorem dX6_differs_10 : decode cX6_differs 10 = .ok (.istore 5, 2) := by decide +kernel
theorem dX6_differs_12 : decode cX6_differs 12 = .ok (.iload 5, 2) := by decide +kernel
theorem dX6_differs_14 : decode cX6_differs 14 = .ok (.iload 4, 2) := by decide +kernel
theorem dX6_differs_16 : decode cX6_differs 16 = .ok (.iload_n 0, 1) := by decide +kernel
theorem dX6_differs_17 : decode cX6_differs 17 = .ok (.invokestatic 235, 3) := by decide +kernel
theorem dX6_differs_20 : decode cX6_differs 20 = .ok (.iadd, 1) := by decide +kernel
theorem dX6_differs_21 : decode cX6_differs 21 = .ok (.if_icmp .ge 28, 3) := by decide +kernel
theorem dX6_differs_24 : decode cX6_differs 24 = .ok (.iload_n 3, 1) := by decide +kernel
theorem dX6_differs_25 : decode cX6_differs 25 = .ok (.aload_n 1, 1) := by decide +kernel
theorem dX6_differs_26 : decode cX6_differs 26 = .ok (.iload 5, 2) := by decide +kernel
theorem dX6_differs_28 : decode cX6_differs 28 = .ok (.iaload, 1) := by decide +kernel
theorem dX6_differs_29 : decode cX6_differs 29 = .ok (.aload_n 2, 1) := by decide +kernel
theorem dX6_differs_30 : decode cX6_differs 30 = .ok (.iload 5, 2) := by decide +kernel
theorem dX6_differs_32 : decode cX6_differs 32 = .ok (.iaload, 1) := by decide +kernel
theorem dX6_differs_33 : decode cX6_differs 33 = .ok (.if_icmp .eq 7, 3) := by decide +kernel
theorem dX6_differs_36 : decode cX6_differs 36 = .ok (.iconst 1, 1) := by decide +kernel
theorem dX6_differs_37 : decode cX6_differs 37 = .ok (.goto 4, 3) := by decide +kernel
theorem dX6_differs_40 : decode cX6_differs 40 = .ok (.iconst 0, 1) := by decide +kernel
theorem dX6_differs_41 : decode cX6_differs 41 = .ok (.ior, 1) := by decide +kernel
theorem dX6_differs_42 : decode cX6_differs 42 = .ok (.istore_n 3, 1) := by decide +kernel
theorem dX6_differs_43 : decode cX6_differs 43 = .ok (.iinc 5 1, 3) := by decide +kernel
theorem dX6_differs_46 : decode cX6_differs 46 = .ok (.goto (-34), 3) := by decide +kernel
theorem dX6_differs_49 : decode cX6_differs 49 = .ok (.iload_n 3, 1) := by decide +kernel
theorem dX6_differs_50 : decode cX6_differs 50 = .ok (.ireturn, 1) := by decide +kernel
theorem dX6_clashes_0 : decode cX6_clashes 0 = .ok (.iload_n 1, 1) := by decide +kernel
theorem dX6_clashes_1 : decode cX6_clashes 1 = .ok (.aload_n 0, 1) := by decide +kernel
theorem dX6_clashes_2 : decode cX6_clashes 2 = .ok (.getfield 7, 3) := by decide +kernel
theorem dX6_clashes_5 : decode cX6_clashes 5 = .ok (.aload_n 0, 1) := by decide +kernel
theorem dX6_clashes_6 : decode cX6_clashes 6 = .ok (.getfield 16, 3) := by decide +kernel
theorem dX6_clashes_9 : decode cX6_clashes 9 = .ok (.invokestatic 238, 3) := by decide +kernel
theorem dX6_clashes_12 : decode cX6_clashes 12 = .ok (.ifCond .eq 37, 3) := by decide +kernel
theorem dX6_clashes_15 : decode cX6_clashes 15 = .ok (.iload_n 1, 1) := by decide +kernel
theorem dX6_clashes_16 : decode cX6_clashes 16 = .ok (.aload_n 0, 1) := by decide +kernel
theorem dX6_clashes_17 : decode cX6_clashes 17 = .ok (.getfield 7, 3) := by decide +kernel
theorem dX6_clashes_20 : decode cX6_clashes 20 = .ok (.aload_n 0, 1) := by decide +kernel
theorem dX6_clashes_21 : decode cX6_clashes 21 = .ok (.getfield 13, 3) := by decide +kernel
theorem dX6_clashes_24 : decode cX6_clashes 24 = .ok (.invokestatic 238, 3) := by decide +kernel
theorem dX6_clashes_27 : decode cX6_clashes 27 = .ok (.ifCond .eq 22, 3) := by decide +kernel
theorem dX6_clashes_30 : decode cX6_clashes 30 = .ok (.iload_n 1, 1) := by decide +kernel
theorem dX6_clashes_31 : decode cX6_clashes 31 = .ok (.aload_n 0, 1) := by decide +kernel
theorem dX6_clashes_32 : decode cX6_clashes 32 = .ok (.getfield 16, 3) := by decide +kernel
theorem dX6_clashes_35 : decode cX6_clashes 35 = .ok (.aload_n 0, 1) := by decide +kernel
theorem dX6_clashes_36 : decode cX6_clashes 36 = .ok (.getfield 13, 3) := by decide +kernel
theorem dX6_clashes_39 : decode cX6_clashes 39 = .ok (.invokestatic 238, 3) := by decide +kernel
theorem dX6_clashes_42 : decode cX6_clashes 42 = .ok (.ifCond .eq 7, 3) := by decide +kernel
theorem dX6_clashes_45 : decode cX6_clashes 45 = .ok (.iconst 1, 1) := by decide +kernel
theorem dX6_clashes_46 : decode cX6_clashes 46 = .ok (.goto 4, 3) := by decide +kernel
theorem dX6_clashes_49 : decode cX6_clashes 49 = .ok (.iconst 0, 1) := by decide +kernel
theorem dX6_clashes_50 : decode cX6_clashes 50 = .ok (.ireturn, 1) := by decide +kernel
theorem dX6_melt_0 : decode cX6_melt 0 = .ok (.aload_n 0, 1) := by decide +kernel
theorem dX6_melt_1 : decode cX6_melt 1 = .ok (.getfield 226, 3) := by decide +kernel
theorem dX6_melt_4 : decode cX6_melt 4 = .ok (.ifCond .eq 10, 3) := by decide +kernel
theorem dX6_melt_7 : decode cX6_melt 7 = .ok (.aload_n 0, 1) := by decide +kernel
theorem dX6_melt_8 : decode cX6_melt 8 = .ok (.getfield 229, 3) := by decide +kernel
theorem dX6_melt_11 : decode cX6_melt 11 = .ok (.ifCond .ne 11, 3) := by decide +kernel
theorem dX6_melt_14 : decode cX6_melt 14 = .ok (.aload_n 0, 1) := by decide +kernel
theorem dX6_melt_15 : decode cX6_melt 15 = .ok (.sipush (-1010), 3) := by decide +kernel
theorem dX6_melt_18 : decode cX6_melt 18 = .ok (.invokevirtual 140, 3) := by decide +kernel
theorem dX6_melt_21 : decode cX6_melt 21 = .ok (.ireturn, 1) := by decide +kernel
theorem dX6_melt_22 : decode cX6_melt 22 = .ok (.iconst 0, 1) := by decide +kernel
theorem dX6_melt_23 : decode cX6_melt 23 = .ok (.istore_n 1, 1) := by decide +kernel
theorem dX6_melt_24 : decode cX6_melt 24 = .ok (.iload_n 1, 1) := by decide +kernel
theorem dX6_melt_25 : decode cX6_melt 25 = .ok (.sipush 141, 3) := by decide +kernel
theorem dX6_melt_28 : decode cX6_melt 28 = .ok (.if_icmp .ge 21, 3) := by decide +kernel
theorem dX6_melt_31 : decode cX6_melt 31 = .ok (.aload_n 0, 1) := by decide +kernel
theorem dX6_melt_32 : decode cX6_melt 32 = .ok (.iload_n 1, 1) := by decide +kernel
theorem dX6_melt_33 : decode cX6_melt 33 = .ok (.invokevirtual 242, 3) := by decide +kernel
theorem dX6_melt_36 : decode cX6_melt 36 = .ok (.ifCond .eq 7, 3) := by decide +kernel
theorem dX6_melt_39 : decode cX6_melt 39 = .ok (.sipush (-1004), 3) := by decide +kernel
theorem dX6_melt_42 : decode cX6_melt 42 = .ok (.ireturn, 1) := by decide +kernel
theorem dX6_melt_43 : decode cX6_melt 43 = .ok (.iinc 1 1, 3) := by decide +kernel
theorem dX6_melt_46 : decode cX6_melt 46 = .ok (.goto (-22), 3) := by decide +kernel
theorem dX6_melt_49 : decode cX6_melt 49 = .ok (.iconst 0, 1) := by decide +kernel
theorem dX6_melt_50 : decode cX6_melt 50 = .ok (.istore_n 1, 1) := by decide +kernel
theorem dX6_melt_51 : decode cX6_melt 51 = .ok (.iconst 0, 1) := by decide +kernel
theorem dX6_melt_52 : decode cX6_melt 52 = .ok (.istore_n 2, 1) := by decide +kernel
theorem dX6_melt_53 : decode cX6_melt 53 = .ok (.iload_n 2, 1) := by decide +kernel
theorem dX6_melt_54 : decode cX6_melt 54 = .ok (.sipush 141, 3) := by decide +kernel
theorem dX6_melt_57 : decode cX6_melt 57 = .ok (.if_icmp .ge 86, 3) := by decide +kernel
theorem dX6_melt_60 : decode cX6_melt 60 = .ok (.iload_n 2, 1) := by decide +kernel
theorem dX6_melt_61 : decode cX6_melt 61 = .ok (.aload_n 0, 1) := by decide +kernel
theorem dX6_melt_62 : decode cX6_melt 62 = .ok (.getfield 16, 3) := by decide +kernel
theorem dX6_melt_65 : decode cX6_melt 65 = .ok (.aload_n 0, 1) := by decide +kernel
theorem dX6_melt_66 : decode cX6_melt 66 = .ok (.getfield 13, 3) := by decide +kernel
theorem dX6_melt_69 : decode cX6_melt 69 = .ok (.invokestatic 238, 3) := by decide +kernel
theorem dX6_melt_72 : decode cX6_melt 72 = .ok (.ifCond .eq 65, 3) := by decide +kernel
theorem dX6_melt_75 : decode cX6_melt 75 = .ok (.iload_n 1, 1) := by decide +kernel
theorem dX6_melt_76 : decode cX6_melt 76 = .ok (.iload_n 2, 1) := by decide +kernel
theorem dX6_melt_77 : decode cX6_melt 77 = .ok (.aload_n 0, 1) := by decide +kernel
theorem dX6_melt_78 : decode cX6_melt 78 = .ok (.getfield 16, 3) := by decide +kernel
theorem dX6_melt_81 : decode cX6_melt 81 = .ok (.aload_n 0, 1) := by decide +kernel
theorem dX6_melt_82 : decode cX6_melt 82 = .ok (.getfield 7, 3) := by decide +kernel
theorem dX6_melt_85 : decode cX6_melt 85 = .ok (.invokestatic 238, 3) := by decide +kernel
theorem dX6_melt_88 : decode cX6_melt 88 = .ok (.ifCond .eq 7, 3) := by decide +kernel
theorem dX6_melt_91 : decode cX6_melt 91 = .ok (.iconst 1, 1) := by decide +kernel
theorem dX6_melt_92 : decode cX6_melt 92 = .ok (.goto 4, 3) := by decide +kernel
theorem dX6_melt_95 : decode cX6_melt 95 = .ok (.iconst 0, 1) := by decide +kernel
theorem dX6_melt_96 : decode cX6_melt 96 = .ok (.iadd, 1) := by decide +kernel
theorem dX6_melt_97 : decode cX6_melt 97 = .ok (.istore_n 1, 1) := by decide +kernel
theorem dX6_melt_98 : decode cX6_melt 98 = .ok (.iload_n 2, 1) := by decide +kernel
theorem dX6_melt_99 : decode cX6_melt 99 = .ok (.invokestatic 232, 3) := by decide +kernel
theorem dX6_melt_102 : decode cX6_melt 102 = .ok (.istore_n 3, 1) := by decide +kernel
theorem dX6_melt_103 : decode cX6_melt 103 = .ok (.iload_n 3, 1) := by decide +kernel
theorem dX6_melt_104 : decode cX6_melt 104 = .ok (.istore 4, 2) := by decide +kernel
theorem dX6_melt_106 : decode cX6_melt 106 = .ok (.iload 4, 2) := by decide +kernel
theorem dX6_melt_108 : decode cX6_melt 108 = .ok (.iload_n 3, 1) := by decide +kernel
theorem dX6_melt_109 : decode cX6_melt 109 = .ok (.iload_n 2, 1) := by decide +kernel
theorem dX6_melt_110 : decode cX6_melt 110 = .ok (.invokestatic 235, 3) := by decide +kernel
theorem dX6_melt_113 : decode cX6_melt 113 = .ok (.iadd, 1) := by decide +kernel
theorem dX6_melt_114 : decode cX6_melt 114 = .ok (.if_icmp .ge 23, 3) := by decide +kernel
theorem dX6_melt_117 : decode cX6_melt 117 = .ok (.aload_n 0, 1) := by decide +kernel
theorem dX6_melt_118 : decode cX6_melt 118 = .ok (.getfield 7, 3) := by decide +kernel
theorem dX6_melt_121 : decode cX6_melt 121 = .ok (.iload 4, 2) := by decide +kernel
theorem dX6_melt_123 : decode cX6_melt 123 = .ok (.aload_n 0, 1) := by decide +kernel
theorem dX6_melt_124 : decode cX6_melt 124 = .ok (.getfield 16, 3) := by decide +kernel
theorem dX6_melt_127 : decode cX6_melt 127 = .ok (.iload 4, 2) := by decide +kernel
theorem dX6_melt_129 : decode cX6_melt 129 = .ok (.iaload, 1) := by decide +kernel
theorem dX6_melt_130 : decode cX6_melt 130 = .ok (.iastore, 1) := by decide +kernel
theorem dX6_melt_131 : decode cX6_melt 131 = .ok (.iinc 4 1, 3) := by decide +kernel
theorem dX6_melt_134 : decode cX6_melt 134 = .ok (.goto (-28), 3) := by decide +kernel
theorem dX6_melt_137 : decode cX6_melt 137 = .ok (.iinc 2 1, 3) := by decide +kernel
theorem dX6_melt_140 : decode cX6_melt 140 = .ok (.goto (-87), 3) := by decide +kernel
theorem dX6_melt_143 : decode cX6_melt 143 = .ok (.iconst 0, 1) := by decide +kernel
theorem dX6_melt_144 : decode cX6_melt 144 = .ok (.istore_n 2, 1) := by decide +kernel
theorem dX6_melt_145 : decode cX6_melt 145 = .ok (.iload_n 2, 1) := by decide +kernel
theorem dX6_melt_146 : decode cX6_melt 146 = .ok (.bipush 20, 2) := by decide +kernel
theorem dX6_melt_148 : decode cX6_melt 148 = .ok (.if_icmp .ge 22, 3) := by decide +kernel
theorem dX6_melt_151 : decode cX6_melt 151 = .ok (.aload_n 0, 1) := by decide +kernel
theorem dX6_melt_152 : decode cX6_melt 152 = .ok (.iload_n 2, 1) := by decide +kernel
theorem dX6_melt_153 : decode cX6_melt 153 = .ok (.invokevirtual 137, 3) := by decide +kernel
theorem dX6_melt_156 : decode cX6_melt 156 = .ok (.ifCond .ne 8, 3) := by decide +kernel
theorem dX6_melt_159 : decode cX6_melt 159 = .ok (.aload_n 0, 1) := by decide +kernel
theorem dX6_melt_160 : decode cX6_melt 160 = .ok (.iload_n 2, 1) := by decide +kernel
theorem dX6_melt_161 : decode cX6_melt 161 = .ok (.invokevirtual 130, 3) := by decide +kernel
theorem dX6_melt_164 : decode cX6_melt 164 = .ok (.iinc 2 1, 3) := by decide +kernel
theorem dX6_melt_167 : decode cX6_melt 167 = .ok (.goto (-22), 3) := by decide +kernel
theorem dX6_melt_170 : decode cX6_melt 170 = .ok (.iload_n 1, 1) := by decide +kernel
theorem dX6_melt_171 : decode cX6_melt 171 = .ok (.ireturn, 1) := by decide +kernel
theorem dX6_clash_0 : decode cX6_clash 0 = .ok (.aload_n 0, 1) := by decide +kernel
theorem dX6_clash_1 : decode cX6_clash 1 = .ok (.getfield 226, 3) := by decide +kernel
theorem dX6_clash_4 : decode cX6_clash 4 = .ok (.ifCond .eq 10, 3) := by decide +kernel
theorem dX6_clash_7 : decode cX6_clash 7 = .ok (.aload_n 0, 1) := by decide +kernel
theorem dX6_clash_8 : decode cX6_clash 8 = .ok (.getfield 229, 3) := by decide +kernel
theorem dX6_clash_11 : decode cX6_clash 11 = .ok (.ifCond .ne 11, 3) := by decide +kernel
theorem dX6_clash_14 : decode cX6_clash 14 = .ok (.aload_n 0, 1) := by decide +kernel
theorem dX6_clash_15 : decode cX6_clash 15 = .ok (.sipush (-1010), 3) := by decide +kernel
theorem dX6_clash_18 : decode cX6_clash 18 = .ok (.invokevirtual 140, 3) := by decide +kernel
theorem dX6_clash_21 : decode cX6_clash 21 = .ok (.ireturn, 1) := by decide +kernel
theorem dX6_clash_22 : decode cX6_clash 22 = .ok (.iconst 0, 1) := by decide +kernel
theorem dX6_clash_23 : decode cX6_clash 23 = .ok (.istore_n 2, 1) := by decide +kernel
theorem dX6_clash_24 : decode cX6_clash 24 = .ok (.iconst 0, 1) := by decide +kernel
theorem dX6_clash_25 : decode cX6_clash 25 = .ok (.istore_n 3, 1) := by decide +kernel
theorem dX6_clash_26 : decode cX6_clash 26 = .ok (.iload_n 3, 1) := by decide +kernel
theorem dX6_clash_27 : decode cX6_clash 27 = .ok (.sipush 141, 3) := by decide +kernel
theorem dX6_clash_30 : decode cX6_clash 30 = .ok (.if_icmp .ge 31, 3) := by decide +kernel
theorem dX6_clash_33 : decode cX6_clash 33 = .ok (.iload_n 1, 1) := by decide +kernel
theorem dX6_clash_34 : decode cX6_clash 34 = .ok (.ifCond .lt 27, 3) := by decide +kernel
theorem dX6_clash_37 : decode cX6_clash 37 = .ok (.aload_n 0, 1) := by decide +kernel
theorem dX6_clash_38 : decode cX6_clash 38 = .ok (.iload_n 3, 1) := by decide +kernel
theorem dX6_clash_39 : decode cX6_clash 39 = .ok (.invokevirtual 242, 3) := by decide +kernel
theorem dX6_clash_42 : decode cX6_clash 42 = .ok (.ifCond .eq 13, 3) := by decide +kernel
theorem dX6_clash_45 : decode cX6_clash 45 = .ok (.iload_n 2, 1) := by decide +kernel
theorem dX6_clash_46 : decode cX6_clash 46 = .ok (.iload_n 1, 1) := by decide +kernel
theorem dX6_clash_47 : decode cX6_clash 47 = .ok (.if_icmp .ne 5, 3) := by decide +kernel
theorem dX6_clash_50 : decode cX6_clash 50 = .ok (.iload_n 3, 1) := by decide +kernel
theorem dX6_clash_51 : decode cX6_clash 51 = .ok (.ireturn, 1) := by decide +kernel
theorem dX6_clash_52 : decode cX6_clash 52 = .ok (.iinc 2 1, 3) := by decide +kernel
theorem dX6_clash_55 : decode cX6_clash 55 = .ok (.iinc 3 1, 3) := by decide +kernel
theorem dX6_clash_58 : decode cX6_clash 58 = .ok (.goto (-32), 3) := by decide +kernel
theorem dX6_clash_61 : decode cX6_clash 61 = .ok (.sipush (-1003), 3) := by decide +kernel
theorem dX6_clash_64 : decode cX6_clash 64 = .ok (.ireturn, 1) := by decide +kernel
theorem dX6_count_0 : decode cX6_count 0 = .ok (.iconst 0, 1) := by decide +kernel
theorem dX6_count_1 : decode cX6_count 1 = .ok (.istore_n 2, 1) := by decide +kernel
theorem dX6_count_2 : decode cX6_count 2 = .ok (.iconst 0, 1) := by decide +kernel
theorem dX6_count_3 : decode cX6_count 3 = .ok (.istore_n 3, 1) := by decide +kernel
theorem dX6_count_4 : decode cX6_count 4 = .ok (.iconst 0, 1) := by decide +kernel
theorem dX6_count_5 : decode cX6_count 5 = .ok (.istore 4, 2) := by decide +kernel
theorem dX6_count_7 : decode cX6_count 7 = .ok (.iload 4, 2) := by decide +kernel
theorem dX6_count_9 : decode cX6_count 9 = .ok (.bipush 20, 2) := by decide +kernel
theorem dX6_count_11 : decode cX6_count 11 = .ok (.if_icmp .ge 61, 3) := by decide +kernel
theorem dX6_count_14 : decode cX6_count 14 = .ok (.iload_n 2, 1) := by decide +kernel
theorem dX6_count_15 : decode cX6_count 15 = .ok (.aload_n 0, 1) := by decide +kernel
theorem dX6_count_16 : decode cX6_count 16 = .ok (.iload 4, 2) := by decide +kernel
theorem dX6_count_18 : decode cX6_count 18 = .ok (.invokevirtual 137, 3) := by decide +kernel
theorem dX6_count_21 : decode cX6_count 21 = .ok (.ifCond .eq 7, 3) := by decide +kernel
theorem dX6_count_24 : decode cX6_count 24 = .ok (.iconst 1, 1) := by decide +kernel
theorem dX6_count_25 : decode cX6_count 25 = .ok (.goto 4, 3) := by decide +kernel
theorem dX6_count_28 : decode cX6_count 28 = .ok (.iconst 0, 1) := by decide +kernel
theorem dX6_count_29 : decode cX6_count 29 = .ok (.iadd, 1) := by decide +kernel
theorem dX6_count_30 : decode cX6_count 30 = .ok (.istore_n 2, 1) := by decide +kernel
theorem dX6_count_31 : decode cX6_count 31 = .ok (.iconst 0, 1) := by decide +kernel
theorem dX6_count_32 : decode cX6_count 32 = .ok (.istore 5, 2) := by decide +kernel
theorem dX6_count_34 : decode cX6_count 34 = .ok (.iload 5, 2) := by decide +kernel
theorem dX6_count_36 : decode cX6_count 36 = .ok (.bipush 6, 2) := by decide +kernel
theorem dX6_count_38 : decode cX6_count 38 = .ok (.if_icmp .ge 28, 3) := by decide +kernel
theorem dX6_count_41 : decode cX6_count 41 = .ok (.iload_n 3, 1) := by decide +kernel
theorem dX6_count_42 : decode cX6_count 42 = .ok (.aload_n 0, 1) := by decide +kernel
theorem dX6_count_43 : decode cX6_count 43 = .ok (.iload 4, 2) := by decide +kernel
theorem dX6_count_45 : decode cX6_count 45 = .ok (.iload 5, 2) := by decide +kernel
theorem dX6_count_47 : decode cX6_count 47 = .ok (.invokevirtual 146, 3) := by decide +kernel
theorem dX6_count_50 : decode cX6_count 50 = .ok (.ifCond .eq 7, 3) := by decide +kernel
theorem dX6_count_53 : decode cX6_count 53 = .ok (.iconst 1, 1) := by decide +kernel
theorem dX6_count_54 : decode cX6_count 54 = .ok (.goto 4, 3) := by decide +kernel
theorem dX6_count_57 : decode cX6_count 57 = .ok (.iconst 0, 1) := by decide +kernel
theorem dX6_count_58 : decode cX6_count 58 = .ok (.iadd, 1) := by decide +kernel
theorem dX6_count_59 : decode cX6_count 59 = .ok (.istore_n 3, 1) := by decide +kernel
theorem dX6_count_60 : decode cX6_count 60 = .ok (.iinc 5 1, 3) := by decide +kernel
theorem dX6_count_63 : decode cX6_count 63 = .ok (.goto (-29), 3) := by decide +kernel
theorem dX6_count_66 : decode cX6_count 66 = .ok (.iinc 4 1, 3) := by decide +kernel
theorem dX6_count_69 : decode cX6_count 69 = .ok (.goto (-62), 3) := by decide +kernel
theorem dX6_count_72 : decode cX6_count 72 = .ok (.iload_n 1, 1) := by decide +kernel
theorem dX6_count_73 : decode cX6_count 73 = .ok (.tableswitch 67 0 5 #[39, 41, 43, 48, 53, 58], 39) := by decide +kernel
theorem dX6_count_112 : decode cX6_count 112 = .ok (.iload_n 2, 1) := by decide +kernel
theorem dX6_count_113 : decode cX6_count 113 = .ok (.ireturn, 1) := by decide +kernel
theorem dX6_count_114 : decode cX6_count 114 = .ok (.iload_n 3, 1) := by decide +kernel
theorem dX6_count_115 : decode cX6_count 115 = .ok (.ireturn, 1) := by decide +kernel
theorem dX6_count_116 : decode cX6_count 116 = .ok (.aload_n 0, 1) := by decide +kernel
theorem dX6_count_117 : decode cX6_count 117 = .ok (.getfield 83, 3) := by decide +kernel
theorem dX6_count_120 : decode cX6_count 120 = .ok (.ireturn, 1) := by decide +kernel
theorem dX6_count_121 : decode cX6_count 121 = .ok (.aload_n 0, 1) := by decide +kernel
theorem dX6_count_122 : decode cX6_count 122 = .ok (.getfield 210, 3) := by decide +kernel
theorem dX6_count_125 : decode cX6_count 125 = .ok (.ireturn, 1) := by decide +kernel
theorem dX6_count_126 : decode cX6_count 126 = .ok (.aload_n 0, 1) := by decide +kernel
theorem dX6_count_127 : decode cX6_count 127 = .ok (.getfield 63, 3) := by decide +kernel
theorem dX6_count_130 : decode cX6_count 130 = .ok (.ireturn, 1) := by decide +kernel
theorem dX6_count_131 : decode cX6_count 131 = .ok (.aload_n 0, 1) := by decide +kernel
theorem dX6_count_132 : decode cX6_count 132 = .ok (.getfield 7, 3) := by decide +kernel
theorem dX6_count_135 : decode cX6_count 135 = .ok (.sipush 1880, 3) := by decide +kernel
theorem dX6_count_138 : decode cX6_count 138 = .ok (.iaload, 1) := by decide +kernel
theorem dX6_count_139 : decode cX6_count 139 = .ok (.ireturn, 1) := by decide +kernel
theorem dX6_count_140 : decode cX6_count 140 = .ok (.sipush (-1002), 3) := by decide +kernel
theorem dX6_count_143 : decode cX6_count 143 = .ok (.ireturn, 1) := by decide +kernel
