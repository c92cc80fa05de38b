theorem dX0_init_0 : decode cX0_init 0 = .ok (.aload_n 0, 1) := by decide +kernel
theorem dX0_init_1 : decode cX0_init 1 = .ok (.invokespecial 3, 3) := by decide +kernel
theorem dX0_init_4 : decode cX0_init 4 = .ok (.aload_n 0, 1) := by decide +kernel
theorem dX0_init_5 : decode cX0_init 5 = .ok (.iconst 4, 1) := by decide +kernel
theorem dX0_init_6 : decode cX0_init 6 = .ok (.newarray .long, 2) := by decide +kernel
theorem dX0_init_8 : decode cX0_init 8 = .ok (.putfield 9, 3) := by decide +kernel
theorem dX0_init_11 : decode cX0_init 11 = .ok (.aload_n 0, 1) := by decide +kernel
theorem dX0_init_12 : decode cX0_init 12 = .ok (.iload_n 1, 1) := by decide +kernel
theorem dX0_init_13 : decode cX0_init 13 = .ok (.invokevirtual 15, 3) := by decide +kernel
theorem dX0_init_16 : decode cX0_init 16 = .ok (.return_, 1) := by decide +kernel
theorem dX0_isThere_0 : decode cX0_isThere 0 = .ok (.aload_n 0, 1) := by decide +kernel
theorem dX0_isThere_1 : decode cX0_isThere 1 = .ok (.getfield 19, 3) := by decide +kernel
theorem dX0_isThere_4 : decode cX0_isThere 4 = .ok (.iconst (-1), 1) := by decide +kernel
theorem dX0_isThere_5 : decode cX0_isThere 5 = .ok (.if_icmp .eq 7, 3) := by decide +kernel
theorem dX0_isThere_8 : decode cX0_isThere 8 = .ok (.iconst 1, 1) := by decide +kernel
theorem dX0_isThere_9 : decode cX0_isThere 9 = .ok (.goto 4, 3) := by decide +kernel
theorem dX0_isThere_12 : decode cX0_isThere 12 = .ok (.iconst 0, 1) := by decide +kernel
theorem dX0_isThere_13 : decode cX0_isThere 13 = .ok (.ireturn, 1) := by decide +kernel
theorem dX0_isEnding_0 : decode cX0_isEnding 0 = .ok (.aload_n 0, 1) := by decide +kernel
theorem dX0_isEnding_1 : decode cX0_isEnding 1 = .ok (.getfield 19, 3) := by decide +kernel
theorem dX0_isEnding_4 : decode cX0_isEnding 4 = .ok (.iconst 3, 1) := by decide +kernel
theorem dX0_isEnding_5 : decode cX0_isEnding 5 = .ok (.if_icmp .eq 11, 3) := by decide +kernel
theorem dX0_isEnding_8 : decode cX0_isEnding 8 = .ok (.aload_n 0, 1) := by decide +kernel
theorem dX0_isEnding_9 : decode cX0_isEnding 9 = .ok (.getfield 19, 3) := by decide +kernel
theorem dX0_isEnding_12 : decode cX0_isEnding 12 = .ok (.iconst 4, 1) := by decide +kernel
theorem dX0_isEnding_13 : decode cX0_isEnding 13 = .ok (.if_icmp .ne 7, 3) := by decide +kernel
theorem dX0_isEnding_16 : decode cX0_isEnding 16 = .ok (.iconst 1, 1) := by decide +kernel
theorem dX0_isEnding_17 : decode cX0_isEnding 17 = .ok (.goto 4, 3) := by decide +kernel
theorem dX0_isEnding_20 : decode cX0_isEnding 20 = .ok (.iconst 0, 1) := by decide +kernel
theorem dX0_isEnding_21 : decode cX0_isEnding 21 = .ok (.ireturn, 1) := by decide +kernel
theorem dX0_become_0 : decode cX0_become 0 = .ok (.aload_n 0, 1) := by decide +kernel
theorem dX0_become_1 : decode cX0_become 1 = .ok (.iload_n 1, 1) := by decide +kernel
theorem dX0_become_2 : decode cX0_become 2 = .ok (.putfield 19, 3) := by decide +kernel
theorem dX0_become_5 : decode cX0_become 5 = .ok (.aload_n 0, 1) := by decide +kernel
theorem dX0_become_6 : decode cX0_become 6 = .ok (.iconst 0, 1) := by decide +kernel
theorem dX0_become_7 : decode cX0_become 7 = .ok (.putfield 23, 3) := by decide +kernel
theorem dX0_become_10 : decode cX0_become 10 = .ok (.aload_n 0, 1) := by decide +kernel
theorem dX0_become_11 : decode cX0_become 11 = .ok (.iconst 0, 1) := by decide +kernel
theorem dX0_become_12 : decode cX0_become 12 = .ok (.putfield 26, 3) := by decide +kernel
theorem dX0_become_15 : decode cX0_become 15 = .ok (.aload_n 0, 1) := by decide +kernel
theorem dX0_become_16 : decode cX0_become 16 = .ok (.iconst 0, 1) := by decide +kernel
theorem dX0_become_17 : decode cX0_become 17 = .ok (.putfield 29, 3) := by decide +kernel
theorem dX0_become_20 : decode cX0_become 20 = .ok (.aload_n 0, 1) := by decide +kernel
theorem dX0_become_21 : decode cX0_become 21 = .ok (.iconst 0, 1) := by decide +kernel
theorem dX0_become_22 : decode cX0_become 22 = .ok (.putfield 32, 3) := by decide +kernel
theorem dX0_become_25 : decode cX0_become 25 = .ok (.aload_n 0, 1) := by decide +kernel
theorem dX0_become_26 : decode cX0_become 26 = .ok (.iconst 0, 1) := by decide +kernel
theorem dX0_become_27 : decode cX0_become 27 = .ok (.putfield 35, 3) := by decide +kernel
theorem dX0_become_30 : decode cX0_become 30 = .ok (.iconst 0, 1) := by decide +kernel
theorem dX0_become_31 : decode cX0_become 31 = .ok (.istore_n 2, 1) := by decide +kernel
theorem dX0_become_32 : decode cX0_become 32 = .ok (.iload_n 2, 1) := by decide +kernel
theorem dX0_become_33 : decode cX0_become 33 = .ok (.iconst 4, 1) := by decide +kernel
theorem dX0_become_34 : decode cX0_become 34 = .ok (.if_icmp .ge 18, 3) := by decide +kernel
theorem dX0_become_37 : decode cX0_become 37 = .ok (.aload_n 0, 1) := by decide +kernel
theorem dX0_become_38 : decode cX0_become 38 = .ok (.getfield 9, 3) := by decide +kernel
theorem dX0_become_41 : decode cX0_become 41 = .ok (.iload_n 2, 1) := by decide +kernel
theorem dX0_become_42 : decode cX0_become 42 = .ok (.ldc2_w 38, 3) := by decide +kernel
theorem dX0_become_45 : decode cX0_become 45 = .ok (.lastore, 1) := by decide +kernel
theorem dX0_become_46 : decode cX0_become 46 = .ok (.iinc 2 1, 3) := by decide +kernel
theorem dX0_become_49 : decode cX0_become 49 = .ok (.goto (-17), 3) := by decide +kernel
theorem dX0_become_52 : decode cX0_become 52 = .ok (.return_, 1) := by decide +kernel
theorem dX0_copyFrom_0 : decode cX0_copyFrom 0 = .ok (.aload_n 0, 1) := by decide +kernel
theorem dX0_copyFrom_1 : decode cX0_copyFrom 1 = .ok (.aload_n 1, 1) := by decide +kernel
theorem dX0_copyFrom_2 : decode cX0_copyFrom 2 = .ok (.getfield 19, 3) := by decide +kernel
theorem dX0_copyFrom_5 : decode cX0_copyFrom 5 = .ok (.putfield 19, 3) := by decide +kernel
theorem dX0_copyFrom_8 : decode cX0_copyFrom 8 = .ok (.aload_n 0, 1) := by decide +kernel
theorem dX0_copyFrom_9 : decode cX0_copyFrom 9 = .ok (.aload_n 1, 1) := by decide +kernel
theorem dX0_copyFrom_10 : decode cX0_copyFrom 10 = .ok (.getfield 23, 3) := by decide +kernel
theorem dX0_copyFrom_13 : decode cX0_copyFrom 13 = .ok (.putfield 23, 3) := by decide +kernel
theorem dX0_copyFrom_16 : decode cX0_copyFrom 16 = .ok (.aload_n 0, 1) := by decide +kernel
theorem dX0_copyFrom_17 : decode cX0_copyFrom 17 = .ok (.aload_n 1, 1) := by decide +kernel
theorem dX0_copyFrom_18 : decode cX0_copyFrom 18 = .ok (.getfield 26, 3) := by decide +kernel
theorem dX0_copyFrom_21 : decode cX0_copyFrom 21 = .ok (.putfield 26, 3) := by decide +kernel
theorem dX0_copyFrom_24 : decode cX0_copyFrom 24 = .ok (.aload_n 0, 1) := by decide +kernel
theorem dX0_copyFrom_25 : decode cX0_copyFrom 25 = .ok (.aload_n 1, 1) := by decide +kernel
theorem dX0_copyFrom_26 : decode cX0_copyFrom 26 = .ok (.getfield 29, 3) := by decide +kernel
theorem dX0_copyFrom_29 : decode cX0_copyFrom 29 = .ok (.putfield 29, 3) := by decide +kernel
theorem dX0_copyFrom_32 : decode cX0_copyFrom 32 = .ok (.aload_n 0, 1) := by decide +kernel
theorem dX0_copyFrom_33 : decode cX0_copyFrom 33 = .ok (.aload_n 1, 1) := by decide +kernel
theorem dX0_copyFrom_34 : decode cX0_copyFrom 34 = .ok (.getfield 32, 3) := by decide +kernel
theorem dX0_copyFrom_37 : decode cX0_copyFrom 37 = .ok (.putfield 32, 3) := by decide +kernel
theorem dX0_copyFrom_40 : decode cX0_copyFrom 40 = .ok (.aload_n 0, 1) := by decide +kernel
theorem dX0_copyFrom_41 : decode cX0_copyFrom 41 = .ok (.aload_n 1, 1) := by decide +kernel
theorem dX0_copyFrom_42 : decode cX0_copyFrom 42 = .ok (.getfield 35, 3) := by decide +kernel
theorem dX0_copyFrom_45 : decode cX0_copyFrom 45 = .ok (.putfield 35, 3) := by decide +kernel
theorem dX0_copyFrom_48 : decode cX0_copyFrom 48 = .ok (.iconst 0, 1) := by decide +kernel
theorem dX0_copyFrom_49 : decode cX0_copyFrom 49 = .ok (.istore_n 2, 1) := by decide +kernel
theorem dX0_copyFrom_50 : decode cX0_copyFrom 50 = .ok (.iload_n 2, 1) := by decide +kernel
theorem dX0_copyFrom_51 : decode cX0_copyFrom 51 = .ok (.iconst 4, 1) := by decide +kernel
theorem dX0_copyFrom_52 : decode cX0_copyFrom 52 = .ok (.if_icmp .ge 21, 3) := by decide +kernel
theorem dX0_copyFrom_55 : decode cX0_copyFrom 55 = .ok (.aload_n 0, 1) := by decide +kernel
theorem dX0_copyFrom_56 : decode cX0_copyFrom 56 = .ok (.getfield 9, 3) := by decide +kernel
theorem dX0_copyFrom_59 : decode cX0_copyFrom 59 = .ok (.iload_n 2, 1) := by decide +kernel
theorem dX0_copyFrom_60 : decode cX0_copyFrom 60 = .ok (.aload_n 1, 1) := by decide +kernel
theorem dX0_copyFrom_61 : decode cX0_copyFrom 61 = .ok (.getfield 9, 3) := by decide +kernel
theorem dX0_copyFrom_64 : decode cX0_copyFrom 64 = .ok (.iload_n 2, 1) := by decide +kernel
theorem dX0_copyFrom_65 : decode cX0_copyFrom 65 = .ok (.laload, 1) := by decide +kernel
theorem dX0_copyFrom_66 : decode cX0_copyFrom 66 = .ok (.lastore, 1) := by decide +kernel
theorem dX0_copyFrom_67 : decode cX0_copyFrom 67 = .ok (.iinc 2 1, 3) := by decide +kernel
theorem dX0_copyFrom_70 : decode cX0_copyFrom 70 = .ok (.goto (-20), 3) := by decide +kernel
theorem dX0_copyFrom_73 : decode cX0_copyFrom 73 = .ok (.return_, 1) := by decide +kernel
theorem dX0_sameAs_0 : decode cX0_sameAs 0 = .ok (.iconst 0, 1) := by decide +kernel
theorem dX0_sameAs_1 : decode cX0_sameAs 1 = .ok (.istore_n 2, 1) := by decide +kernel
theorem dX0_sameAs_2 : decode cX0_sameAs 2 = .ok (.iload_n 2, 1) := by decide +kernel
theorem dX0_sameAs_3 : decode cX0_sameAs 3 = .ok (.iconst 4, 1) := by decide +kernel
theorem dX0_sameAs_4 : decode cX0_sameAs 4 = .ok (.if_icmp .ge 27, 3) := by decide +kernel
theorem dX0_sameAs_7 : decode cX0_sameAs 7 = .ok (.aload_n 0, 1) := by decide +kernel
theorem dX0_sameAs_8 : decode cX0_sameAs 8 = .ok (.getfield 9, 3) := by decide +kernel
theorem dX0_sameAs_11 : decode cX0_sameAs 11 = .ok (.iload_n 2, 1) := by decide +kernel
theorem dX0_sameAs_12 : decode cX0_sameAs 12 = .ok (.laload, 1) := by decide +kernel
theorem dX0_sameAs_13 : decode cX0_sameAs 13 = .ok (.aload_n 1, 1) := by decide +kernel
theorem dX0_sameAs_14 : decode cX0_sameAs 14 = .ok (.getfield 9, 3) := by decide +kernel
theorem dX0_sameAs_17 : decode cX0_sameAs 17 = .ok (.iload_n 2, 1) := by decide +kernel
theorem dX0_sameAs_18 : decode cX0_sameAs 18 = .ok (.laload, 1) := by decide +kernel
theorem dX0_sameAs_19 : decode cX0_sameAs 19 = .ok (.lcmp, 1) := by decide +kernel
theorem dX0_sameAs_20 : decode cX0_sameAs 20 = .ok (.ifCond .eq 5, 3) := by decide +kernel
theorem dX0_sameAs_23 : decode cX0_sameAs 23 = .ok (.iconst 0, 1) := by decide +kernel
theorem dX0_sameAs_24 : decode cX0_sameAs 24 = .ok (.ireturn, 1) := by decide +kernel
theorem dX0_sameAs_25 : decode cX0_sameAs 25 = .ok (.iinc 2 1, 3) := by decide +kernel
theorem dX0_sameAs_28 : decode cX0_sameAs 28 = .ok (.goto (-26), 3) := by decide +kernel
theorem dX0_sameAs_31 : decode cX0_sameAs 31 = .ok (.aload_n 0, 1) := by decide +kernel
theorem dX0_sameAs_32 : decode cX0_sameAs 32 = .ok (.getfield 19, 3) := by decide +kernel
theorem dX0_sameAs_35 : decode cX0_sameAs 35 = .ok (.aload_n 1, 1) := by decide +kernel
theorem dX0_sameAs_36 : decode cX0_sameAs 36 = .ok (.getfield 19, 3) := by decide +kernel
theorem dX0_sameAs_39 : decode cX0_sameAs 39 = .ok (.if_icmp .ne 51, 3) := by decide +kernel
theorem dX0_sameAs_42 : decode cX0_sameAs 42 = .ok (.aload_n 0, 1) := by decide +kernel
theorem dX0_sameAs_43 : decode cX0_sameAs 43 = .ok (.getfield 23, 3) := by decide +kernel
theorem dX0_sameAs_46 : decode cX0_sameAs 46 = .ok (.aload_n 1, 1) := by decide +kernel
theorem dX0_sameAs_47 : decode cX0_sameAs 47 = .ok (.getfield 23, 3) := by decide +kernel
theorem dX0_sameAs_50 : decode cX0_sameAs 50 = .ok (.if_icmp .ne 40, 3) := by decide +kernel
theorem dX0_sameAs_53 : decode cX0_sameAs 53 = .ok (.aload_n 0, 1) := by decide +kernel
theorem dX0_sameAs_54 : decode cX0_sameAs 54 = .ok (.getfield 26, 3) := by decide +kernel
theorem dX0_sameAs_57 : decode cX0_sameAs 57 = .ok (.aload_n 1, 1) := by decide +kernel
theorem dX0_sameAs_58 : decode cX0_sameAs 58 = .ok (.getfield 26, 3) := by decide +kernel
theorem dX0_sameAs_61 : decode cX0_sameAs 61 = .ok (.if_icmp .ne 29, 3) := by decide +kernel
theorem dX0_sameAs_64 : decode cX0_sameAs 64 = .ok (.aload_n 0, 1) := by decide +kernel
theorem dX0_sameAs_65 : decode cX0_sameAs 65 = .ok (.getfield 29, 3) := by decide +kernel
theorem dX0_sameAs_68 : decode cX0_sameAs 68 = .ok (.aload_n 1, 1) := by decide +kernel
theorem dX0_sameAs_69 : decode cX0_sameAs 69 = .ok (.getfield 29, 3) := by decide +kernel
theorem dX0_sameAs_72 : decode cX0_sameAs 72 = .ok (.if_icmp .ne 18, 3) := by decide +kernel
theorem dX0_sameAs_75 : decode cX0_sameAs 75 = .ok (.aload_n 0, 1) := by decide +kernel
theorem dX0_sameAs_76 : decode cX0_sameAs 76 = .ok (.getfield 32, 3) := by decide +kernel
theorem dX0_sameAs_79 : decode cX0_sameAs 79 = .ok (.aload_n 1, 1) := by decide +kernel
theorem dX0_sameAs_80 : decode cX0_sameAs 80 = .ok (.getfield 32, 3) := by decide +kernel
theorem dX0_sameAs_83 : decode cX0_sameAs 83 = .ok (.if_icmp .ne 7, 3) := by decide +kernel
theorem dX0_sameAs_86 : decode cX0_sameAs 86 = .ok (.iconst 1, 1) := by decide +kernel
theorem dX0_sameAs_87 : decode cX0_sameAs 87 = .ok (.goto 4, 3) := by decide +kernel
theorem dX0_sameAs_90 : decode cX0_sameAs 90 = .ok (.iconst 0, 1) := by decide +kernel
theorem dX0_sameAs_91 : decode cX0_sameAs 91 = .ok (.ireturn, 1) := by decide +kernel
theorem dX0_putNeed_0 : decode cX0_putNeed 0 = .ok (.iconst 0, 1) := by decide +kernel
theorem dX0_putNeed_1 : decode cX0_putNeed 1 = .ok (.istore_n 2, 1) := by decide +kernel
theorem dX0_putNeed_2 : decode cX0_putNeed 2 = .ok (.iload_n 2, 1) := by decide +kernel
theorem dX0_putNeed_3 : decode cX0_putNeed 3 = .ok (.iconst 4, 1) := by decide +kernel
theorem dX0_putNeed_4 : decode cX0_putNeed 4 = .ok (.if_icmp .ge 24, 3) := by decide +kernel
theorem dX0_putNeed_7 : decode cX0_putNeed 7 = .ok (.iload_n 2, 1) := by decide +kernel
theorem dX0_putNeed_8 : decode cX0_putNeed 8 = .ok (.aload_n 1, 1) := by decide +kernel
theorem dX0_putNeed_9 : decode cX0_putNeed 9 = .ok (.arraylength, 1) := by decide +kernel
theorem dX0_putNeed_10 : decode cX0_putNeed 10 = .ok (.if_icmp .ge 18, 3) := by decide +kernel
theorem dX0_putNeed_13 : decode cX0_putNeed 13 = .ok (.aload_n 0, 1) := by decide +kernel
theorem dX0_putNeed_14 : decode cX0_putNeed 14 = .ok (.getfield 9, 3) := by decide +kernel
theorem dX0_putNeed_17 : decode cX0_putNeed 17 = .ok (.iload_n 2, 1) := by decide +kernel
theorem dX0_putNeed_18 : decode cX0_putNeed 18 = .ok (.aload_n 1, 1) := by decide +kernel
theorem dX0_putNeed_19 : decode cX0_putNeed 19 = .ok (.iload_n 2, 1) := by decide +kernel
theorem dX0_putNeed_20 : decode cX0_putNeed 20 = .ok (.laload, 1) := by decide +kernel
theorem dX0_putNeed_21 : decode cX0_putNeed 21 = .ok (.lastore, 1) := by decide +kernel
theorem dX0_putNeed_22 : decode cX0_putNeed 22 = .ok (.iinc 2 1, 3) := by decide +kernel
theorem dX0_putNeed_25 : decode cX0_putNeed 25 = .ok (.goto (-23), 3) := by decide +kernel
theorem dX0_putNeed_28 : decode cX0_putNeed 28 = .ok (.aload_n 0, 1) := by decide +kernel
theorem dX0_putNeed_29 : decode cX0_putNeed 29 = .ok (.iconst 0, 1) := by decide +kernel
theorem dX0_putNeed_30 : decode cX0_putNeed 30 = .ok (.putfield 35, 3) := by decide +kernel
theorem dX0_putNeed_33 : decode cX0_putNeed 33 = .ok (.iconst 0, 1) := by decide +kernel
theorem dX0_putNeed_34 : decode cX0_putNeed 34 = .ok (.istore_n 2, 1) := by decide +kernel
theorem dX0_putNeed_35 : decode cX0_putNeed 35 = .ok (.iload_n 2, 1) := by decide +kernel
theorem dX0_putNeed_36 : decode cX0_putNeed 36 = .ok (.bipush 8, 2) := by decide +kernel
theorem dX0_putNeed_38 : decode cX0_putNeed 38 = .ok (.if_icmp .ge 29, 3) := by decide +kernel
theorem dX0_putNeed_41 : decode cX0_putNeed 41 = .ok (.aload_n 0, 1) := by decide +kernel
theorem dX0_putNeed_42 : decode cX0_putNeed 42 = .ok (.iload_n 2, 1) := by decide +kernel
theorem dX0_putNeed_43 : decode cX0_putNeed 43 = .ok (.invokevirtual 40, 3) := by decide +kernel
theorem dX0_putNeed_46 : decode cX0_putNeed 46 = .ok (.ifCond .eq 15, 3) := by decide +kernel
theorem dX0_putNeed_49 : decode cX0_putNeed 49 = .ok (.aload_n 0, 1) := by decide +kernel
theorem dX0_putNeed_50 : decode cX0_putNeed 50 = .ok (.dup, 1) := by decide +kernel
theorem dX0_putNeed_51 : decode cX0_putNeed 51 = .ok (.getfield 35, 3) := by decide +kernel
theorem dX0_putNeed_54 : decode cX0_putNeed 54 = .ok (.iconst 1, 1) := by decide +kernel
theorem dX0_putNeed_55 : decode cX0_putNeed 55 = .ok (.iload_n 2, 1) := by decide +kernel
theorem dX0_putNeed_56 : decode cX0_putNeed 56 = .ok (.ishl, 1) := by decide +kernel
theorem dX0_putNeed_57 : decode cX0_putNeed 57 = .ok (.ior, 1) := by decide +kernel
theorem dX0_putNeed_58 : decode cX0_putNeed 58 = .ok (.putfield 35, 3) := by decide +kernel
theorem dX0_putNeed_61 : decode cX0_putNeed 61 = .ok (.iinc 2 1, 3) := by decide +kernel
theorem dX0_putNeed_64 : decode cX0_putNeed 64 = .ok (.goto (-29), 3) := by decide +kernel
theorem dX0_putNeed_67 : decode cX0_putNeed 67 = .ok (.return_, 1) := by decide +kernel
theorem dX0_readsFact_0 : decode cX0_readsFact 0 = .ok (.iconst 1, 1) := by decide +kernel
theorem dX0_readsFact_1 : decode cX0_readsFact 1 = .ok (.iload_n 1, 1) := by decide +kernel
theorem dX0_readsFact_2 : decode cX0_readsFact 2 = .ok (.ishl, 1) := by decide +kernel
theorem dX0_readsFact_3 : decode cX0_readsFact 3 = .ok (.istore_n 2, 1) := by decide +kernel
theorem dX0_readsFact_4 : decode cX0_readsFact 4 = .ok (.iconst 0, 1) := by decide +kernel
theorem dX0_readsFact_5 : decode cX0_readsFact 5 = .ok (.istore_n 3, 1) := by decide +kernel
theorem dX0_readsFact_6 : decode cX0_readsFact 6 = .ok (.iload_n 3, 1) := by decide +kernel
theorem dX0_readsFact_7 : decode cX0_readsFact 7 = .ok (.iconst 4, 1) := by decide +kernel
theorem dX0_readsFact_8 : decode cX0_readsFact 8 = .ok (.if_icmp .ge 81, 3) := by decide +kernel
theorem dX0_readsFact_11 : decode cX0_readsFact 11 = .ok (.iload_n 2, 1) := by decide +kernel
theorem dX0_readsFact_12 : decode cX0_readsFact 12 = .ok (.bipush 64, 2) := by decide +kernel
theorem dX0_readsFact_14 : decode cX0_readsFact 14 = .ok (.if_icmp .ge 14, 3) := by decide +kernel
theorem dX0_readsFact_17 : decode cX0_readsFact 17 = .ok (.aload_n 0, 1) := by decide +kernel
theorem dX0_readsFact_18 : decode cX0_readsFact 18 = .ok (.getfield 9, 3) := by decide +kernel
theorem dX0_readsFact_21 : decode cX0_readsFact 21 = .ok (.iload_n 3, 1) := by decide +kernel
theorem dX0_readsFact_22 : decode cX0_readsFact 22 = .ok (.laload, 1) := by decide +kernel
theorem dX0_readsFact_23 : decode cX0_readsFact 23 = .ok (.iload_n 2, 1) := by decide +kernel
theorem dX0_readsFact_24 : decode cX0_readsFact 24 = .ok (.lushr, 1) := by decide +kernel
theorem dX0_readsFact_25 : decode cX0_readsFact 25 = .ok (.goto 14, 3) := by decide +kernel
theorem dX0_readsFact_28 : decode cX0_readsFact 28 = .ok (.aload_n 0, 1) := by decide +kernel
theorem dX0_readsFact_29 : decode cX0_readsFact 29 = .ok (.getfield 9, 3) := by decide +kernel
theorem dX0_readsFact_32 : decode cX0_readsFact 32 = .ok (.iload_n 3, 1) := by decide +kernel
theorem dX0_readsFact_33 : decode cX0_readsFact 33 = .ok (.iload_n 2, 1) := by decide +kernel
theorem dX0_readsFact_34 : decode cX0_readsFact 34 = .ok (.bipush 64, 2) := by decide +kernel
theorem dX0_readsFact_36 : decode cX0_readsFact 36 = .ok (.idiv, 1) := by decide +kernel
theorem dX0_readsFact_37 : decode cX0_readsFact 37 = .ok (.ior, 1) := by decide +kernel
theorem dX0_readsFact_38 : decode cX0_readsFact 38 = .ok (.laload, 1) := by decide +kernel
theorem dX0_readsFact_39 : decode cX0_readsFact 39 = .ok (.lstore 4, 2) := by decide +kernel
theorem dX0_readsFact_41 : decode cX0_readsFact 41 = .ok (.iload_n 2, 1) := by decide +kernel
theorem dX0_readsFact_42 : decode cX0_readsFact 42 = .ok (.bipush 64, 2) := by decide +kernel
theorem dX0_readsFact_44 : decode cX0_readsFact 44 = .ok (.if_icmp .ge 15, 3) := by decide +kernel
theorem dX0_readsFact_47 : decode cX0_readsFact 47 = .ok (.getstatic 44, 3) := by decide +kernel
theorem dX0_readsFact_50 : decode cX0_readsFact 50 = .ok (.iload_n 1, 1) := by decide +kernel
theorem dX0_readsFact_51 : decode cX0_readsFact 51 = .ok (.laload, 1) := by decide +kernel
theorem dX0_readsFact_52 : decode cX0_readsFact 52 = .ok (.ldc2_w 38, 3) := by decide +kernel
theorem dX0_readsFact_55 : decode cX0_readsFact 55 = .ok (.lxor, 1) := by decide +kernel
theorem dX0_readsFact_56 : decode cX0_readsFact 56 = .ok (.goto 6, 3) := by decide +kernel
theorem dX0_readsFact_59 : decode cX0_readsFact 59 = .ok (.ldc2_w 38, 3) := by decide +kernel
theorem dX0_readsFact_62 : decode cX0_readsFact 62 = .ok (.lstore 6, 2) := by decide +kernel
theorem dX0_readsFact_64 : decode cX0_readsFact 64 = .ok (.aload_n 0, 1) := by decide +kernel
theorem dX0_readsFact_65 : decode cX0_readsFact 65 = .ok (.getfield 9, 3) := by decide +kernel
theorem dX0_readsFact_68 : decode cX0_readsFact 68 = .ok (.iload_n 3, 1) := by decide +kernel
theorem dX0_readsFact_69 : decode cX0_readsFact 69 = .ok (.laload, 1) := by decide +kernel
theorem dX0_readsFact_70 : decode cX0_readsFact 70 = .ok (.lload 4, 2) := by decide +kernel
theorem dX0_readsFact_72 : decode cX0_readsFact 72 = .ok (.lxor, 1) := by decide +kernel
theorem dX0_readsFact_73 : decode cX0_readsFact 73 = .ok (.lload 6, 2) := by decide +kernel
theorem dX0_readsFact_75 : decode cX0_readsFact 75 = .ok (.land, 1) := by decide +kernel
theorem dX0_readsFact_76 : decode cX0_readsFact 76 = .ok (.lconst 0, 1) := by decide +kernel
theorem dX0_readsFact_77 : decode cX0_readsFact 77 = .ok (.lcmp, 1) := by decide +kernel
theorem dX0_readsFact_78 : decode cX0_readsFact 78 = .ok (.ifCond .eq 5, 3) := by decide +kernel
theorem dX0_readsFact_81 : decode cX0_readsFact 81 = .ok (.iconst 1, 1) := by decide +kernel
theorem dX0_readsFact_82 : decode cX0_readsFact 82 = .ok (.ireturn, 1) := by decide +kernel
theorem dX0_readsFact_83 : decode cX0_readsFact 83 = .ok (.iinc 3 1, 3) := by decide +kernel
theorem dX0_readsFact_86 : decode cX0_readsFact 86 = .ok (.goto (-80), 3) := by decide +kernel
theorem dX0_readsFact_89 : decode cX0_readsFact 89 = .ok (.iconst 0, 1) := by decide +kernel
theorem dX0_readsFact_90 : decode cX0_readsFact 90 = .ok (.ireturn, 1) := by decide +kernel
theorem dX0_holdsFor_0 : decode cX0_holdsFor 0 = .ok (.aload_n 0, 1) := by decide +kernel
theorem dX0_holdsFor_1 : decode cX0_holdsFor 1 = .ok (.getfield 9, 3) := by decide +kernel
theorem dX0_holdsFor_4 : decode cX0_holdsFor 4 = .ok (.iload_n 1, 1) := by decide +kernel
theorem dX0_holdsFor_5 : decode cX0_holdsFor 5 = .ok (.bipush 64, 2) := by decide +kernel
theorem dX0_holdsFor_7 : decode cX0_holdsFor 7 = .ok (.idiv, 1) := by decide +kernel
theorem dX0_holdsFor_8 : decode cX0_holdsFor 8 = .ok (.laload, 1) := by decide +kernel
theorem dX0_holdsFor_9 : decode cX0_holdsFor 9 = .ok (.iload_n 1, 1) := by decide +kernel
theorem dX0_holdsFor_10 : decode cX0_holdsFor 10 = .ok (.bipush 64, 2) := by decide +kernel
theorem dX0_holdsFor_12 : decode cX0_holdsFor 12 = .ok (.irem, 1) := by decide +kernel
theorem dX0_holdsFor_13 : decode cX0_holdsFor 13 = .ok (.lushr, 1) := by decide +kernel
theorem dX0_holdsFor_14 : decode cX0_holdsFor 14 = .ok (.lconst 1, 1) := by decide +kernel
theorem dX0_holdsFor_15 : decode cX0_holdsFor 15 = .ok (.land, 1) := by decide +kernel
theorem dX0_holdsFor_16 : decode cX0_holdsFor 16 = .ok (.lconst 0, 1) := by decide +kernel
theorem dX0_holdsFor_17 : decode cX0_holdsFor 17 = .ok (.lcmp, 1) := by decide +kernel
theorem dX0_holdsFor_18 : decode cX0_holdsFor 18 = .ok (.ifCond .eq 7, 3) := by decide +kernel
theorem dX0_holdsFor_21 : decode cX0_holdsFor 21 = .ok (.iconst 1, 1) := by decide +kernel
theorem dX0_holdsFor_22 : decode cX0_holdsFor 22 = .ok (.goto 4, 3) := by decide +kernel
theorem dX0_holdsFor_25 : decode cX0_holdsFor 25 = .ok (.iconst 0, 1) := by decide +kernel
theorem dX0_holdsFor_26 : decode cX0_holdsFor 26 = .ok (.ireturn, 1) := by decide +kernel
theorem dX0_countHolding_0 : decode cX0_countHolding 0 = .ok (.iconst 0, 1) := by decide +kernel
theorem dX0_countHolding_1 : decode cX0_countHolding 1 = .ok (.istore_n 1, 1) := by decide +kernel
theorem dX0_countHolding_2 : decode cX0_countHolding 2 = .ok (.iconst 0, 1) := by decide +kernel
theorem dX0_countHolding_3 : decode cX0_countHolding 3 = .ok (.istore_n 2, 1) := by decide +kernel
theorem dX0_countHolding_4 : decode cX0_countHolding 4 = .ok (.iload_n 2, 1) := by decide +kernel
theorem dX0_countHolding_5 : decode cX0_countHolding 5 = .ok (.iconst 4, 1) := by decide +kernel
theorem dX0_countHolding_6 : decode cX0_countHolding 6 = .ok (.if_icmp .ge 21, 3) := by decide +kernel
theorem dX0_countHolding_9 : decode cX0_countHolding 9 = .ok (.iload_n 1, 1) := by decide +kernel
theorem dX0_countHolding_10 : decode cX0_countHolding 10 = .ok (.aload_n 0, 1) := by decide +kernel
theorem dX0_countHolding_11 : decode cX0_countHolding 11 = .ok (.getfield 9, 3) := by decide +kernel
theorem dX0_countHolding_14 : decode cX0_countHolding 14 = .ok (.iload_n 2, 1) := by decide +kernel
theorem dX0_countHolding_15 : decode cX0_countHolding 15 = .ok (.laload, 1) := by decide +kernel
theorem dX0_countHolding_16 : decode cX0_countHolding 16 = .ok (.invokestatic 49, 3) := by decide +kernel
theorem dX0_countHolding_19 : decode cX0_countHolding 19 = .ok (.iadd, 1) := by decide +kernel
theorem dX0_countHolding_20 : decode cX0_countHolding 20 = .ok (.istore_n 1, 1) := by decide +kernel
theorem dX0_countHolding_21 : decode cX0_countHolding 21 = .ok (.iinc 2 1, 3) := by decide +kernel
theorem dX0_countHolding_24 : decode cX0_countHolding 24 = .ok (.goto (-20), 3) := by decide +kernel
theorem dX0_countHolding_27 : decode cX0_countHolding 27 = .ok (.iload_n 1, 1) := by decide +kernel
theorem dX0_countHolding_28 : decode cX0_countHolding 28 = .ok (.ireturn, 1) := by decide +kernel
theorem dX1_init_0 : decode cX1_init 0 = .ok (.aload_n 0, 1) := by decide +kernel
theorem dX1_init_1 : decode cX1_init 1 = .ok (.invokespecial 3, 3) := by decide +kernel
theorem dX1_init_4 : decode cX1_init 4 = .ok (.aload_n 0, 1) := by decide +kernel
theorem dX1_init_5 : decode cX1_init 5 = .ok (.iconst (-1), 1) := by decide +kernel
theorem dX1_init_6 : decode cX1_init 6 = .ok (.putfield 11, 3) := by decide +kernel
theorem dX1_init_9 : decode cX1_init 9 = .ok (.aload_n 0, 1) := by decide +kernel
theorem dX1_init_10 : decode cX1_init 10 = .ok (.bipush 30, 2) := by decide +kernel
theorem dX1_init_12 : decode cX1_init 12 = .ok (.newarray .int, 2) := by decide +kernel
theorem dX1_init_14 : decode cX1_init 14 = .ok (.putfield 15, 3) := by decide +kernel
theorem dX1_init_17 : decode cX1_init 17 = .ok (.return_, 1) := by decide +kernel
theorem dX1_isMissing_0 : decode cX1_isMissing 0 = .ok (.aload_n 0, 1) := by decide +kernel
theorem dX1_isMissing_1 : decode cX1_isMissing 1 = .ok (.getfield 11, 3) := by decide +kernel
theorem dX1_isMissing_4 : decode cX1_isMissing 4 = .ok (.iconst (-1), 1) := by decide +kernel
theorem dX1_isMissing_5 : decode cX1_isMissing 5 = .ok (.if_icmp .ne 7, 3) := by decide +kernel
theorem dX1_isMissing_8 : decode cX1_isMissing 8 = .ok (.iconst 1, 1) := by decide +kernel
theorem dX1_isMissing_9 : decode cX1_isMissing 9 = .ok (.goto 4, 3) := by decide +kernel
theorem dX1_isMissing_12 : decode cX1_isMissing 12 = .ok (.iconst 0, 1) := by decide +kernel
theorem dX1_isMissing_13 : decode cX1_isMissing 13 = .ok (.ireturn, 1) := by decide +kernel
theorem dX1_hasPlace_0 : decode cX1_hasPlace 0 = .ok (.iload_n 1, 1) := by decide +kernel
theorem dX1_hasPlace_1 : decode cX1_hasPlace 1 = .ok (.ifCond .lt 24, 3) := by decide +kernel
theorem dX1_hasPlace_4 : decode cX1_hasPlace 4 = .ok (.iload_n 1, 1) := by decide +kernel
theorem dX1_hasPlace_5 : decode cX1_hasPlace 5 = .ok (.aload_n 0, 1) := by decide +kernel
theorem dX1_hasPlace_6 : decode cX1_hasPlace 6 = .ok (.getfield 11, 3) := by decide +kernel
theorem dX1_hasPlace_9 : decode cX1_hasPlace 9 = .ok (.if_icmp .ge 16, 3) := by decide +kernel
theorem dX1_hasPlace_12 : decode cX1_hasPlace 12 = .ok (.iload_n 1, 1) := by decide +kernel
theorem dX1_hasPlace_13 : decode cX1_hasPlace 13 = .ok (.aload_n 0, 1) := by decide +kernel
theorem dX1_hasPlace_14 : decode cX1_hasPlace 14 = .ok (.getfield 15, 3) := by decide +kernel
theorem dX1_hasPlace_17 : decode cX1_hasPlace 17 = .ok (.arraylength, 1) := by decide +kernel
theorem dX1_hasPlace_18 : decode cX1_hasPlace 18 = .ok (.if_icmp .ge 7, 3) := by decide +kernel
theorem dX1_hasPlace_21 : decode cX1_hasPlace 21 = .ok (.iconst 1, 1) := by decide +kernel
theorem dX1_hasPlace_22 : decode cX1_hasPlace 22 = .ok (.goto 4, 3) := by decide +kernel
theorem dX1_hasPlace_25 : decode cX1_hasPlace 25 = .ok (.iconst 0, 1) := by decide +kernel
theorem dX1_hasPlace_26 : decode cX1_hasPlace 26 = .ok (.ireturn, 1) := by decide +kernel
theorem dX1_lay_0 : decode cX1_lay 0 = .ok (.aload_n 0, 1) := by decide +kernel
theorem dX1_lay_1 : decode cX1_lay 1 = .ok (.iload_n 1, 1) := by decide +kernel
theorem dX1_lay_2 : decode cX1_lay 2 = .ok (.putfield 19, 3) := by decide +kernel
theorem dX1_lay_5 : decode cX1_lay 5 = .ok (.aload_n 0, 1) := by decide +kernel
theorem dX1_lay_6 : decode cX1_lay 6 = .ok (.iload_n 2, 1) := by decide +kernel
theorem dX1_lay_7 : decode cX1_lay 7 = .ok (.putfield 11, 3) := by decide +kernel
theorem dX1_lay_10 : decode cX1_lay 10 = .ok (.iconst 0, 1) := by decide +kernel
theorem dX1_lay_11 : decode cX1_lay 11 = .ok (.istore_n 3, 1) := by decide +kernel
theorem dX1_lay_12 : decode cX1_lay 12 = .ok (.iload_n 3, 1) := by decide +kernel
theorem dX1_lay_13 : decode cX1_lay 13 = .ok (.aload_n 0, 1) := by decide +kernel
theorem dX1_lay_14 : decode cX1_lay 14 = .ok (.getfield 15, 3) := by decide +kernel
theorem dX1_lay_17 : decode cX1_lay 17 = .ok (.arraylength, 1) := by decide +kernel
theorem dX1_lay_18 : decode cX1_lay 18 = .ok (.if_icmp .ge 16, 3) := by decide +kernel
theorem dX1_lay_21 : decode cX1_lay 21 = .ok (.aload_n 0, 1) := by decide +kernel
theorem dX1_lay_22 : decode cX1_lay 22 = .ok (.getfield 15, 3) := by decide +kernel
theorem dX1_lay_25 : decode cX1_lay 25 = .ok (.iload_n 3, 1) := by decide +kernel
theorem dX1_lay_26 : decode cX1_lay 26 = .ok (.iconst 0, 1) := by decide +kernel
theorem dX1_lay_27 : decode cX1_lay 27 = .ok (.iastore, 1) := by decide +kernel
theorem dX1_lay_28 : decode cX1_lay 28 = .ok (.iinc 3 1, 3) := by decide +kernel
theorem dX1_lay_31 : decode cX1_lay 31 = .ok (.goto (-19), 3) := by decide +kernel
theorem dX1_lay_34 : decode cX1_lay 34 = .ok (.return_, 1) := by decide +kernel
theorem dX1_narrowed_0 : decode cX1_narrowed 0 = .ok (.aload_n 0, 1) := by decide +kernel
theorem dX1_narrowed_1 : decode cX1_narrowed 1 = .ok (.getfield 19, 3) := by decide +kernel
theorem dX1_narrowed_4 : decode cX1_narrowed 4 = .ok (.ifCond .ne 6, 3) := by decide +kernel
theorem dX1_narrowed_7 : decode cX1_narrowed 7 = .ok (.iload_n 1, 1) := by decide +kernel
theorem dX1_narrowed_8 : decode cX1_narrowed 8 = .ok (.i2b, 1) := by decide +kernel
theorem dX1_narrowed_9 : decode cX1_narrowed 9 = .ok (.ireturn, 1) := by decide +kernel
theorem dX1_narrowed_10 : decode cX1_narrowed 10 = .ok (.aload_n 0, 1) := by decide +kernel
theorem dX1_narrowed_11 : decode cX1_narrowed 11 = .ok (.getfield 19, 3) := by decide +kernel
theorem dX1_narrowed_14 : decode cX1_narrowed 14 = .ok (.iconst 1, 1) := by decide +kernel
theorem dX1_narrowed_15 : decode cX1_narrowed 15 = .ok (.if_icmp .ne 8, 3) := by decide +kernel
theorem dX1_narrowed_18 : decode cX1_narrowed 18 = .ok (.iload_n 1, 1) := by decide +kernel
theorem dX1_narrowed_19 : decode cX1_narrowed 19 = .ok (.i2s, 1) := by decide +kernel
theorem dX1_narrowed_20 : decode cX1_narrowed 20 = .ok (.goto 4, 3) := by decide +kernel
theorem dX1_narrowed_23 : decode cX1_narrowed 23 = .ok (.iload_n 1, 1) := by decide +kernel
theorem dX1_narrowed_24 : decode cX1_narrowed 24 = .ok (.ireturn, 1) := by decide +kernel
theorem dX2_init_0 : decode cX2_init 0 = .ok (.aload_n 0, 1) := by decide +kernel
theorem dX2_init_1 : decode cX2_init 1 = .ok (.invokespecial 3, 3) := by decide +kernel
theorem dX2_init_4 : decode cX2_init 4 = .ok (.aload_n 0, 1) := by decide +kernel
theorem dX2_init_5 : decode cX2_init 5 = .ok (.sipush 141, 3) := by decide +kernel
theorem dX2_init_8 : decode cX2_init 8 = .ok (.anewarray 9, 3) := by decide +kernel
theorem dX2_init_11 : decode cX2_init 11 = .ok (.putfield 11, 3) := by decide +kernel
theorem dX2_init_14 : decode cX2_init 14 = .ok (.iconst 0, 1) := by decide +kernel
theorem dX2_init_15 : decode cX2_init 15 = .ok (.istore_n 1, 1) := by decide +kernel
theorem dX2_init_16 : decode cX2_init 16 = .ok (.iload_n 1, 1) := by decide +kernel
theorem dX2_init_17 : decode cX2_init 17 = .ok (.sipush 140, 3) := by decide +kernel
theorem dX2_init_20 : decode cX2_init 20 = .ok (.if_icmp .ge 23, 3) := by decide +kernel
theorem dX2_init_23 : decode cX2_init 23 = .ok (.aload_n 0, 1) := by decide +kernel
theorem dX2_init_24 : decode cX2_init 24 = .ok (.getfield 11, 3) := by decide +kernel
theorem dX2_init_27 : decode cX2_init 27 = .ok (.iload_n 1, 1) := by decide +kernel
theorem dX2_init_28 : decode cX2_init 28 = .ok (.new 9, 3) := by decide +kernel
theorem dX2_init_31 : decode cX2_init 31 = .ok (.dup, 1) := by decide +kernel
theorem dX2_init_32 : decode cX2_init 32 = .ok (.iconst (-1), 1) := by decide +kernel
theorem dX2_init_33 : decode cX2_init 33 = .ok (.invokespecial 17, 3) := by decide +kernel
theorem dX2_init_36 : decode cX2_init 36 = .ok (.aastore, 1) := by decide +kernel
theorem dX2_init_37 : decode cX2_init 37 = .ok (.iinc 1 1, 3) := by decide +kernel
theorem dX2_init_40 : decode cX2_init 40 = .ok (.goto (-24), 3) := by decide +kernel
theorem dX2_init_43 : decode cX2_init 43 = .ok (.aload_n 0, 1) := by decide +kernel
theorem dX2_init_44 : decode cX2_init 44 = .ok (.getfield 11, 3) := by decide +kernel
theorem dX2_init_47 : decode cX2_init 47 = .ok (.sipush 140, 3) := by decide +kernel
theorem dX2_init_50 : decode cX2_init 50 = .ok (.new 9, 3) := by decide +kernel
theorem dX2_init_53 : decode cX2_init 53 = .ok (.dup, 1) := by decide +kernel
theorem dX2_init_54 : decode cX2_init 54 = .ok (.iconst 0, 1) := by decide +kernel
theorem dX2_init_55 : decode cX2_init 55 = .ok (.invokespecial 17, 3) := by decide +kernel
theorem dX2_init_58 : decode cX2_init 58 = .ok (.aastore, 1) := by decide +kernel
theorem dX2_init_59 : decode cX2_init 59 = .ok (.return_, 1) := by decide +kernel
theorem dX2_sceneItem_0 : decode cX2_sceneItem 0 = .ok (.aload_n 0, 1) := by decide +kernel
theorem dX2_sceneItem_1 : decode cX2_sceneItem 1 = .ok (.getfield 11, 3) := by decide +kernel
theorem dX2_sceneItem_4 : decode cX2_sceneItem 4 = .ok (.iload_n 1, 1) := by decide +kernel
theorem dX2_sceneItem_5 : decode cX2_sceneItem 5 = .ok (.bipush 7, 2) := by decide +kernel
theorem dX2_sceneItem_7 : decode cX2_sceneItem 7 = .ok (.imul, 1) := by decide +kernel
theorem dX2_sceneItem_8 : decode cX2_sceneItem 8 = .ok (.aaload, 1) := by decide +kernel
theorem dX2_sceneItem_9 : decode cX2_sceneItem 9 = .ok (.areturn, 1) := by decide +kernel
theorem dX2_choiceItem_0 : decode cX2_choiceItem 0 = .ok (.aload_n 0, 1) := by decide +kernel
theorem dX2_choiceItem_1 : decode cX2_choiceItem 1 = .ok (.getfield 11, 3) := by decide +kernel
theorem dX2_choiceItem_4 : decode cX2_choiceItem 4 = .ok (.iload_n 1, 1) := by decide +kernel
theorem dX2_choiceItem_5 : decode cX2_choiceItem 5 = .ok (.bipush 7, 2) := by decide +kernel
theorem dX2_choiceItem_7 : decode cX2_choiceItem 7 = .ok (.imul, 1) := by decide +kernel
theorem dX2_choiceItem_8 : decode cX2_choiceItem 8 = .ok (.iconst 1, 1) := by decide +kernel
theorem dX2_choiceItem_9 : decode cX2_choiceItem 9 = .ok (.iadd, 1) := by decide +kernel
theorem dX2_choiceItem_10 : decode cX2_choiceItem 10 = .ok (.iload_n 2, 1) := by decide +kernel
theorem dX2_choiceItem_11 : decode cX2_choiceItem 11 = .ok (.iadd, 1) := by decide +kernel
theorem dX2_choiceItem_12 : decode cX2_choiceItem 12 = .ok (.aaload, 1) := by decide +kernel
theorem dX2_choiceItem_13 : decode cX2_choiceItem 13 = .ok (.areturn, 1) := by decide +kernel
theorem dX2_startItem_0 : decode cX2_startItem 0 = .ok (.aload_n 0, 1) := by decide +kernel
theorem dX2_startItem_1 : decode cX2_startItem 1 = .ok (.getfield 11, 3) := by decide +kernel
theorem dX2_startItem_4 : decode cX2_startItem 4 = .ok (.sipush 140, 3) := by decide +kernel
theorem dX2_startItem_7 : decode cX2_startItem 7 = .ok (.aaload, 1) := by decide +kernel
theorem dX2_startItem_8 : decode cX2_startItem 8 = .ok (.areturn, 1) := by decide +kernel
theorem dX2_copyFrom_0 : decode cX2_copyFrom 0 = .ok (.iconst 0, 1) := by decide +kernel
theorem dX2_copyFrom_1 : decode cX2_copyFrom 1 = .ok (.istore_n 2, 1) := by decide +kernel
theorem dX2_copyFrom_2 : decode cX2_copyFrom 2 = .ok (.iload_n 2, 1) := by decide +kernel
theorem dX2_copyFrom_3 : decode cX2_copyFrom 3 = .ok (.sipush 141, 3) := by decide +kernel
theorem dX2_copyFrom_6 : decode cX2_copyFrom 6 = .ok (.if_icmp .ge 24, 3) := by decide +kernel
theorem dX2_copyFrom_9 : decode cX2_copyFrom 9 = .ok (.aload_n 0, 1) := by decide +kernel
theorem dX2_copyFrom_10 : decode cX2_copyFrom 10 = .ok (.getfield 11, 3) := by decide +kernel
theorem dX2_copyFrom_13 : decode cX2_copyFrom 13 = .ok (.iload_n 2, 1) := by decide +kernel
theorem dX2_copyFrom_14 : decode cX2_copyFrom 14 = .ok (.aaload, 1) := by decide +kernel
theorem dX2_copyFrom_15 : decode cX2_copyFrom 15 = .ok (.aload_n 1, 1) := by decide +kernel
theorem dX2_copyFrom_16 : decode cX2_copyFrom 16 = .ok (.getfield 11, 3) := by decide +kernel
theorem dX2_copyFrom_19 : decode cX2_copyFrom 19 = .ok (.iload_n 2, 1) := by decide +kernel
theorem dX2_copyFrom_20 : decode cX2_copyFrom 20 = .ok (.aaload, 1) := by decide +kernel
theorem dX2_copyFrom_21 : decode cX2_copyFrom 21 = .ok (.invokevirtual 20, 3) := by decide +kernel
theorem dX2_copyFrom_24 : decode cX2_copyFrom 24 = .ok (.iinc 2 1, 3) := by decide +kernel
theorem dX2_copyFrom_27 : decode cX2_copyFrom 27 = .ok (.goto (-25), 3) := by decide +kernel
theorem dX2_copyFrom_30 : decode cX2_copyFrom 30 = .ok (.return_, 1) := by decide +kernel
theorem dX2_removeChoices_0 : decode cX2_removeChoices 0 = .ok (.iconst 0, 1) := by decide +kernel
theorem dX2_removeChoices_1 : decode cX2_removeChoices 1 = .ok (.istore_n 2, 1) := by decide +kernel
theorem dX2_removeChoices_2 : decode cX2_removeChoices 2 = .ok (.iload_n 2, 1) := by decide +kernel
theorem dX2_removeChoices_3 : decode cX2_removeChoices 3 = .ok (.bipush 6, 2) := by decide +kernel
theorem dX2_removeChoices_5 : decode cX2_removeChoices 5 = .ok (.if_icmp .ge 19, 3) := by decide +kernel
theorem dX2_removeChoices_8 : decode cX2_removeChoices 8 = .ok (.aload_n 0, 1) := by decide +kernel
theorem dX2_removeChoices_9 : decode cX2_removeChoices 9 = .ok (.iload_n 1, 1) := by decide +kernel
theorem dX2_removeChoices_10 : decode cX2_removeChoices 10 = .ok (.iload_n 2, 1) := by decide +kernel
theorem dX2_removeChoices_11 : decode cX2_removeChoices 11 = .ok (.invokevirtual 24, 3) := by decide +kernel
theorem dX2_removeChoices_14 : decode cX2_removeChoices 14 = .ok (.iconst (-1), 1) := by decide +kernel
theorem dX2_removeChoices_15 : decode cX2_removeChoices 15 = .ok (.invokevirtual 28, 3) := by decide +kernel
theorem dX2_removeChoices_18 : decode cX2_removeChoices 18 = .ok (.iinc 2 1, 3) := by decide +kernel
theorem dX2_removeChoices_21 : decode cX2_removeChoices 21 = .ok (.goto (-19), 3) := by decide +kernel
theorem dX2_removeChoices_24 : decode cX2_removeChoices 24 = .ok (.return_, 1) := by decide +kernel
theorem dX2_removeLooseChoices_0 : decode cX2_removeLooseChoices 0 = .ok (.iconst 0, 1) := by decide +kernel
theorem dX2_removeLooseChoices_1 : decode cX2_removeLooseChoices 1 = .ok (.istore_n 1, 1) := by decide +kernel
theorem dX2_removeLooseChoices_2 : decode cX2_removeLooseChoices 2 = .ok (.iload_n 1, 1) := by decide +kernel
theorem dX2_removeLooseChoices_3 : decode cX2_removeLooseChoices 3 = .ok (.bipush 20, 2) := by decide +kernel
theorem dX2_removeLooseChoices_5 : decode cX2_removeLooseChoices 5 = .ok (.if_icmp .ge 25, 3) := by decide +kernel
theorem dX2_removeLooseChoices_8 : decode cX2_removeLooseChoices 8 = .ok (.aload_n 0, 1) := by decide +kernel
theorem dX2_removeLooseChoices_9 : decode cX2_removeLooseChoices 9 = .ok (.iload_n 1, 1) := by decide +kernel
theorem dX2_removeLooseChoices_10 : decode cX2_removeLooseChoices 10 = .ok (.invokevirtual 31, 3) := by decide +kernel
theorem dX2_removeLooseChoices_13 : decode cX2_removeLooseChoices 13 = .ok (.invokevirtual 35, 3) := by decide +kernel
theorem dX2_removeLooseChoices_16 : decode cX2_removeLooseChoices 16 = .ok (.ifCond .ne 8, 3) := by decide +kernel
theorem dX2_removeLooseChoices_19 : decode cX2_removeLooseChoices 19 = .ok (.aload_n 0, 1) := by decide +kernel
theorem dX2_removeLooseChoices_20 : decode cX2_removeLooseChoices 20 = .ok (.iload_n 1, 1) := by decide +kernel
theorem dX2_removeLooseChoices_21 : decode cX2_removeLooseChoices 21 = .ok (.invokevirtual 39, 3) := by decide +kernel
theorem dX2_removeLooseChoices_24 : decode cX2_removeLooseChoices 24 = .ok (.iinc 1 1, 3) := by decide +kernel
theorem dX2_removeLooseChoices_27 : decode cX2_removeLooseChoices 27 = .ok (.goto (-25), 3) := by decide +kernel
theorem dX2_removeLooseChoices_30 : decode cX2_removeLooseChoices 30 = .ok (.return_, 1) := by decide +kernel
theorem dX2_choiceBits_0 : decode cX2_choiceBits 0 = .ok (.iconst 0, 1) := by decide +kernel
theorem dX2_choiceBits_1 : decode cX2_choiceBits 1 = .ok (.istore_n 2, 1) := by decide +kernel
theorem dX2_choiceBits_2 : decode cX2_choiceBits 2 = .ok (.iconst 0, 1) := by decide +kernel
theorem dX2_choiceBits_3 : decode cX2_choiceBits 3 = .ok (.istore_n 3, 1) := by decide +kernel
theorem dX2_choiceBits_4 : decode cX2_choiceBits 4 = .ok (.iload_n 3, 1) := by decide +kernel
theorem dX2_choiceBits_5 : decode cX2_choiceBits 5 = .ok (.bipush 6, 2) := by decide +kernel
theorem dX2_choiceBits_7 : decode cX2_choiceBits 7 = .ok (.if_icmp .ge 27, 3) := by decide +kernel
theorem dX2_choiceBits_10 : decode cX2_choiceBits 10 = .ok (.aload_n 0, 1) := by decide +kernel
theorem dX2_choiceBits_11 : decode cX2_choiceBits 11 = .ok (.iload_n 1, 1) := by decide +kernel
theorem dX2_choiceBits_12 : decode cX2_choiceBits 12 = .ok (.iload_n 3, 1) := by decide +kernel
theorem dX2_choiceBits_13 : decode cX2_choiceBits 13 = .ok (.invokevirtual 24, 3) := by decide +kernel
theorem dX2_choiceBits_16 : decode cX2_choiceBits 16 = .ok (.invokevirtual 35, 3) := by decide +kernel
theorem dX2_choiceBits_19 : decode cX2_choiceBits 19 = .ok (.ifCond .eq 9, 3) := by decide +kernel
theorem dX2_choiceBits_22 : decode cX2_choiceBits 22 = .ok (.iload_n 2, 1) := by decide +kernel
theorem dX2_choiceBits_23 : decode cX2_choiceBits 23 = .ok (.iconst 1, 1) := by decide +kernel
theorem dX2_choiceBits_24 : decode cX2_choiceBits 24 = .ok (.iload_n 3, 1) := by decide +kernel
theorem dX2_choiceBits_25 : decode cX2_choiceBits 25 = .ok (.ishl, 1) := by decide +kernel
theorem dX2_choiceBits_26 : decode cX2_choiceBits 26 = .ok (.ior, 1) := by decide +kernel
theorem dX2_choiceBits_27 : decode cX2_choiceBits 27 = .ok (.istore_n 2, 1) := by decide +kernel
theorem dX2_choiceBits_28 : decode cX2_choiceBits 28 = .ok (.iinc 3 1, 3) := by decide +kernel
theorem dX2_choiceBits_31 : decode cX2_choiceBits 31 = .ok (.goto (-27), 3) := by decide +kernel
theorem dX2_choiceBits_34 : decode cX2_choiceBits 34 = .ok (.iload_n 2, 1) := by decide +kernel
theorem dX2_choiceBits_35 : decode cX2_choiceBits 35 = .ok (.ireturn, 1) := by decide +kernel
theorem dX2_countScenes_0 : decode cX2_countScenes 0 = .ok (.iconst 0, 1) := by decide +kernel
theorem dX2_countScenes_1 : decode cX2_countScenes 1 = .ok (.istore_n 1, 1) := by decide +kernel
theorem dX2_countScenes_2 : decode cX2_countScenes 2 = .ok (.iconst 0, 1) := by decide +kernel
theorem dX2_countScenes_3 : decode cX2_countScenes 3 = .ok (.istore_n 2, 1) := by decide +kernel
theorem dX2_countScenes_4 : decode cX2_countScenes 4 = .ok (.iload_n 2, 1) := by decide +kernel
theorem dX2_countScenes_5 : decode cX2_countScenes 5 = .ok (.bipush 20, 2) := by decide +kernel
theorem dX2_countScenes_7 : decode cX2_countScenes 7 = .ok (.if_icmp .ge 23, 3) := by decide +kernel
theorem dX2_countScenes_10 : decode cX2_countScenes 10 = .ok (.aload_n 0, 1) := by decide +kernel
theorem dX2_countScenes_11 : decode cX2_countScenes 11 = .ok (.iload_n 2, 1) := by decide +kernel
theorem dX2_countScenes_12 : decode cX2_countScenes 12 = .ok (.invokevirtual 31, 3) := by decide +kernel
theorem dX2_countScenes_15 : decode cX2_countScenes 15 = .ok (.invokevirtual 35, 3) := by decide +kernel
theorem dX2_countScenes_18 : decode cX2_countScenes 18 = .ok (.ifCond .eq 6, 3) := by decide +kernel
theorem dX2_countScenes_21 : decode cX2_countScenes 21 = .ok (.iinc 1 1, 3) := by decide +kernel
theorem dX2_countScenes_24 : decode cX2_countScenes 24 = .ok (.iinc 2 1, 3) := by decide +kernel
theorem dX2_countScenes_27 : decode cX2_countScenes 27 = .ok (.goto (-23), 3) := by decide +kernel
theorem dX2_countScenes_30 : decode cX2_countScenes 30 = .ok (.iload_n 1, 1) := by decide +kernel
theorem dX2_countScenes_31 : decode cX2_countScenes 31 = .ok (.ireturn, 1) := by decide +kernel
theorem dX2_countChoices_0 : decode cX2_countChoices 0 = .ok (.iconst 0, 1) := by decide +kernel
theorem dX2_countChoices_1 : decode cX2_countChoices 1 = .ok (.istore_n 1, 1) := by decide +kernel
theorem dX2_countChoices_2 : decode cX2_countChoices 2 = .ok (.iconst 0, 1) := by decide +kernel
theorem dX2_countChoices_3 : decode cX2_countChoices 3 = .ok (.istore_n 2, 1) := by decide +kernel
theorem dX2_countChoices_4 : decode cX2_countChoices 4 = .ok (.iload_n 2, 1) := by decide +kernel
theorem dX2_countChoices_5 : decode cX2_countChoices 5 = .ok (.bipush 20, 2) := by decide +kernel
theorem dX2_countChoices_7 : decode cX2_countChoices 7 = .ok (.if_icmp .ge 20, 3) := by decide +kernel
theorem dX2_countChoices_10 : decode cX2_countChoices 10 = .ok (.iload_n 1, 1) := by decide +kernel
theorem dX2_countChoices_11 : decode cX2_countChoices 11 = .ok (.aload_n 0, 1) := by decide +kernel
theorem dX2_countChoices_12 : decode cX2_countChoices 12 = .ok (.iload_n 2, 1) := by decide +kernel
theorem dX2_countChoices_13 : decode cX2_countChoices 13 = .ok (.invokevirtual 42, 3) := by decide +kernel
theorem dX2_countChoices_16 : decode cX2_countChoices 16 = .ok (.invokestatic 46, 3) := by decide +kernel
theorem dX2_countChoices_19 : decode cX2_countChoices 19 = .ok (.iadd, 1) := by decide +kernel
theorem dX2_countChoices_20 : decode cX2_countChoices 20 = .ok (.istore_n 1, 1) := by decide +kernel
theorem dX2_countChoices_21 : decode cX2_countChoices 21 = .ok (.iinc 2 1, 3) := by decide +kernel
theorem dX2_countChoices_24 : decode cX2_countChoices 24 = .ok (.goto (-20), 3) := by decide +kernel
theorem dX2_countChoices_27 : decode cX2_countChoices 27 = .ok (.iload_n 1, 1) := by decide +kernel
theorem dX2_countChoices_28 : decode cX2_countChoices 28 = .ok (.ireturn, 1) := by decide +kernel
theorem dX2_hasBeginning_0 : decode cX2_hasBeginning 0 = .ok (.aload_n 0, 1) := by decide +kernel
theorem dX2_hasBeginning_1 : decode cX2_hasBeginning 1 = .ok (.iconst 0, 1) := by decide +kernel
theorem dX2_hasBeginning_2 : decode cX2_hasBeginning 2 = .ok (.invokevirtual 31, 3) := by decide +kernel
theorem dX2_hasBeginning_5 : decode cX2_hasBeginning 5 = .ok (.invokevirtual 35, 3) := by decide +kernel
theorem dX2_hasBeginning_8 : decode cX2_hasBeginning 8 = .ok (.ifCond .eq 13, 3) := by decide +kernel
theorem dX2_hasBeginning_11 : decode cX2_hasBeginning 11 = .ok (.iload_n 1, 1) := by decide +kernel
theorem dX2_hasBeginning_12 : decode cX2_hasBeginning 12 = .ok (.iconst 1, 1) := by decide +kernel
theorem dX2_hasBeginning_13 : decode cX2_hasBeginning 13 = .ok (.iand, 1) := by decide +kernel
theorem dX2_hasBeginning_14 : decode cX2_hasBeginning 14 = .ok (.ifCond .ne 7, 3) := by decide +kernel
theorem dX2_hasBeginning_17 : decode cX2_hasBeginning 17 = .ok (.iconst 1, 1) := by decide +kernel
theorem dX2_hasBeginning_18 : decode cX2_hasBeginning 18 = .ok (.goto 4, 3) := by decide +kernel
theorem dX2_hasBeginning_21 : decode cX2_hasBeginning 21 = .ok (.iconst 0, 1) := by decide +kernel
theorem dX2_hasBeginning_22 : decode cX2_hasBeginning 22 = .ok (.ireturn, 1) := by decide +kernel
theorem dX2_beginningWith_0 : decode cX2_beginningWith 0 = .ok (.iconst 0, 1) := by decide +kernel
theorem dX2_beginningWith_1 : decode cX2_beginningWith 1 = .ok (.aload_n 0, 1) := by decide +kernel
theorem dX2_beginningWith_2 : decode cX2_beginningWith 2 = .ok (.invokevirtual 51, 3) := by decide +kernel
theorem dX2_beginningWith_5 : decode cX2_beginningWith 5 = .ok (.getfield 55, 3) := by decide +kernel
theorem dX2_beginningWith_8 : decode cX2_beginningWith 8 = .ok (.iload_n 1, 1) := by decide +kernel
theorem dX2_beginningWith_9 : decode cX2_beginningWith 9 = .ok (.ior, 1) := by decide +kernel
theorem dX2_beginningWith_10 : decode cX2_beginningWith 10 = .ok (.invokestatic 59, 3) := by decide +kernel
theorem dX2_beginningWith_13 : decode cX2_beginningWith 13 = .ok (.ireturn, 1) := by decide +kernel
theorem dX2_isEndingState_0 : decode cX2_isEndingState 0 = .ok (.aload_n 0, 1) := by decide +kernel
theorem dX2_isEndingState_1 : decode cX2_isEndingState 1 = .ok (.iload_n 1, 1) := by decide +kernel
theorem dX2_isEndingState_2 : decode cX2_isEndingState 2 = .ok (.invokestatic 63, 3) := by decide +kernel
theorem dX2_isEndingState_5 : decode cX2_isEndingState 5 = .ok (.invokevirtual 31, 3) := by decide +kernel
theorem dX2_isEndingState_8 : decode cX2_isEndingState 8 = .ok (.invokevirtual 66, 3) := by decide +kernel
theorem dX2_isEndingState_11 : decode cX2_isEndingState 11 = .ok (.ireturn, 1) := by decide +kernel
theorem dX2_leadsTo_0 : decode cX2_leadsTo 0 = .ok (.iload_n 1, 1) := by decide +kernel
theorem dX2_leadsTo_1 : decode cX2_leadsTo 1 = .ok (.invokestatic 63, 3) := by decide +kernel
theorem dX2_leadsTo_4 : decode cX2_leadsTo 4 = .ok (.istore 4, 2) := by decide +kernel
theorem dX2_leadsTo_6 : decode cX2_leadsTo 6 = .ok (.iload_n 1, 1) := by decide +kernel
theorem dX2_leadsTo_7 : decode cX2_leadsTo 7 = .ok (.invokestatic 69, 3) := by decide +kernel
theorem dX2_leadsTo_10 : decode cX2_leadsTo 10 = .ok (.istore 5, 2) := by decide +kernel
theorem dX2_leadsTo_12 : decode cX2_leadsTo 12 = .ok (.aload_n 0, 1) := by decide +kernel
theorem dX2_leadsTo_13 : decode cX2_leadsTo 13 = .ok (.iload 4, 2) := by decide +kernel
theorem dX2_leadsTo_15 : decode cX2_leadsTo 15 = .ok (.iload_n 2, 1) := by decide +kernel
theorem dX2_leadsTo_16 : decode cX2_leadsTo 16 = .ok (.invokevirtual 24, 3) := by decide +kernel
theorem dX2_leadsTo_19 : decode cX2_leadsTo 19 = .ok (.astore 6, 2) := by decide +kernel
theorem dX2_leadsTo_21 : decode cX2_leadsTo 21 = .ok (.aload 6, 2) := by decide +kernel
theorem dX2_leadsTo_23 : decode cX2_leadsTo 23 = .ok (.invokevirtual 35, 3) := by decide +kernel
theorem dX2_leadsTo_26 : decode cX2_leadsTo 26 = .ok (.ifCond .eq 25, 3) := by decide +kernel
theorem dX2_leadsTo_29 : decode cX2_leadsTo 29 = .ok (.aload_n 0, 1) := by decide +kernel
theorem dX2_leadsTo_30 : decode cX2_leadsTo 30 = .ok (.iload 4, 2) := by decide +kernel
theorem dX2_leadsTo_32 : decode cX2_leadsTo 32 = .ok (.invokevirtual 31, 3) := by decide +kernel
theorem dX2_leadsTo_35 : decode cX2_leadsTo 35 = .ok (.invokevirtual 66, 3) := by decide +kernel
theorem dX2_leadsTo_38 : decode cX2_leadsTo 38 = .ok (.ifCond .ne 13, 3) := by decide +kernel
theorem dX2_leadsTo_41 : decode cX2_leadsTo 41 = .ok (.aload 6, 2) := by decide +kernel
theorem dX2_leadsTo_43 : decode cX2_leadsTo 43 = .ok (.iload 5, 2) := by decide +kernel
theorem dX2_leadsTo_45 : decode cX2_leadsTo 45 = .ok (.invokevirtual 72, 3) := by decide +kernel
theorem dX2_leadsTo_48 : decode cX2_leadsTo 48 = .ok (.ifCond .ne 5, 3) := by decide +kernel
theorem dX2_leadsTo_51 : decode cX2_leadsTo 51 = .ok (.iconst (-1), 1) := by decide +kernel
theorem dX2_leadsTo_52 : decode cX2_leadsTo 52 = .ok (.ireturn, 1) := by decide +kernel
theorem dX2_leadsTo_53 : decode cX2_leadsTo 53 = .ok (.aload 6, 2) := by decide +kernel
theorem dX2_leadsTo_55 : decode cX2_leadsTo 55 = .ok (.getfield 55, 3) := by decide +kernel
theorem dX2_leadsTo_58 : decode cX2_leadsTo 58 = .ok (.istore 7, 2) := by decide +kernel
theorem dX2_leadsTo_60 : decode cX2_leadsTo 60 = .ok (.aload_n 0, 1) := by decide +kernel
theorem dX2_leadsTo_61 : decode cX2_leadsTo 61 = .ok (.iload 7, 2) := by decide +kernel
theorem dX2_leadsTo_63 : decode cX2_leadsTo 63 = .ok (.invokevirtual 31, 3) := by decide +kernel
theorem dX2_leadsTo_66 : decode cX2_leadsTo 66 = .ok (.astore 8, 2) := by decide +kernel
theorem dX2_leadsTo_68 : decode cX2_leadsTo 68 = .ok (.iload 5, 2) := by decide +kernel
theorem dX2_leadsTo_70 : decode cX2_leadsTo 70 = .ok (.aload 6, 2) := by decide +kernel
theorem dX2_leadsTo_72 : decode cX2_leadsTo 72 = .ok (.getfield 76, 3) := by decide +kernel
theorem dX2_leadsTo_75 : decode cX2_leadsTo 75 = .ok (.iconst (-1), 1) := by decide +kernel
theorem dX2_leadsTo_76 : decode cX2_leadsTo 76 = .ok (.ixor, 1) := by decide +kernel
theorem dX2_leadsTo_77 : decode cX2_leadsTo 77 = .ok (.iand, 1) := by decide +kernel
theorem dX2_leadsTo_78 : decode cX2_leadsTo 78 = .ok (.aload 6, 2) := by decide +kernel
theorem dX2_leadsTo_80 : decode cX2_leadsTo 80 = .ok (.getfield 79, 3) := by decide +kernel
theorem dX2_leadsTo_83 : decode cX2_leadsTo 83 = .ok (.ior, 1) := by decide +kernel
theorem dX2_leadsTo_84 : decode cX2_leadsTo 84 = .ok (.istore 9, 2) := by decide +kernel
theorem dX2_leadsTo_86 : decode cX2_leadsTo 86 = .ok (.iload_n 3, 1) := by decide +kernel
theorem dX2_leadsTo_87 : decode cX2_leadsTo 87 = .ok (.iload 7, 2) := by decide +kernel
theorem dX2_leadsTo_89 : decode cX2_leadsTo 89 = .ok (.ishr, 1) := by decide +kernel
theorem dX2_leadsTo_90 : decode cX2_leadsTo 90 = .ok (.iconst 1, 1) := by decide +kernel
theorem dX2_leadsTo_91 : decode cX2_leadsTo 91 = .ok (.iand, 1) := by decide +kernel
theorem dX2_leadsTo_92 : decode cX2_leadsTo 92 = .ok (.ifCond .eq 7, 3) := by decide +kernel
theorem dX2_leadsTo_95 : decode cX2_leadsTo 95 = .ok (.iconst 1, 1) := by decide +kernel
theorem dX2_leadsTo_96 : decode cX2_leadsTo 96 = .ok (.goto 4, 3) := by decide +kernel
theorem dX2_leadsTo_99 : decode cX2_leadsTo 99 = .ok (.iconst 0, 1) := by decide +kernel
theorem dX2_leadsTo_100 : decode cX2_leadsTo 100 = .ok (.istore 10, 2) := by decide +kernel
theorem dX2_leadsTo_102 : decode cX2_leadsTo 102 = .ok (.aload 8, 2) := by decide +kernel
theorem dX2_leadsTo_104 : decode cX2_leadsTo 104 = .ok (.invokevirtual 35, 3) := by decide +kernel
theorem dX2_leadsTo_107 : decode cX2_leadsTo 107 = .ok (.ifCond .eq 18, 3) := by decide +kernel
theorem dX2_leadsTo_110 : decode cX2_leadsTo 110 = .ok (.iload 10, 2) := by decide +kernel
theorem dX2_leadsTo_112 : decode cX2_leadsTo 112 = .ok (.ifCond .ne 13, 3) := by decide +kernel
theorem dX2_leadsTo_115 : decode cX2_leadsTo 115 = .ok (.aload 8, 2) := by decide +kernel
theorem dX2_leadsTo_117 : decode cX2_leadsTo 117 = .ok (.iload 9, 2) := by decide +kernel
theorem dX2_leadsTo_119 : decode cX2_leadsTo 119 = .ok (.invokevirtual 72, 3) := by decide +kernel
theorem dX2_leadsTo_122 : decode cX2_leadsTo 122 = .ok (.ifCond .ne 5, 3) := by decide +kernel
theorem dX2_leadsTo_125 : decode cX2_leadsTo 125 = .ok (.iconst (-1), 1) := by decide +kernel
theorem dX2_leadsTo_126 : decode cX2_leadsTo 126 = .ok (.ireturn, 1) := by decide +kernel
theorem dX2_leadsTo_127 : decode cX2_leadsTo 127 = .ok (.iload 7, 2) := by decide +kernel
theorem dX2_leadsTo_129 : decode cX2_leadsTo 129 = .ok (.iload 9, 2) := by decide +kernel
theorem dX2_leadsTo_131 : decode cX2_leadsTo 131 = .ok (.aload 8, 2) := by decide +kernel
theorem dX2_leadsTo_133 : decode cX2_leadsTo 133 = .ok (.getfield 76, 3) := by decide +kernel
theorem dX2_leadsTo_136 : decode cX2_leadsTo 136 = .ok (.iconst (-1), 1) := by decide +kernel
theorem dX2_leadsTo_137 : decode cX2_leadsTo 137 = .ok (.ixor, 1) := by decide +kernel
theorem dX2_leadsTo_138 : decode cX2_leadsTo 138 = .ok (.iand, 1) := by decide +kernel
theorem dX2_leadsTo_139 : decode cX2_leadsTo 139 = .ok (.invokestatic 59, 3) := by decide +kernel
theorem dX2_leadsTo_142 : decode cX2_leadsTo 142 = .ok (.ireturn, 1) := by decide +kernel
theorem dX2_findLive_0 : decode cX2_findLive 0 = .ok (.iconst 0, 1) := by decide +kernel
theorem dX2_findLive_1 : decode cX2_findLive 1 = .ok (.istore_n 2, 1) := by decide +kernel
theorem dX2_findLive_2 : decode cX2_findLive 2 = .ok (.iload_n 2, 1) := by decide +kernel
theorem dX2_findLive_3 : decode cX2_findLive 3 = .ok (.bipush 20, 2) := by decide +kernel
theorem dX2_findLive_5 : decode cX2_findLive 5 = .ok (.if_icmp .ge 13, 3) := by decide +kernel
theorem dX2_findLive_8 : decode cX2_findLive 8 = .ok (.aload_n 1, 1) := by decide +kernel
theorem dX2_findLive_9 : decode cX2_findLive 9 = .ok (.iload_n 2, 1) := by decide +kernel
theorem dX2_findLive_10 : decode cX2_findLive 10 = .ok (.iconst 0, 1) := by decide +kernel
theorem dX2_findLive_11 : decode cX2_findLive 11 = .ok (.iastore, 1) := by decide +kernel
theorem dX2_findLive_12 : decode cX2_findLive 12 = .ok (.iinc 2 1, 3) := by decide +kernel
theorem dX2_findLive_15 : decode cX2_findLive 15 = .ok (.goto (-13), 3) := by decide +kernel
theorem dX2_findLive_18 : decode cX2_findLive 18 = .ok (.iconst 1, 1) := by decide +kernel
theorem dX2_findLive_19 : decode cX2_findLive 19 = .ok (.istore_n 2, 1) := by decide +kernel
theorem dX2_findLive_20 : decode cX2_findLive 20 = .ok (.iconst 0, 1) := by decide +kernel
theorem dX2_findLive_21 : decode cX2_findLive 21 = .ok (.istore_n 3, 1) := by decide +kernel
theorem dX2_findLive_22 : decode cX2_findLive 22 = .ok (.iload_n 2, 1) := by decide +kernel
theorem dX2_findLive_23 : decode cX2_findLive 23 = .ok (.ifCond .eq 65, 3) := by decide +kernel
theorem dX2_findLive_26 : decode cX2_findLive 26 = .ok (.iload_n 3, 1) := by decide +kernel
theorem dX2_findLive_27 : decode cX2_findLive 27 = .ok (.sipush 160, 3) := by decide +kernel
theorem dX2_findLive_30 : decode cX2_findLive 30 = .ok (.if_icmp .gt 58, 3) := by decide +kernel
theorem dX2_findLive_33 : decode cX2_findLive 33 = .ok (.iconst 0, 1) := by decide +kernel
theorem dX2_findLive_34 : decode cX2_findLive 34 = .ok (.istore_n 2, 1) := by decide +kernel
theorem dX2_findLive_35 : decode cX2_findLive 35 = .ok (.bipush 19, 2) := by decide +kernel
theorem dX2_findLive_37 : decode cX2_findLive 37 = .ok (.istore 4, 2) := by decide +kernel
theorem dX2_findLive_39 : decode cX2_findLive 39 = .ok (.iload 4, 2) := by decide +kernel
theorem dX2_findLive_41 : decode cX2_findLive 41 = .ok (.ifCond .lt 41, 3) := by decide +kernel
theorem dX2_findLive_44 : decode cX2_findLive 44 = .ok (.aload_n 0, 1) := by decide +kernel
theorem dX2_findLive_45 : decode cX2_findLive 45 = .ok (.iload 4, 2) := by decide +kernel
theorem dX2_findLive_47 : decode cX2_findLive 47 = .ok (.aload_n 1, 1) := by decide +kernel
theorem dX2_findLive_48 : decode cX2_findLive 48 = .ok (.invokevirtual 82, 3) := by decide +kernel
theorem dX2_findLive_51 : decode cX2_findLive 51 = .ok (.istore 5, 2) := by decide +kernel
theorem dX2_findLive_53 : decode cX2_findLive 53 = .ok (.iload_n 2, 1) := by decide +kernel
theorem dX2_findLive_54 : decode cX2_findLive 54 = .ok (.iload 5, 2) := by decide +kernel
theorem dX2_findLive_56 : decode cX2_findLive 56 = .ok (.aload_n 1, 1) := by decide +kernel
theorem dX2_findLive_57 : decode cX2_findLive 57 = .ok (.iload 4, 2) := by decide +kernel
theorem dX2_findLive_59 : decode cX2_findLive 59 = .ok (.iaload, 1) := by decide +kernel
theorem dX2_findLive_60 : decode cX2_findLive 60 = .ok (.if_icmp .eq 7, 3) := by decide +kernel
theorem dX2_findLive_63 : decode cX2_findLive 63 = .ok (.iconst 1, 1) := by decide +kernel
theorem dX2_findLive_64 : decode cX2_findLive 64 = .ok (.goto 4, 3) := by decide +kernel
theorem dX2_findLive_67 : decode cX2_findLive 67 = .ok (.iconst 0, 1) := by decide +kernel
theorem dX2_findLive_68 : decode cX2_findLive 68 = .ok (.ior, 1) := by decide +kernel
theorem dX2_findLive_69 : decode cX2_findLive 69 = .ok (.istore_n 2, 1) := by decide +kernel
theorem dX2_findLive_70 : decode cX2_findLive 70 = .ok (.aload_n 1, 1) := by decide +kernel
theorem dX2_findLive_71 : decode cX2_findLive 71 = .ok (.iload 4, 2) := by decide +kernel
theorem dX2_findLive_73 : decode cX2_findLive 73 = .ok (.iload 5, 2) := by decide +kernel
theorem dX2_findLive_75 : decode cX2_findLive 75 = .ok (.iastore, 1) := by decide +kernel
theorem dX2_findLive_76 : decode cX2_findLive 76 = .ok (.iinc 4 (-1), 3) := by decide +kernel
theorem dX2_findLive_79 : decode cX2_findLive 79 = .ok (.goto (-40), 3) := by decide +kernel
theorem dX2_findLive_82 : decode cX2_findLive 82 = .ok (.iinc 3 1, 3) := by decide +kernel
theorem dX2_findLive_85 : decode cX2_findLive 85 = .ok (.goto (-63), 3) := by decide +kernel
theorem dX2_findLive_88 : decode cX2_findLive 88 = .ok (.return_, 1) := by decide +kernel
theorem dX2_liveAt_0 : decode cX2_liveAt 0 = .ok (.iconst 0, 1) := by decide +kernel
theorem dX2_liveAt_1 : decode cX2_liveAt 1 = .ok (.istore_n 3, 1) := by decide +kernel
theorem dX2_liveAt_2 : decode cX2_liveAt 2 = .ok (.aload_n 0, 1) := by decide +kernel
theorem dX2_liveAt_3 : decode cX2_liveAt 3 = .ok (.iload_n 1, 1) := by decide +kernel
theorem dX2_liveAt_4 : decode cX2_liveAt 4 = .ok (.invokevirtual 31, 3) := by decide +kernel
theorem dX2_liveAt_7 : decode cX2_liveAt 7 = .ok (.invokevirtual 66, 3) := by decide +kernel
theorem dX2_liveAt_10 : decode cX2_liveAt 10 = .ok (.ifCond .eq 5, 3) := by decide +kernel
theorem dX2_liveAt_13 : decode cX2_liveAt 13 = .ok (.iload_n 3, 1) := by decide +kernel
theorem dX2_liveAt_14 : decode cX2_liveAt 14 = .ok (.ireturn, 1) := by decide +kernel
theorem dX2_liveAt_15 : decode cX2_liveAt 15 = .ok (.iconst 0, 1) := by decide +kernel
theorem dX2_liveAt_16 : decode cX2_liveAt 16 = .ok (.istore 4, 2) := by decide +kernel
theorem dX2_liveAt_18 : decode cX2_liveAt 18 = .ok (.iload 4, 2) := by decide +kernel
theorem dX2_liveAt_20 : decode cX2_liveAt 20 = .ok (.bipush 6, 2) := by decide +kernel
theorem dX2_liveAt_22 : decode cX2_liveAt 22 = .ok (.if_icmp .ge 100, 3) := by decide +kernel
theorem dX2_liveAt_25 : decode cX2_liveAt 25 = .ok (.aload_n 0, 1) := by decide +kernel
theorem dX2_liveAt_26 : decode cX2_liveAt 26 = .ok (.iload_n 1, 1) := by decide +kernel
theorem dX2_liveAt_27 : decode cX2_liveAt 27 = .ok (.iload 4, 2) := by decide +kernel
theorem dX2_liveAt_29 : decode cX2_liveAt 29 = .ok (.invokevirtual 24, 3) := by decide +kernel
theorem dX2_liveAt_32 : decode cX2_liveAt 32 = .ok (.astore 5, 2) := by decide +kernel
theorem dX2_liveAt_34 : decode cX2_liveAt 34 = .ok (.aload 5, 2) := by decide +kernel
theorem dX2_liveAt_36 : decode cX2_liveAt 36 = .ok (.invokevirtual 35, 3) := by decide +kernel
theorem dX2_liveAt_39 : decode cX2_liveAt 39 = .ok (.ifCond .eq 77, 3) := by decide +kernel
theorem dX2_liveAt_42 : decode cX2_liveAt 42 = .ok (.aload_n 0, 1) := by decide +kernel
theorem dX2_liveAt_43 : decode cX2_liveAt 43 = .ok (.aload 5, 2) := by decide +kernel
theorem dX2_liveAt_45 : decode cX2_liveAt 45 = .ok (.getfield 55, 3) := by decide +kernel
theorem dX2_liveAt_48 : decode cX2_liveAt 48 = .ok (.invokevirtual 31, 3) := by decide +kernel
theorem dX2_liveAt_51 : decode cX2_liveAt 51 = .ok (.invokevirtual 35, 3) := by decide +kernel
theorem dX2_liveAt_54 : decode cX2_liveAt 54 = .ok (.ifCond .eq 62, 3) := by decide +kernel
theorem dX2_liveAt_57 : decode cX2_liveAt 57 = .ok (.aload_n 0, 1) := by decide +kernel
theorem dX2_liveAt_58 : decode cX2_liveAt 58 = .ok (.aload 5, 2) := by decide +kernel
theorem dX2_liveAt_60 : decode cX2_liveAt 60 = .ok (.getfield 55, 3) := by decide +kernel
theorem dX2_liveAt_63 : decode cX2_liveAt 63 = .ok (.invokevirtual 31, 3) := by decide +kernel
theorem dX2_liveAt_66 : decode cX2_liveAt 66 = .ok (.astore 6, 2) := by decide +kernel
theorem dX2_liveAt_68 : decode cX2_liveAt 68 = .ok (.aload 6, 2) := by decide +kernel
theorem dX2_liveAt_70 : decode cX2_liveAt 70 = .ok (.getfield 86, 3) := by decide +kernel
theorem dX2_liveAt_73 : decode cX2_liveAt 73 = .ok (.aload_n 2, 1) := by decide +kernel
theorem dX2_liveAt_74 : decode cX2_liveAt 74 = .ok (.aload 5, 2) := by decide +kernel
theorem dX2_liveAt_76 : decode cX2_liveAt 76 = .ok (.getfield 55, 3) := by decide +kernel
theorem dX2_liveAt_79 : decode cX2_liveAt 79 = .ok (.iaload, 1) := by decide +kernel
theorem dX2_liveAt_80 : decode cX2_liveAt 80 = .ok (.aload 6, 2) := by decide +kernel
theorem dX2_liveAt_82 : decode cX2_liveAt 82 = .ok (.getfield 76, 3) := by decide +kernel
theorem dX2_liveAt_85 : decode cX2_liveAt 85 = .ok (.iconst (-1), 1) := by decide +kernel
theorem dX2_liveAt_86 : decode cX2_liveAt 86 = .ok (.ixor, 1) := by decide +kernel
theorem dX2_liveAt_87 : decode cX2_liveAt 87 = .ok (.iand, 1) := by decide +kernel
theorem dX2_liveAt_88 : decode cX2_liveAt 88 = .ok (.ior, 1) := by decide +kernel
theorem dX2_liveAt_89 : decode cX2_liveAt 89 = .ok (.istore 7, 2) := by decide +kernel
theorem dX2_liveAt_91 : decode cX2_liveAt 91 = .ok (.iload_n 3, 1) := by decide +kernel
theorem dX2_liveAt_92 : decode cX2_liveAt 92 = .ok (.aload 5, 2) := by decide +kernel
theorem dX2_liveAt_94 : decode cX2_liveAt 94 = .ok (.getfield 86, 3) := by decide +kernel
theorem dX2_liveAt_97 : decode cX2_liveAt 97 = .ok (.iload 7, 2) := by decide +kernel
theorem dX2_liveAt_99 : decode cX2_liveAt 99 = .ok (.aload 5, 2) := by decide +kernel
theorem dX2_liveAt_101 : decode cX2_liveAt 101 = .ok (.getfield 79, 3) := by decide +kernel
theorem dX2_liveAt_104 : decode cX2_liveAt 104 = .ok (.aload 5, 2) := by decide +kernel
theorem dX2_liveAt_106 : decode cX2_liveAt 106 = .ok (.getfield 76, 3) := by decide +kernel
theorem dX2_liveAt_109 : decode cX2_liveAt 109 = .ok (.ior, 1) := by decide +kernel
theorem dX2_liveAt_110 : decode cX2_liveAt 110 = .ok (.iconst (-1), 1) := by decide +kernel
theorem dX2_liveAt_111 : decode cX2_liveAt 111 = .ok (.ixor, 1) := by decide +kernel
theorem dX2_liveAt_112 : decode cX2_liveAt 112 = .ok (.iand, 1) := by decide +kernel
theorem dX2_liveAt_113 : decode cX2_liveAt 113 = .ok (.ior, 1) := by decide +kernel
theorem dX2_liveAt_114 : decode cX2_liveAt 114 = .ok (.ior, 1) := by decide +kernel
theorem dX2_liveAt_115 : decode cX2_liveAt 115 = .ok (.istore_n 3, 1) := by decide +kernel
theorem dX2_liveAt_116 : decode cX2_liveAt 116 = .ok (.iinc 4 1, 3) := by decide +kernel
theorem dX2_liveAt_119 : decode cX2_liveAt 119 = .ok (.goto (-101), 3) := by decide +kernel
theorem dX2_liveAt_122 : decode cX2_liveAt 122 = .ok (.iload_n 3, 1) := by decide +kernel
theorem dX2_liveAt_123 : decode cX2_liveAt 123 = .ok (.ireturn, 1) := by decide +kernel
theorem dX3_init_0 : decode cX3_init 0 = .ok (.aload_n 0, 1) := by decide +kernel
theorem dX3_init_1 : decode cX3_init 1 = .ok (.invokespecial 3, 3) := by decide +kernel
theorem dX3_init_4 : decode cX3_init 4 = .ok (.aload_n 0, 1) := by decide +kernel
theorem dX3_init_5 : decode cX3_init 5 = .ok (.bipush 100, 2) := by decide +kernel
theorem dX3_init_7 : decode cX3_init 7 = .ok (.newarray .byte, 2) := by decide +kernel
theorem dX3_init_9 : decode cX3_init 9 = .ok (.putfield 11, 3) := by decide +kernel
theorem dX3_init_12 : decode cX3_init 12 = .ok (.aload_n 0, 1) := by decide +kernel
theorem dX3_init_13 : decode cX3_init 13 = .ok (.iconst 4, 1) := by decide +kernel
theorem dX3_init_14 : decode cX3_init 14 = .ok (.newarray .long, 2) := by decide +kernel
theorem dX3_init_16 : decode cX3_init 16 = .ok (.putfield 15, 3) := by decide +kernel
theorem dX3_init_19 : decode cX3_init 19 = .ok (.return_, 1) := by decide +kernel
theorem dX3_add_0 : decode cX3_add 0 = .ok (.aload_n 0, 1) := by decide +kernel
theorem dX3_add_1 : decode cX3_add 1 = .ok (.getfield 19, 3) := by decide +kernel
theorem dX3_add_4 : decode cX3_add 4 = .ok (.bipush 100, 2) := by decide +kernel
theorem dX3_add_6 : decode cX3_add 6 = .ok (.if_icmp .ge 23, 3) := by decide +kernel
theorem dX3_add_9 : decode cX3_add 9 = .ok (.aload_n 0, 1) := by decide +kernel
theorem dX3_add_10 : decode cX3_add 10 = .ok (.getfield 11, 3) := by decide +kernel
theorem dX3_add_13 : decode cX3_add 13 = .ok (.aload_n 0, 1) := by decide +kernel
theorem dX3_add_14 : decode cX3_add 14 = .ok (.getfield 19, 3) := by decide +kernel
theorem dX3_add_17 : decode cX3_add 17 = .ok (.iload_n 1, 1) := by decide +kernel
theorem dX3_add_18 : decode cX3_add 18 = .ok (.bastore, 1) := by decide +kernel
theorem dX3_add_19 : decode cX3_add 19 = .ok (.aload_n 0, 1) := by decide +kernel
theorem dX3_add_20 : decode cX3_add 20 = .ok (.dup, 1) := by decide +kernel
theorem dX3_add_21 : decode cX3_add 21 = .ok (.getfield 19, 3) := by decide +kernel
theorem dX3_add_24 : decode cX3_add 24 = .ok (.iconst 1, 1) := by decide +kernel
theorem dX3_add_25 : decode cX3_add 25 = .ok (.iadd, 1) := by decide +kernel
theorem dX3_add_26 : decode cX3_add 26 = .ok (.putfield 19, 3) := by decide +kernel
theorem dX3_add_29 : decode cX3_add 29 = .ok (.return_, 1) := by decide +kernel
theorem dX3_readNeed_0 : decode cX3_readNeed 0 = .ok (.aload_n 0, 1) := by decide +kernel
theorem dX3_readNeed_1 : decode cX3_readNeed 1 = .ok (.getfield 19, 3) := by decide +kernel
theorem dX3_readNeed_4 : decode cX3_readNeed 4 = .ok (.bipush 60, 2) := by decide +kernel
theorem dX3_readNeed_6 : decode cX3_readNeed 6 = .ok (.if_icmp .le 6, 3) := by decide +kernel
theorem dX3_readNeed_9 : decode cX3_readNeed 9 = .ok (.bipush 60, 2) := by decide +kernel
theorem dX3_readNeed_11 : decode cX3_readNeed 11 = .ok (.ireturn, 1) := by decide +kernel
theorem dX3_readNeed_12 : decode cX3_readNeed 12 = .ok (.iconst 0, 1) := by decide +kernel
theorem dX3_readNeed_13 : decode cX3_readNeed 13 = .ok (.istore_n 1, 1) := by decide +kernel
theorem dX3_readNeed_14 : decode cX3_readNeed 14 = .ok (.iload_n 1, 1) := by decide +kernel
theorem dX3_readNeed_15 : decode cX3_readNeed 15 = .ok (.iconst 4, 1) := by decide +kernel
theorem dX3_readNeed_16 : decode cX3_readNeed 16 = .ok (.if_icmp .ge 90, 3) := by decide +kernel
theorem dX3_readNeed_19 : decode cX3_readNeed 19 = .ok (.aload_n 0, 1) := by decide +kernel
theorem dX3_readNeed_20 : decode cX3_readNeed 20 = .ok (.iload_n 1, 1) := by decide +kernel
theorem dX3_readNeed_21 : decode cX3_readNeed 21 = .ok (.putfield 23, 3) := by decide +kernel
theorem dX3_readNeed_24 : decode cX3_readNeed 24 = .ok (.aload_n 0, 1) := by decide +kernel
theorem dX3_readNeed_25 : decode cX3_readNeed 25 = .ok (.iconst 0, 1) := by decide +kernel
theorem dX3_readNeed_26 : decode cX3_readNeed 26 = .ok (.putfield 26, 3) := by decide +kernel
theorem dX3_readNeed_29 : decode cX3_readNeed 29 = .ok (.aload_n 0, 1) := by decide +kernel
theorem dX3_readNeed_30 : decode cX3_readNeed 30 = .ok (.iconst (-1), 1) := by decide +kernel
theorem dX3_readNeed_31 : decode cX3_readNeed 31 = .ok (.putfield 29, 3) := by decide +kernel
theorem dX3_readNeed_34 : decode cX3_readNeed 34 = .ok (.aload_n 0, 1) := by decide +kernel
theorem dX3_readNeed_35 : decode cX3_readNeed 35 = .ok (.getfield 19, 3) := by decide +kernel
theorem dX3_readNeed_38 : decode cX3_readNeed 38 = .ok (.ifCond .ne 9, 3) := by decide +kernel
theorem dX3_readNeed_41 : decode cX3_readNeed 41 = .ok (.ldc2_w 32, 3) := by decide +kernel
theorem dX3_readNeed_44 : decode cX3_readNeed 44 = .ok (.goto 8, 3) := by decide +kernel
theorem dX3_readNeed_47 : decode cX3_readNeed 47 = .ok (.aload_n 0, 1) := by decide +kernel
theorem dX3_readNeed_48 : decode cX3_readNeed 48 = .ok (.iconst 0, 1) := by decide +kernel
theorem dX3_readNeed_49 : decode cX3_readNeed 49 = .ok (.invokevirtual 34, 3) := by decide +kernel
theorem dX3_readNeed_52 : decode cX3_readNeed 52 = .ok (.lstore_n 2, 1) := by decide +kernel
theorem dX3_readNeed_53 : decode cX3_readNeed 53 = .ok (.aload_n 0, 1) := by decide +kernel
theorem dX3_readNeed_54 : decode cX3_readNeed 54 = .ok (.getfield 29, 3) := by decide +kernel
theorem dX3_readNeed_57 : decode cX3_readNeed 57 = .ok (.iconst (-1), 1) := by decide +kernel
theorem dX3_readNeed_58 : decode cX3_readNeed 58 = .ok (.if_icmp .ne 22, 3) := by decide +kernel
theorem dX3_readNeed_61 : decode cX3_readNeed 61 = .ok (.aload_n 0, 1) := by decide +kernel
theorem dX3_readNeed_62 : decode cX3_readNeed 62 = .ok (.getfield 26, 3) := by decide +kernel
theorem dX3_readNeed_65 : decode cX3_readNeed 65 = .ok (.aload_n 0, 1) := by decide +kernel
theorem dX3_readNeed_66 : decode cX3_readNeed 66 = .ok (.getfield 19, 3) := by decide +kernel
theorem dX3_readNeed_69 : decode cX3_readNeed 69 = .ok (.if_icmp .ge 11, 3) := by decide +kernel
theorem dX3_readNeed_72 : decode cX3_readNeed 72 = .ok (.aload_n 0, 1) := by decide +kernel
theorem dX3_readNeed_73 : decode cX3_readNeed 73 = .ok (.aload_n 0, 1) := by decide +kernel
theorem dX3_readNeed_74 : decode cX3_readNeed 74 = .ok (.getfield 26, 3) := by decide +kernel
theorem dX3_readNeed_77 : decode cX3_readNeed 77 = .ok (.putfield 29, 3) := by decide +kernel
theorem dX3_readNeed_80 : decode cX3_readNeed 80 = .ok (.aload_n 0, 1) := by decide +kernel
theorem dX3_readNeed_81 : decode cX3_readNeed 81 = .ok (.getfield 29, 3) := by decide +kernel
theorem dX3_readNeed_84 : decode cX3_readNeed 84 = .ok (.iconst (-1), 1) := by decide +kernel
theorem dX3_readNeed_85 : decode cX3_readNeed 85 = .ok (.if_icmp .eq 8, 3) := by decide +kernel
theorem dX3_readNeed_88 : decode cX3_readNeed 88 = .ok (.aload_n 0, 1) := by decide +kernel
theorem dX3_readNeed_89 : decode cX3_readNeed 89 = .ok (.getfield 29, 3) := by decide +kernel
theorem dX3_readNeed_92 : decode cX3_readNeed 92 = .ok (.ireturn, 1) := by decide +kernel
theorem dX3_readNeed_93 : decode cX3_readNeed 93 = .ok (.aload_n 0, 1) := by decide +kernel
theorem dX3_readNeed_94 : decode cX3_readNeed 94 = .ok (.getfield 15, 3) := by decide +kernel
theorem dX3_readNeed_97 : decode cX3_readNeed 97 = .ok (.iload_n 1, 1) := by decide +kernel
theorem dX3_readNeed_98 : decode cX3_readNeed 98 = .ok (.lload_n 2, 1) := by decide +kernel
theorem dX3_readNeed_99 : decode cX3_readNeed 99 = .ok (.lastore, 1) := by decide +kernel
theorem dX3_readNeed_100 : decode cX3_readNeed 100 = .ok (.iinc 1 1, 3) := by decide +kernel
theorem dX3_readNeed_103 : decode cX3_readNeed 103 = .ok (.goto (-89), 3) := by decide +kernel
theorem dX3_readNeed_106 : decode cX3_readNeed 106 = .ok (.iconst (-1), 1) := by decide +kernel
theorem dX3_readNeed_107 : decode cX3_readNeed 107 = .ok (.ireturn, 1) := by decide +kernel
theorem dX3_readEither_0 : decode cX3_readEither 0 = .ok (.aload_n 0, 1) := by decide +kernel
theorem dX3_readEither_1 : decode cX3_readEither 1 = .ok (.iload_n 1, 1) := by decide +kernel
theorem dX3_readEither_2 : decode cX3_readEither 2 = .ok (.invokevirtual 38, 3) := by decide +kernel
theorem dX3_readEither_5 : decode cX3_readEither 5 = .ok (.lstore_n 2, 1) := by decide +kernel
theorem dX3_readEither_6 : decode cX3_readEither 6 = .ok (.iconst 0, 1) := by decide +kernel
theorem dX3_readEither_7 : decode cX3_readEither 7 = .ok (.istore 4, 2) := by decide +kernel
theorem dX3_readEither_9 : decode cX3_readEither 9 = .ok (.iload 4, 2) := by decide +kernel
theorem dX3_readEither_11 : decode cX3_readEither 11 = .ok (.bipush 60, 2) := by decide +kernel
theorem dX3_readEither_13 : decode cX3_readEither 13 = .ok (.if_icmp .ge 44, 3) := by decide +kernel
theorem dX3_readEither_16 : decode cX3_readEither 16 = .ok (.aload_n 0, 1) := by decide +kernel
theorem dX3_readEither_17 : decode cX3_readEither 17 = .ok (.getfield 29, 3) := by decide +kernel
theorem dX3_readEither_20 : decode cX3_readEither 20 = .ok (.iconst (-1), 1) := by decide +kernel
theorem dX3_readEither_21 : decode cX3_readEither 21 = .ok (.if_icmp .ne 36, 3) := by decide +kernel
theorem dX3_readEither_24 : decode cX3_readEither 24 = .ok (.aload_n 0, 1) := by decide +kernel
theorem dX3_readEither_25 : decode cX3_readEither 25 = .ok (.invokevirtual 41, 3) := by decide +kernel
theorem dX3_readEither_28 : decode cX3_readEither 28 = .ok (.bipush 124, 2) := by decide +kernel
theorem dX3_readEither_30 : decode cX3_readEither 30 = .ok (.if_icmp .ne 27, 3) := by decide +kernel
theorem dX3_readEither_33 : decode cX3_readEither 33 = .ok (.aload_n 0, 1) := by decide +kernel
theorem dX3_readEither_34 : decode cX3_readEither 34 = .ok (.dup, 1) := by decide +kernel
theorem dX3_readEither_35 : decode cX3_readEither 35 = .ok (.getfield 26, 3) := by decide +kernel
theorem dX3_readEither_38 : decode cX3_readEither 38 = .ok (.iconst 1, 1) := by decide +kernel
theorem dX3_readEither_39 : decode cX3_readEither 39 = .ok (.iadd, 1) := by decide +kernel
theorem dX3_readEither_40 : decode cX3_readEither 40 = .ok (.putfield 26, 3) := by decide +kernel
theorem dX3_readEither_43 : decode cX3_readEither 43 = .ok (.lload_n 2, 1) := by decide +kernel
theorem dX3_readEither_44 : decode cX3_readEither 44 = .ok (.aload_n 0, 1) := by decide +kernel
theorem dX3_readEither_45 : decode cX3_readEither 45 = .ok (.iload_n 1, 1) := by decide +kernel
theorem dX3_readEither_46 : decode cX3_readEither 46 = .ok (.invokevirtual 38, 3) := by decide +kernel
theorem dX3_readEither_49 : decode cX3_readEither 49 = .ok (.lor, 1) := by decide +kernel
theorem dX3_readEither_50 : decode cX3_readEither 50 = .ok (.lstore_n 2, 1) := by decide +kernel
theorem dX3_readEither_51 : decode cX3_readEither 51 = .ok (.iinc 4 1, 3) := by decide +kernel
theorem dX3_readEither_54 : decode cX3_readEither 54 = .ok (.goto (-45), 3) := by decide +kernel
theorem dX3_readEither_57 : decode cX3_readEither 57 = .ok (.lload_n 2, 1) := by decide +kernel
theorem dX3_readEither_58 : decode cX3_readEither 58 = .ok (.lreturn, 1) := by decide +kernel
theorem dX3_readBoth_0 : decode cX3_readBoth 0 = .ok (.aload_n 0, 1) := by decide +kernel
theorem dX3_readBoth_1 : decode cX3_readBoth 1 = .ok (.iload_n 1, 1) := by decide +kernel
theorem dX3_readBoth_2 : decode cX3_readBoth 2 = .ok (.invokevirtual 45, 3) := by decide +kernel
theorem dX3_readBoth_5 : decode cX3_readBoth 5 = .ok (.lstore_n 2, 1) := by decide +kernel
theorem dX3_readBoth_6 : decode cX3_readBoth 6 = .ok (.iconst 0, 1) := by decide +kernel
theorem dX3_readBoth_7 : decode cX3_readBoth 7 = .ok (.istore 4, 2) := by decide +kernel
theorem dX3_readBoth_9 : decode cX3_readBoth 9 = .ok (.iload 4, 2) := by decide +kernel
theorem dX3_readBoth_11 : decode cX3_readBoth 11 = .ok (.bipush 60, 2) := by decide +kernel
theorem dX3_readBoth_13 : decode cX3_readBoth 13 = .ok (.if_icmp .ge 44, 3) := by decide +kernel
theorem dX3_readBoth_16 : decode cX3_readBoth 16 = .ok (.aload_n 0, 1) := by decide +kernel
theorem dX3_readBoth_17 : decode cX3_readBoth 17 = .ok (.getfield 29, 3) := by decide +kernel
theorem dX3_readBoth_20 : decode cX3_readBoth 20 = .ok (.iconst (-1), 1) := by decide +kernel
theorem dX3_readBoth_21 : decode cX3_readBoth 21 = .ok (.if_icmp .ne 36, 3) := by decide +kernel
theorem dX3_readBoth_24 : decode cX3_readBoth 24 = .ok (.aload_n 0, 1) := by decide +kernel
theorem dX3_readBoth_25 : decode cX3_readBoth 25 = .ok (.invokevirtual 41, 3) := by decide +kernel
theorem dX3_readBoth_28 : decode cX3_readBoth 28 = .ok (.bipush 38, 2) := by decide +kernel
theorem dX3_readBoth_30 : decode cX3_readBoth 30 = .ok (.if_icmp .ne 27, 3) := by decide +kernel
theorem dX3_readBoth_33 : decode cX3_readBoth 33 = .ok (.aload_n 0, 1) := by decide +kernel
theorem dX3_readBoth_34 : decode cX3_readBoth 34 = .ok (.dup, 1) := by decide +kernel
theorem dX3_readBoth_35 : decode cX3_readBoth 35 = .ok (.getfield 26, 3) := by decide +kernel
theorem dX3_readBoth_38 : decode cX3_readBoth 38 = .ok (.iconst 1, 1) := by decide +kernel
theorem dX3_readBoth_39 : decode cX3_readBoth 39 = .ok (.iadd, 1) := by decide +kernel
theorem dX3_readBoth_40 : decode cX3_readBoth 40 = .ok (.putfield 26, 3) := by decide +kernel
theorem dX3_readBoth_43 : decode cX3_readBoth 43 = .ok (.lload_n 2, 1) := by decide +kernel
theorem dX3_readBoth_44 : decode cX3_readBoth 44 = .ok (.aload_n 0, 1) := by decide +kernel
theorem dX3_readBoth_45 : decode cX3_readBoth 45 = .ok (.iload_n 1, 1) := by decide +kernel
theorem dX3_readBoth_46 : decode cX3_readBoth 46 = .ok (.invokevirtual 45, 3) := by decide +kernel
theorem dX3_readBoth_49 : decode cX3_readBoth 49 = .ok (.land, 1) := by decide +kernel
theorem dX3_readBoth_50 : decode cX3_readBoth 50 = .ok (.lstore_n 2, 1) := by decide +kernel
theorem dX3_readBoth_51 : decode cX3_readBoth 51 = .ok (.iinc 4 1, 3) := by decide +kernel
theorem dX3_readBoth_54 : decode cX3_readBoth 54 = .ok (.goto (-45), 3) := by decide +kernel
theorem dX3_readBoth_57 : decode cX3_readBoth 57 = .ok (.lload_n 2, 1) := by decide +kernel
theorem dX3_readBoth_58 : decode cX3_readBoth 58 = .ok (.lreturn, 1) := by decide +kernel
theorem dX3_readOne_0 : decode cX3_readOne 0 = .ok (.aload_n 0, 1) := by decide +kernel
theorem dX3_readOne_1 : decode cX3_readOne 1 = .ok (.invokevirtual 41, 3) := by decide +kernel
theorem dX3_readOne_4 : decode cX3_readOne 4 = .ok (.istore_n 2, 1) := by decide +kernel
theorem dX3_readOne_5 : decode cX3_readOne 5 = .ok (.iload_n 2, 1) := by decide +kernel
theorem dX3_readOne_6 : decode cX3_readOne 6 = .ok (.bipush 97, 2) := by decide +kernel
theorem dX3_readOne_8 : decode cX3_readOne 8 = .ok (.if_icmp .lt 28, 3) := by decide +kernel
theorem dX3_readOne_11 : decode cX3_readOne 11 = .ok (.iload_n 2, 1) := by decide +kernel
theorem dX3_readOne_12 : decode cX3_readOne 12 = .ok (.bipush 104, 2) := by decide +kernel
theorem dX3_readOne_14 : decode cX3_readOne 14 = .ok (.if_icmp .gt 22, 3) := by decide +kernel
theorem dX3_readOne_17 : decode cX3_readOne 17 = .ok (.aload_n 0, 1) := by decide +kernel
theorem dX3_readOne_18 : decode cX3_readOne 18 = .ok (.dup, 1) := by decide +kernel
theorem dX3_readOne_19 : decode cX3_readOne 19 = .ok (.getfield 26, 3) := by decide +kernel
theorem dX3_readOne_22 : decode cX3_readOne 22 = .ok (.iconst 1, 1) := by decide +kernel
theorem dX3_readOne_23 : decode cX3_readOne 23 = .ok (.iadd, 1) := by decide +kernel
theorem dX3_readOne_24 : decode cX3_readOne 24 = .ok (.putfield 26, 3) := by decide +kernel
theorem dX3_readOne_27 : decode cX3_readOne 27 = .ok (.aload_n 0, 1) := by decide +kernel
theorem dX3_readOne_28 : decode cX3_readOne 28 = .ok (.iload_n 2, 1) := by decide +kernel
theorem dX3_readOne_29 : decode cX3_readOne 29 = .ok (.bipush 97, 2) := by decide +kernel
theorem dX3_readOne_31 : decode cX3_readOne 31 = .ok (.isub, 1) := by decide +kernel
theorem dX3_readOne_32 : decode cX3_readOne 32 = .ok (.invokevirtual 48, 3) := by decide +kernel
theorem dX3_readOne_35 : decode cX3_readOne 35 = .ok (.lreturn, 1) := by decide +kernel
theorem dX3_readOne_36 : decode cX3_readOne 36 = .ok (.iload_n 2, 1) := by decide +kernel
theorem dX3_readOne_37 : decode cX3_readOne 37 = .ok (.bipush 48, 2) := by decide +kernel
theorem dX3_readOne_39 : decode cX3_readOne 39 = .ok (.if_icmp .eq 9, 3) := by decide +kernel
theorem dX3_readOne_42 : decode cX3_readOne 42 = .ok (.iload_n 2, 1) := by decide +kernel
theorem dX3_readOne_43 : decode cX3_readOne 43 = .ok (.bipush 49, 2) := by decide +kernel
theorem dX3_readOne_45 : decode cX3_readOne 45 = .ok (.if_icmp .ne 27, 3) := by decide +kernel
theorem dX3_readOne_48 : decode cX3_readOne 48 = .ok (.aload_n 0, 1) := by decide +kernel
theorem dX3_readOne_49 : decode cX3_readOne 49 = .ok (.dup, 1) := by decide +kernel
theorem dX3_readOne_50 : decode cX3_readOne 50 = .ok (.getfield 26, 3) := by decide +kernel
theorem dX3_readOne_53 : decode cX3_readOne 53 = .ok (.iconst 1, 1) := by decide +kernel
theorem dX3_readOne_54 : decode cX3_readOne 54 = .ok (.iadd, 1) := by decide +kernel
theorem dX3_readOne_55 : decode cX3_readOne 55 = .ok (.putfield 26, 3) := by decide +kernel
theorem dX3_readOne_58 : decode cX3_readOne 58 = .ok (.iload_n 2, 1) := by decide +kernel
theorem dX3_readOne_59 : decode cX3_readOne 59 = .ok (.bipush 49, 2) := by decide +kernel
theorem dX3_readOne_61 : decode cX3_readOne 61 = .ok (.if_icmp .ne 9, 3) := by decide +kernel
theorem dX3_readOne_64 : decode cX3_readOne 64 = .ok (.ldc2_w 32, 3) := by decide +kernel
theorem dX3_readOne_67 : decode cX3_readOne 67 = .ok (.goto 4, 3) := by decide +kernel
theorem dX3_readOne_70 : decode cX3_readOne 70 = .ok (.lconst 0, 1) := by decide +kernel
theorem dX3_readOne_71 : decode cX3_readOne 71 = .ok (.lreturn, 1) := by decide +kernel
theorem dX3_readOne_72 : decode cX3_readOne 72 = .ok (.iload_n 2, 1) := by decide +kernel
theorem dX3_readOne_73 : decode cX3_readOne 73 = .ok (.bipush 33, 2) := by decide +kernel
theorem dX3_readOne_75 : decode cX3_readOne 75 = .ok (.if_icmp .eq 9, 3) := by decide +kernel
theorem dX3_readOne_78 : decode cX3_readOne 78 = .ok (.iload_n 2, 1) := by decide +kernel
theorem dX3_readOne_79 : decode cX3_readOne 79 = .ok (.bipush 40, 2) := by decide +kernel
theorem dX3_readOne_81 : decode cX3_readOne 81 = .ok (.if_icmp .ne 9, 3) := by decide +kernel
theorem dX3_readOne_84 : decode cX3_readOne 84 = .ok (.iload_n 1, 1) := by decide +kernel
theorem dX3_readOne_85 : decode cX3_readOne 85 = .ok (.bipush 12, 2) := by decide +kernel
theorem dX3_readOne_87 : decode cX3_readOne 87 = .ok (.if_icmp .lt 13, 3) := by decide +kernel
theorem dX3_readOne_90 : decode cX3_readOne 90 = .ok (.aload_n 0, 1) := by decide +kernel
theorem dX3_readOne_91 : decode cX3_readOne 91 = .ok (.aload_n 0, 1) := by decide +kernel
theorem dX3_readOne_92 : decode cX3_readOne 92 = .ok (.getfield 26, 3) := by decide +kernel
theorem dX3_readOne_95 : decode cX3_readOne 95 = .ok (.putfield 29, 3) := by decide +kernel
theorem dX3_readOne_98 : decode cX3_readOne 98 = .ok (.lconst 0, 1) := by decide +kernel
theorem dX3_readOne_99 : decode cX3_readOne 99 = .ok (.lreturn, 1) := by decide +kernel
theorem dX3_readOne_100 : decode cX3_readOne 100 = .ok (.aload_n 0, 1) := by decide +kernel
theorem dX3_readOne_101 : decode cX3_readOne 101 = .ok (.dup, 1) := by decide +kernel
theorem dX3_readOne_102 : decode cX3_readOne 102 = .ok (.getfield 26, 3) := by decide +kernel
theorem dX3_readOne_105 : decode cX3_readOne 105 = .ok (.iconst 1, 1) := by decide +kernel
theorem dX3_readOne_106 : decode cX3_readOne 106 = .ok (.iadd, 1) := by decide +kernel
theorem dX3_readOne_107 : decode cX3_readOne 107 = .ok (.putfield 26, 3) := by decide +kernel
theorem dX3_readOne_110 : decode cX3_readOne 110 = .ok (.iload_n 2, 1) := by decide +kernel
theorem dX3_readOne_111 : decode cX3_readOne 111 = .ok (.bipush 33, 2) := by decide +kernel
theorem dX3_readOne_113 : decode cX3_readOne 113 = .ok (.if_icmp .ne 17, 3) := by decide +kernel
theorem dX3_readOne_116 : decode cX3_readOne 116 = .ok (.aload_n 0, 1) := by decide +kernel
theorem dX3_readOne_117 : decode cX3_readOne 117 = .ok (.iload_n 1, 1) := by decide +kernel
theorem dX3_readOne_118 : decode cX3_readOne 118 = .ok (.iconst 1, 1) := by decide +kernel
theorem dX3_readOne_119 : decode cX3_readOne 119 = .ok (.iadd, 1) := by decide +kernel
theorem dX3_readOne_120 : decode cX3_readOne 120 = .ok (.invokevirtual 45, 3) := by decide +kernel
theorem dX3_readOne_123 : decode cX3_readOne 123 = .ok (.ldc2_w 32, 3) := by decide +kernel
theorem dX3_readOne_126 : decode cX3_readOne 126 = .ok (.lxor, 1) := by decide +kernel
theorem dX3_readOne_127 : decode cX3_readOne 127 = .ok (.goto 10, 3) := by decide +kernel
theorem dX3_readOne_130 : decode cX3_readOne 130 = .ok (.aload_n 0, 1) := by decide +kernel
theorem dX3_readOne_131 : decode cX3_readOne 131 = .ok (.iload_n 1, 1) := by decide +kernel
theorem dX3_readOne_132 : decode cX3_readOne 132 = .ok (.iconst 1, 1) := by decide +kernel
theorem dX3_readOne_133 : decode cX3_readOne 133 = .ok (.iadd, 1) := by decide +kernel
theorem dX3_readOne_134 : decode cX3_readOne 134 = .ok (.invokevirtual 51, 3) := by decide +kernel
theorem dX3_readOne_137 : decode cX3_readOne 137 = .ok (.lreturn, 1) := by decide +kernel
theorem dX3_readClosed_0 : decode cX3_readClosed 0 = .ok (.aload_n 0, 1) := by decide +kernel
theorem dX3_readClosed_1 : decode cX3_readClosed 1 = .ok (.iload_n 1, 1) := by decide +kernel
theorem dX3_readClosed_2 : decode cX3_readClosed 2 = .ok (.invokevirtual 34, 3) := by decide +kernel
theorem dX3_readClosed_5 : decode cX3_readClosed 5 = .ok (.lstore_n 2, 1) := by decide +kernel
theorem dX3_readClosed_6 : decode cX3_readClosed 6 = .ok (.aload_n 0, 1) := by decide +kernel
theorem dX3_readClosed_7 : decode cX3_readClosed 7 = .ok (.getfield 29, 3) := by decide +kernel
theorem dX3_readClosed_10 : decode cX3_readClosed 10 = .ok (.iconst (-1), 1) := by decide +kernel
theorem dX3_readClosed_11 : decode cX3_readClosed 11 = .ok (.if_icmp .ne 20, 3) := by decide +kernel
theorem dX3_readClosed_14 : decode cX3_readClosed 14 = .ok (.aload_n 0, 1) := by decide +kernel
theorem dX3_readClosed_15 : decode cX3_readClosed 15 = .ok (.invokevirtual 41, 3) := by decide +kernel
theorem dX3_readClosed_18 : decode cX3_readClosed 18 = .ok (.bipush 41, 2) := by decide +kernel
theorem dX3_readClosed_20 : decode cX3_readClosed 20 = .ok (.if_icmp .eq 11, 3) := by decide +kernel
theorem dX3_readClosed_23 : decode cX3_readClosed 23 = .ok (.aload_n 0, 1) := by decide +kernel
theorem dX3_readClosed_24 : decode cX3_readClosed 24 = .ok (.aload_n 0, 1) := by decide +kernel
theorem dX3_readClosed_25 : decode cX3_readClosed 25 = .ok (.getfield 26, 3) := by decide +kernel
theorem dX3_readClosed_28 : decode cX3_readClosed 28 = .ok (.putfield 29, 3) := by decide +kernel
theorem dX3_readClosed_31 : decode cX3_readClosed 31 = .ok (.aload_n 0, 1) := by decide +kernel
theorem dX3_readClosed_32 : decode cX3_readClosed 32 = .ok (.getfield 29, 3) := by decide +kernel
theorem dX3_readClosed_35 : decode cX3_readClosed 35 = .ok (.iconst (-1), 1) := by decide +kernel
theorem dX3_readClosed_36 : decode cX3_readClosed 36 = .ok (.if_icmp .ne 13, 3) := by decide +kernel
theorem dX3_readClosed_39 : decode cX3_readClosed 39 = .ok (.aload_n 0, 1) := by decide +kernel
theorem dX3_readClosed_40 : decode cX3_readClosed 40 = .ok (.dup, 1) := by decide +kernel
theorem dX3_readClosed_41 : decode cX3_readClosed 41 = .ok (.getfield 26, 3) := by decide +kernel
theorem dX3_readClosed_44 : decode cX3_readClosed 44 = .ok (.iconst 1, 1) := by decide +kernel
theorem dX3_readClosed_45 : decode cX3_readClosed 45 = .ok (.iadd, 1) := by decide +kernel
theorem dX3_readClosed_46 : decode cX3_readClosed 46 = .ok (.putfield 26, 3) := by decide +kernel
theorem dX3_readClosed_49 : decode cX3_readClosed 49 = .ok (.lload_n 2, 1) := by decide +kernel
theorem dX3_readClosed_50 : decode cX3_readClosed 50 = .ok (.lreturn, 1) := by decide +kernel
theorem dX3_sign_0 : decode cX3_sign 0 = .ok (.aload_n 0, 1) := by decide +kernel
theorem dX3_sign_1 : decode cX3_sign 1 = .ok (.getfield 26, 3) := by decide +kernel
theorem dX3_sign_4 : decode cX3_sign 4 = .ok (.aload_n 0, 1) := by decide +kernel
theorem dX3_sign_5 : decode cX3_sign 5 = .ok (.getfield 19, 3) := by decide +kernel
theorem dX3_sign_8 : decode cX3_sign 8 = .ok (.if_icmp .ge 15, 3) := by decide +kernel
theorem dX3_sign_11 : decode cX3_sign 11 = .ok (.aload_n 0, 1) := by decide +kernel
theorem dX3_sign_12 : decode cX3_sign 12 = .ok (.getfield 11, 3) := by decide +kernel
theorem dX3_sign_15 : decode cX3_sign 15 = .ok (.aload_n 0, 1) := by decide +kernel
theorem dX3_sign_16 : decode cX3_sign 16 = .ok (.getfield 26, 3) := by decide +kernel
theorem dX3_sign_19 : decode cX3_sign 19 = .ok (.baload, 1) := by decide +kernel
theorem dX3_sign_20 : decode cX3_sign 20 = .ok (.goto 4, 3) := by decide +kernel
theorem dX3_sign_23 : decode cX3_sign 23 = .ok (.iconst (-1), 1) := by decide +kernel
theorem dX3_sign_24 : decode cX3_sign 24 = .ok (.ireturn, 1) := by decide +kernel
theorem dX3_factBits_0 : decode cX3_factBits 0 = .ok (.iload_n 1, 1) := by decide +kernel
theorem dX3_factBits_1 : decode cX3_factBits 1 = .ok (.ifCond .lt 17, 3) := by decide +kernel
theorem dX3_factBits_4 : decode cX3_factBits 4 = .ok (.iload_n 1, 1) := by decide +kernel
theorem dX3_factBits_5 : decode cX3_factBits 5 = .ok (.getstatic 54, 3) := by decide +kernel
theorem dX3_factBits_8 : decode cX3_factBits 8 = .ok (.arraylength, 1) := by decide +kernel
theorem dX3_factBits_9 : decode cX3_factBits 9 = .ok (.if_icmp .ge 9, 3) := by decide +kernel
theorem dX3_factBits_12 : decode cX3_factBits 12 = .ok (.getstatic 54, 3) := by decide +kernel
theorem dX3_factBits_15 : decode cX3_factBits 15 = .ok (.iload_n 1, 1) := by decide +kernel
theorem dX3_factBits_16 : decode cX3_factBits 16 = .ok (.laload, 1) := by decide +kernel
theorem dX3_factBits_17 : decode cX3_factBits 17 = .ok (.lreturn, 1) := by decide +kernel
theorem dX3_factBits_18 : decode cX3_factBits 18 = .ok (.aload_n 0, 1) := by decide +kernel
theorem dX3_factBits_19 : decode cX3_factBits 19 = .ok (.getfield 23, 3) := by decide +kernel
theorem dX3_factBits_22 : decode cX3_factBits 22 = .ok (.iload_n 1, 1) := by decide +kernel
theorem dX3_factBits_23 : decode cX3_factBits 23 = .ok (.getstatic 54, 3) := by decide +kernel
theorem dX3_factBits_26 : decode cX3_factBits 26 = .ok (.arraylength, 1) := by decide +kernel
theorem dX3_factBits_27 : decode cX3_factBits 27 = .ok (.isub, 1) := by decide +kernel
theorem dX3_factBits_28 : decode cX3_factBits 28 = .ok (.ishr, 1) := by decide +kernel
theorem dX3_factBits_29 : decode cX3_factBits 29 = .ok (.iconst 1, 1) := by decide +kernel
theorem dX3_factBits_30 : decode cX3_factBits 30 = .ok (.iand, 1) := by decide +kernel
theorem dX3_factBits_31 : decode cX3_factBits 31 = .ok (.ifCond .eq 9, 3) := by decide +kernel
theorem dX3_factBits_34 : decode cX3_factBits 34 = .ok (.ldc2_w 32, 3) := by decide +kernel
theorem dX3_factBits_37 : decode cX3_factBits 37 = .ok (.goto 4, 3) := by decide +kernel
theorem dX3_factBits_40 : decode cX3_factBits 40 = .ok (.lconst 0, 1) := by decide +kernel
theorem dX3_factBits_41 : decode cX3_factBits 41 = .ok (.lreturn, 1) := by decide +kernel
theorem dX4_init_0 : decode cX4_init 0 = .ok (.aload_n 0, 1) := by decide +kernel
theorem dX4_init_1 : decode cX4_init 1 = .ok (.invokespecial 3, 3) := by decide +kernel
theorem dX4_init_4 : decode cX4_init 4 = .ok (.aload_n 0, 1) := by decide +kernel
theorem dX4_init_5 : decode cX4_init 5 = .ok (.sipush 5120, 3) := by decide +kernel
theorem dX4_init_8 : decode cX4_init 8 = .ok (.newarray .int, 2) := by decide +kernel
theorem dX4_init_10 : decode cX4_init 10 = .ok (.putfield 9, 3) := by decide +kernel
theorem dX4_init_13 : decode cX4_init 13 = .ok (.aload_n 0, 1) := by decide +kernel
theorem dX4_init_14 : decode cX4_init 14 = .ok (.sipush 5120, 3) := by decide +kernel
theorem dX4_init_17 : decode cX4_init 17 = .ok (.newarray .int, 2) := by decide +kernel
theorem dX4_init_19 : decode cX4_init 19 = .ok (.putfield 15, 3) := by decide +kernel
theorem dX4_init_22 : decode cX4_init 22 = .ok (.aload_n 0, 1) := by decide +kernel
theorem dX4_init_23 : decode cX4_init 23 = .ok (.sipush 5120, 3) := by decide +kernel
theorem dX4_init_26 : decode cX4_init 26 = .ok (.newarray .int, 2) := by decide +kernel
theorem dX4_init_28 : decode cX4_init 28 = .ok (.putfield 18, 3) := by decide +kernel
theorem dX4_init_31 : decode cX4_init 31 = .ok (.aload_n 0, 1) := by decide +kernel
theorem dX4_init_32 : decode cX4_init 32 = .ok (.sipush 30720, 3) := by decide +kernel
theorem dX4_init_35 : decode cX4_init 35 = .ok (.newarray .int, 2) := by decide +kernel
theorem dX4_init_37 : decode cX4_init 37 = .ok (.putfield 21, 3) := by decide +kernel
theorem dX4_init_40 : decode cX4_init 40 = .ok (.aload_n 0, 1) := by decide +kernel
theorem dX4_init_41 : decode cX4_init 41 = .ok (.sipush 5120, 3) := by decide +kernel
theorem dX4_init_44 : decode cX4_init 44 = .ok (.newarray .int, 2) := by decide +kernel
theorem dX4_init_46 : decode cX4_init 46 = .ok (.putfield 24, 3) := by decide +kernel
theorem dX4_init_49 : decode cX4_init 49 = .ok (.aload_n 0, 1) := by decide +kernel
theorem dX4_init_50 : decode cX4_init 50 = .ok (.sipush 30720, 3) := by decide +kernel
theorem dX4_init_53 : decode cX4_init 53 = .ok (.newarray .int, 2) := by decide +kernel
theorem dX4_init_55 : decode cX4_init 55 = .ok (.putfield 27, 3) := by decide +kernel
theorem dX4_init_58 : decode cX4_init 58 = .ok (.aload_n 0, 1) := by decide +kernel
theorem dX4_init_59 : decode cX4_init 59 = .ok (.sipush 5120, 3) := by decide +kernel
theorem dX4_init_62 : decode cX4_init 62 = .ok (.newarray .int, 2) := by decide +kernel
theorem dX4_init_64 : decode cX4_init 64 = .ok (.putfield 30, 3) := by decide +kernel
theorem dX4_init_67 : decode cX4_init 67 = .ok (.aload_n 0, 1) := by decide +kernel
theorem dX4_init_68 : decode cX4_init 68 = .ok (.sipush 5120, 3) := by decide +kernel
theorem dX4_init_71 : decode cX4_init 71 = .ok (.newarray .int, 2) := by decide +kernel
theorem dX4_init_73 : decode cX4_init 73 = .ok (.putfield 33, 3) := by decide +kernel
theorem dX4_init_76 : decode cX4_init 76 = .ok (.aload_n 0, 1) := by decide +kernel
theorem dX4_init_77 : decode cX4_init 77 = .ok (.sipush 5120, 3) := by decide +kernel
theorem dX4_init_80 : decode cX4_init 80 = .ok (.newarray .boolean, 2) := by decide +kernel
theorem dX4_init_82 : decode cX4_init 82 = .ok (.putfield 36, 3) := by decide +kernel
theorem dX4_init_85 : decode cX4_init 85 = .ok (.aload_n 0, 1) := by decide +kernel
theorem dX4_init_86 : decode cX4_init 86 = .ok (.sipush 5120, 3) := by decide +kernel
theorem dX4_init_89 : decode cX4_init 89 = .ok (.newarray .long, 2) := by decide +kernel
theorem dX4_init_91 : decode cX4_init 91 = .ok (.putfield 40, 3) := by decide +kernel
theorem dX4_init_94 : decode cX4_init 94 = .ok (.aload_n 0, 1) := by decide +kernel
theorem dX4_init_95 : decode cX4_init 95 = .ok (.sipush 5120, 3) := by decide +kernel
theorem dX4_init_98 : decode cX4_init 98 = .ok (.newarray .long, 2) := by decide +kernel
theorem dX4_init_100 : decode cX4_init 100 = .ok (.putfield 44, 3) := by decide +kernel
theorem dX4_init_103 : decode cX4_init 103 = .ok (.iconst 0, 1) := by decide +kernel
theorem dX4_init_104 : decode cX4_init 104 = .ok (.istore_n 1, 1) := by decide +kernel
theorem dX4_init_105 : decode cX4_init 105 = .ok (.iload_n 1, 1) := by decide +kernel
theorem dX4_init_106 : decode cX4_init 106 = .ok (.sipush 5120, 3) := by decide +kernel
theorem dX4_init_109 : decode cX4_init 109 = .ok (.if_icmp .ge 17, 3) := by decide +kernel
theorem dX4_init_112 : decode cX4_init 112 = .ok (.aload_n 0, 1) := by decide +kernel
theorem dX4_init_113 : decode cX4_init 113 = .ok (.getfield 15, 3) := by decide +kernel
theorem dX4_init_116 : decode cX4_init 116 = .ok (.iload_n 1, 1) := by decide +kernel
theorem dX4_init_117 : decode cX4_init 117 = .ok (.bipush (-2), 2) := by decide +kernel
theorem dX4_init_119 : decode cX4_init 119 = .ok (.iastore, 1) := by decide +kernel
theorem dX4_init_120 : decode cX4_init 120 = .ok (.iinc 1 1, 3) := by decide +kernel
theorem dX4_init_123 : decode cX4_init 123 = .ok (.goto (-18), 3) := by decide +kernel
theorem dX4_init_126 : decode cX4_init 126 = .ok (.return_, 1) := by decide +kernel
theorem dX4_clear_0 : decode cX4_clear 0 = .ok (.iconst 0, 1) := by decide +kernel
theorem dX4_clear_1 : decode cX4_clear 1 = .ok (.istore_n 1, 1) := by decide +kernel
theorem dX4_clear_2 : decode cX4_clear 2 = .ok (.iload_n 1, 1) := by decide +kernel
theorem dX4_clear_3 : decode cX4_clear 3 = .ok (.aload_n 0, 1) := by decide +kernel
theorem dX4_clear_4 : decode cX4_clear 4 = .ok (.getfield 47, 3) := by decide +kernel
theorem dX4_clear_7 : decode cX4_clear 7 = .ok (.if_icmp .ge 22, 3) := by decide +kernel
theorem dX4_clear_10 : decode cX4_clear 10 = .ok (.aload_n 0, 1) := by decide +kernel
theorem dX4_clear_11 : decode cX4_clear 11 = .ok (.getfield 15, 3) := by decide +kernel
theorem dX4_clear_14 : decode cX4_clear 14 = .ok (.aload_n 0, 1) := by decide +kernel
theorem dX4_clear_15 : decode cX4_clear 15 = .ok (.getfield 9, 3) := by decide +kernel
theorem dX4_clear_18 : decode cX4_clear 18 = .ok (.iload_n 1, 1) := by decide +kernel
theorem dX4_clear_19 : decode cX4_clear 19 = .ok (.iaload, 1) := by decide +kernel
theorem dX4_clear_20 : decode cX4_clear 20 = .ok (.bipush (-2), 2) := by decide +kernel
theorem dX4_clear_22 : decode cX4_clear 22 = .ok (.iastore, 1) := by decide +kernel
theorem dX4_clear_23 : decode cX4_clear 23 = .ok (.iinc 1 1, 3) := by decide +kernel
theorem dX4_clear_26 : decode cX4_clear 26 = .ok (.goto (-24), 3) := by decide +kernel
theorem dX4_clear_29 : decode cX4_clear 29 = .ok (.aload_n 0, 1) := by decide +kernel
theorem dX4_clear_30 : decode cX4_clear 30 = .ok (.iconst 0, 1) := by decide +kernel
theorem dX4_clear_31 : decode cX4_clear 31 = .ok (.putfield 47, 3) := by decide +kernel
theorem dX4_clear_34 : decode cX4_clear 34 = .ok (.return_, 1) := by decide +kernel
theorem dX4_come_0 : decode cX4_come 0 = .ok (.aload_n 0, 1) := by decide +kernel
theorem dX4_come_1 : decode cX4_come 1 = .ok (.getfield 15, 3) := by decide +kernel
theorem dX4_come_4 : decode cX4_come 4 = .ok (.iload_n 1, 1) := by decide +kernel
theorem dX4_come_5 : decode cX4_come 5 = .ok (.iaload, 1) := by decide +kernel
theorem dX4_come_6 : decode cX4_come 6 = .ok (.bipush (-2), 2) := by decide +kernel
theorem dX4_come_8 : decode cX4_come 8 = .ok (.if_icmp .ne 13, 3) := by decide +kernel
theorem dX4_come_11 : decode cX4_come 11 = .ok (.aload_n 0, 1) := by decide +kernel
theorem dX4_come_12 : decode cX4_come 12 = .ok (.getfield 47, 3) := by decide +kernel
theorem dX4_come_15 : decode cX4_come 15 = .ok (.sipush 5120, 3) := by decide +kernel
theorem dX4_come_18 : decode cX4_come 18 = .ok (.if_icmp .lt 4, 3) := by decide +kernel
theorem dX4_come_21 : decode cX4_come 21 = .ok (.return_, 1) := by decide +kernel
theorem dX4_come_22 : decode cX4_come 22 = .ok (.aload_n 0, 1) := by decide +kernel
theorem dX4_come_23 : decode cX4_come 23 = .ok (.getfield 15, 3) := by decide +kernel
theorem dX4_come_26 : decode cX4_come 26 = .ok (.iload_n 1, 1) := by decide +kernel
theorem dX4_come_27 : decode cX4_come 27 = .ok (.iload_n 2, 1) := by decide +kernel
theorem dX4_come_28 : decode cX4_come 28 = .ok (.iastore, 1) := by decide +kernel
theorem dX4_come_29 : decode cX4_come 29 = .ok (.aload_n 0, 1) := by decide +kernel
theorem dX4_come_30 : decode cX4_come 30 = .ok (.getfield 18, 3) := by decide +kernel
theorem dX4_come_33 : decode cX4_come 33 = .ok (.iload_n 1, 1) := by decide +kernel
theorem dX4_come_34 : decode cX4_come 34 = .ok (.iload_n 2, 1) := by decide +kernel
theorem dX4_come_35 : decode cX4_come 35 = .ok (.iconst (-1), 1) := by decide +kernel
theorem dX4_come_36 : decode cX4_come 36 = .ok (.if_icmp .ne 7, 3) := by decide +kernel
theorem dX4_come_39 : decode cX4_come 39 = .ok (.iconst 0, 1) := by decide +kernel
theorem dX4_come_40 : decode cX4_come 40 = .ok (.goto 14, 3) := by decide +kernel
theorem dX4_come_43 : decode cX4_come 43 = .ok (.aload_n 0, 1) := by decide +kernel
theorem dX4_come_44 : decode cX4_come 44 = .ok (.getfield 18, 3) := by decide +kernel
theorem dX4_come_47 : decode cX4_come 47 = .ok (.iload_n 2, 1) := by decide +kernel
theorem dX4_come_48 : decode cX4_come 48 = .ok (.bipush 6, 2) := by decide +kernel
theorem dX4_come_50 : decode cX4_come 50 = .ok (.idiv, 1) := by decide +kernel
theorem dX4_come_51 : decode cX4_come 51 = .ok (.iaload, 1) := by decide +kernel
theorem dX4_come_52 : decode cX4_come 52 = .ok (.iconst 1, 1) := by decide +kernel
theorem dX4_come_53 : decode cX4_come 53 = .ok (.iadd, 1) := by decide +kernel
theorem dX4_come_54 : decode cX4_come 54 = .ok (.iastore, 1) := by decide +kernel
theorem dX4_come_55 : decode cX4_come 55 = .ok (.aload_n 0, 1) := by decide +kernel
theorem dX4_come_56 : decode cX4_come 56 = .ok (.getfield 24, 3) := by decide +kernel
theorem dX4_come_59 : decode cX4_come 59 = .ok (.iload_n 1, 1) := by decide +kernel
theorem dX4_come_60 : decode cX4_come 60 = .ok (.iconst (-1), 1) := by decide +kernel
theorem dX4_come_61 : decode cX4_come 61 = .ok (.iastore, 1) := by decide +kernel
theorem dX4_come_62 : decode cX4_come 62 = .ok (.aload_n 0, 1) := by decide +kernel
theorem dX4_come_63 : decode cX4_come 63 = .ok (.getfield 9, 3) := by decide +kernel
theorem dX4_come_66 : decode cX4_come 66 = .ok (.aload_n 0, 1) := by decide +kernel
theorem dX4_come_67 : decode cX4_come 67 = .ok (.getfield 47, 3) := by decide +kernel
theorem dX4_come_70 : decode cX4_come 70 = .ok (.iload_n 1, 1) := by decide +kernel
theorem dX4_come_71 : decode cX4_come 71 = .ok (.iastore, 1) := by decide +kernel
theorem dX4_come_72 : decode cX4_come 72 = .ok (.aload_n 0, 1) := by decide +kernel
theorem dX4_come_73 : decode cX4_come 73 = .ok (.dup, 1) := by decide +kernel
theorem dX4_come_74 : decode cX4_come 74 = .ok (.getfield 47, 3) := by decide +kernel
theorem dX4_come_77 : decode cX4_come 77 = .ok (.iconst 1, 1) := by decide +kernel
theorem dX4_come_78 : decode cX4_come 78 = .ok (.iadd, 1) := by decide +kernel
theorem dX4_come_79 : decode cX4_come 79 = .ok (.putfield 47, 3) := by decide +kernel
theorem dX4_come_82 : decode cX4_come 82 = .ok (.return_, 1) := by decide +kernel
theorem dX4_weave_0 : decode cX4_weave 0 = .ok (.iconst 0, 1) := by decide +kernel
theorem dX4_weave_1 : decode cX4_weave 1 = .ok (.istore_n 3, 1) := by decide +kernel
theorem dX4_weave_2 : decode cX4_weave 2 = .ok (.iload_n 3, 1) := by decide +kernel
theorem dX4_weave_3 : decode cX4_weave 3 = .ok (.aload_n 0, 1) := by decide +kernel
theorem dX4_weave_4 : decode cX4_weave 4 = .ok (.getfield 47, 3) := by decide +kernel
theorem dX4_weave_7 : decode cX4_weave 7 = .ok (.if_icmp .ge 107, 3) := by decide +kernel
theorem dX4_weave_10 : decode cX4_weave 10 = .ok (.iload_n 3, 1) := by decide +kernel
theorem dX4_weave_11 : decode cX4_weave 11 = .ok (.sipush 5120, 3) := by decide +kernel
theorem dX4_weave_14 : decode cX4_weave 14 = .ok (.if_icmp .ge 100, 3) := by decide +kernel
theorem dX4_weave_17 : decode cX4_weave 17 = .ok (.iconst 0, 1) := by decide +kernel
theorem dX4_weave_18 : decode cX4_weave 18 = .ok (.istore 4, 2) := by decide +kernel
theorem dX4_weave_20 : decode cX4_weave 20 = .ok (.iload 4, 2) := by decide +kernel
theorem dX4_weave_22 : decode cX4_weave 22 = .ok (.bipush 6, 2) := by decide +kernel
theorem dX4_weave_24 : decode cX4_weave 24 = .ok (.if_icmp .ge 84, 3) := by decide +kernel
theorem dX4_weave_27 : decode cX4_weave 27 = .ok (.aload_n 0, 1) := by decide +kernel
theorem dX4_weave_28 : decode cX4_weave 28 = .ok (.getfield 9, 3) := by decide +kernel
theorem dX4_weave_31 : decode cX4_weave 31 = .ok (.iload_n 3, 1) := by decide +kernel
theorem dX4_weave_32 : decode cX4_weave 32 = .ok (.iaload, 1) := by decide +kernel
theorem dX4_weave_33 : decode cX4_weave 33 = .ok (.bipush 6, 2) := by decide +kernel
theorem dX4_weave_35 : decode cX4_weave 35 = .ok (.imul, 1) := by decide +kernel
theorem dX4_weave_36 : decode cX4_weave 36 = .ok (.iload 4, 2) := by decide +kernel
theorem dX4_weave_38 : decode cX4_weave 38 = .ok (.iadd, 1) := by decide +kernel
theorem dX4_weave_39 : decode cX4_weave 39 = .ok (.istore 5, 2) := by decide +kernel
theorem dX4_weave_41 : decode cX4_weave 41 = .ok (.aload_n 1, 1) := by decide +kernel
theorem dX4_weave_42 : decode cX4_weave 42 = .ok (.aload_n 0, 1) := by decide +kernel
theorem dX4_weave_43 : decode cX4_weave 43 = .ok (.getfield 9, 3) := by decide +kernel
theorem dX4_weave_46 : decode cX4_weave 46 = .ok (.iload_n 3, 1) := by decide +kernel
theorem dX4_weave_47 : decode cX4_weave 47 = .ok (.iaload, 1) := by decide +kernel
theorem dX4_weave_48 : decode cX4_weave 48 = .ok (.iload 4, 2) := by decide +kernel
theorem dX4_weave_50 : decode cX4_weave 50 = .ok (.iload_n 2, 1) := by decide +kernel
theorem dX4_weave_51 : decode cX4_weave 51 = .ok (.invokevirtual 51, 3) := by decide +kernel
theorem dX4_weave_54 : decode cX4_weave 54 = .ok (.istore 6, 2) := by decide +kernel
theorem dX4_weave_56 : decode cX4_weave 56 = .ok (.aload_n 0, 1) := by decide +kernel
theorem dX4_weave_57 : decode cX4_weave 57 = .ok (.getfield 21, 3) := by decide +kernel
theorem dX4_weave_60 : decode cX4_weave 60 = .ok (.iload 5, 2) := by decide +kernel
theorem dX4_weave_62 : decode cX4_weave 62 = .ok (.iload 6, 2) := by decide +kernel
theorem dX4_weave_64 : decode cX4_weave 64 = .ok (.iastore, 1) := by decide +kernel
theorem dX4_weave_65 : decode cX4_weave 65 = .ok (.iload 6, 2) := by decide +kernel
theorem dX4_weave_67 : decode cX4_weave 67 = .ok (.iconst (-1), 1) := by decide +kernel
theorem dX4_weave_68 : decode cX4_weave 68 = .ok (.if_icmp .eq 34, 3) := by decide +kernel
theorem dX4_weave_71 : decode cX4_weave 71 = .ok (.aload_n 0, 1) := by decide +kernel
theorem dX4_weave_72 : decode cX4_weave 72 = .ok (.iload 6, 2) := by decide +kernel
theorem dX4_weave_74 : decode cX4_weave 74 = .ok (.iload 5, 2) := by decide +kernel
theorem dX4_weave_76 : decode cX4_weave 76 = .ok (.invokevirtual 57, 3) := by decide +kernel
theorem dX4_weave_79 : decode cX4_weave 79 = .ok (.aload_n 0, 1) := by decide +kernel
theorem dX4_weave_80 : decode cX4_weave 80 = .ok (.getfield 27, 3) := by decide +kernel
theorem dX4_weave_83 : decode cX4_weave 83 = .ok (.iload 5, 2) := by decide +kernel
theorem dX4_weave_85 : decode cX4_weave 85 = .ok (.aload_n 0, 1) := by decide +kernel
theorem dX4_weave_86 : decode cX4_weave 86 = .ok (.getfield 24, 3) := by decide +kernel
theorem dX4_weave_89 : decode cX4_weave 89 = .ok (.iload 6, 2) := by decide +kernel
theorem dX4_weave_91 : decode cX4_weave 91 = .ok (.iaload, 1) := by decide +kernel
theorem dX4_weave_92 : decode cX4_weave 92 = .ok (.iastore, 1) := by decide +kernel
theorem dX4_weave_93 : decode cX4_weave 93 = .ok (.aload_n 0, 1) := by decide +kernel
theorem dX4_weave_94 : decode cX4_weave 94 = .ok (.getfield 24, 3) := by decide +kernel
theorem dX4_weave_97 : decode cX4_weave 97 = .ok (.iload 6, 2) := by decide +kernel
theorem dX4_weave_99 : decode cX4_weave 99 = .ok (.iload 5, 2) := by decide +kernel
theorem dX4_weave_101 : decode cX4_weave 101 = .ok (.iastore, 1) := by decide +kernel
theorem dX4_weave_102 : decode cX4_weave 102 = .ok (.iinc 4 1, 3) := by decide +kernel
theorem dX4_weave_105 : decode cX4_weave 105 = .ok (.goto (-85), 3) := by decide +kernel
theorem dX4_weave_108 : decode cX4_weave 108 = .ok (.iinc 3 1, 3) := by decide +kernel
theorem dX4_weave_111 : decode cX4_weave 111 = .ok (.goto (-109), 3) := by decide +kernel
theorem dX4_weave_114 : decode cX4_weave 114 = .ok (.return_, 1) := by decide +kernel
theorem dX4_spreadMark_0 : decode cX4_spreadMark 0 = .ok (.iconst 0, 1) := by decide +kernel
theorem dX4_spreadMark_1 : decode cX4_spreadMark 1 = .ok (.istore_n 2, 1) := by decide +kernel
theorem dX4_spreadMark_2 : decode cX4_spreadMark 2 = .ok (.iconst 0, 1) := by decide +kernel
theorem dX4_spreadMark_3 : decode cX4_spreadMark 3 = .ok (.istore_n 3, 1) := by decide +kernel
theorem dX4_spreadMark_4 : decode cX4_spreadMark 4 = .ok (.iload_n 3, 1) := by decide +kernel
theorem dX4_spreadMark_5 : decode cX4_spreadMark 5 = .ok (.aload_n 0, 1) := by decide +kernel
theorem dX4_spreadMark_6 : decode cX4_spreadMark 6 = .ok (.getfield 47, 3) := by decide +kernel
theorem dX4_spreadMark_9 : decode cX4_spreadMark 9 = .ok (.if_icmp .ge 40, 3) := by decide +kernel
theorem dX4_spreadMark_12 : decode cX4_spreadMark 12 = .ok (.aload_n 0, 1) := by decide +kernel
theorem dX4_spreadMark_13 : decode cX4_spreadMark 13 = .ok (.getfield 30, 3) := by decide +kernel
theorem dX4_spreadMark_16 : decode cX4_spreadMark 16 = .ok (.aload_n 0, 1) := by decide +kernel
theorem dX4_spreadMark_17 : decode cX4_spreadMark 17 = .ok (.getfield 9, 3) := by decide +kernel
theorem dX4_spreadMark_20 : decode cX4_spreadMark 20 = .ok (.iload_n 3, 1) := by decide +kernel
theorem dX4_spreadMark_21 : decode cX4_spreadMark 21 = .ok (.iaload, 1) := by decide +kernel
theorem dX4_spreadMark_22 : decode cX4_spreadMark 22 = .ok (.iaload, 1) := by decide +kernel
theorem dX4_spreadMark_23 : decode cX4_spreadMark 23 = .ok (.iload_n 1, 1) := by decide +kernel
theorem dX4_spreadMark_24 : decode cX4_spreadMark 24 = .ok (.iand, 1) := by decide +kernel
theorem dX4_spreadMark_25 : decode cX4_spreadMark 25 = .ok (.ifCond .eq 18, 3) := by decide +kernel
theorem dX4_spreadMark_28 : decode cX4_spreadMark 28 = .ok (.aload_n 0, 1) := by decide +kernel
theorem dX4_spreadMark_29 : decode cX4_spreadMark 29 = .ok (.getfield 33, 3) := by decide +kernel
theorem dX4_spreadMark_32 : decode cX4_spreadMark 32 = .ok (.iload_n 2, 1) := by decide +kernel
theorem dX4_spreadMark_33 : decode cX4_spreadMark 33 = .ok (.aload_n 0, 1) := by decide +kernel
theorem dX4_spreadMark_34 : decode cX4_spreadMark 34 = .ok (.getfield 9, 3) := by decide +kernel
theorem dX4_spreadMark_37 : decode cX4_spreadMark 37 = .ok (.iload_n 3, 1) := by decide +kernel
theorem dX4_spreadMark_38 : decode cX4_spreadMark 38 = .ok (.iaload, 1) := by decide +kernel
theorem dX4_spreadMark_39 : decode cX4_spreadMark 39 = .ok (.iastore, 1) := by decide +kernel
theorem dX4_spreadMark_40 : decode cX4_spreadMark 40 = .ok (.iinc 2 1, 3) := by decide +kernel
theorem dX4_spreadMark_43 : decode cX4_spreadMark 43 = .ok (.iinc 3 1, 3) := by decide +kernel
theorem dX4_spreadMark_46 : decode cX4_spreadMark 46 = .ok (.goto (-42), 3) := by decide +kernel
theorem dX4_spreadMark_49 : decode cX4_spreadMark 49 = .ok (.iconst 0, 1) := by decide +kernel
theorem dX4_spreadMark_50 : decode cX4_spreadMark 50 = .ok (.istore_n 3, 1) := by decide +kernel
theorem dX4_spreadMark_51 : decode cX4_spreadMark 51 = .ok (.iload_n 3, 1) := by decide +kernel
theorem dX4_spreadMark_52 : decode cX4_spreadMark 52 = .ok (.iload_n 2, 1) := by decide +kernel
theorem dX4_spreadMark_53 : decode cX4_spreadMark 53 = .ok (.if_icmp .ge 29, 3) := by decide +kernel
theorem dX4_spreadMark_56 : decode cX4_spreadMark 56 = .ok (.iload_n 3, 1) := by decide +kernel
theorem dX4_spreadMark_57 : decode cX4_spreadMark 57 = .ok (.sipush 5120, 3) := by decide +kernel
theorem dX4_spreadMark_60 : decode cX4_spreadMark 60 = .ok (.if_icmp .ge 22, 3) := by decide +kernel
theorem dX4_spreadMark_63 : decode cX4_spreadMark 63 = .ok (.aload_n 0, 1) := by decide +kernel
theorem dX4_spreadMark_64 : decode cX4_spreadMark 64 = .ok (.aload_n 0, 1) := by decide +kernel
theorem dX4_spreadMark_65 : decode cX4_spreadMark 65 = .ok (.getfield 33, 3) := by decide +kernel
theorem dX4_spreadMark_68 : decode cX4_spreadMark 68 = .ok (.iload_n 3, 1) := by decide +kernel
theorem dX4_spreadMark_69 : decode cX4_spreadMark 69 = .ok (.iaload, 1) := by decide +kernel
theorem dX4_spreadMark_70 : decode cX4_spreadMark 70 = .ok (.iload_n 1, 1) := by decide +kernel
theorem dX4_spreadMark_71 : decode cX4_spreadMark 71 = .ok (.iload_n 2, 1) := by decide +kernel
theorem dX4_spreadMark_72 : decode cX4_spreadMark 72 = .ok (.invokevirtual 61, 3) := by decide +kernel
theorem dX4_spreadMark_75 : decode cX4_spreadMark 75 = .ok (.istore_n 2, 1) := by decide +kernel
theorem dX4_spreadMark_76 : decode cX4_spreadMark 76 = .ok (.iinc 3 1, 3) := by decide +kernel
theorem dX4_spreadMark_79 : decode cX4_spreadMark 79 = .ok (.goto (-28), 3) := by decide +kernel
theorem dX4_spreadMark_82 : decode cX4_spreadMark 82 = .ok (.return_, 1) := by decide +kernel
theorem dX4_markStatesAhead_0 : decode cX4_markStatesAhead 0 = .ok (.iload_n 3, 1) := by decide +kernel
theorem dX4_markStatesAhead_1 : decode cX4_markStatesAhead 1 = .ok (.istore 4, 2) := by decide +kernel
theorem dX4_markStatesAhead_3 : decode cX4_markStatesAhead 3 = .ok (.aload_n 0, 1) := by decide +kernel
theorem dX4_markStatesAhead_4 : decode cX4_markStatesAhead 4 = .ok (.getfield 24, 3) := by decide +kernel
theorem dX4_markStatesAhead_7 : decode cX4_markStatesAhead 7 = .ok (.iload_n 1, 1) := by decide +kernel
theorem dX4_markStatesAhead_8 : decode cX4_markStatesAhead 8 = .ok (.iaload, 1) := by decide +kernel
theorem dX4_markStatesAhead_9 : decode cX4_markStatesAhead 9 = .ok (.istore 5, 2) := by decide +kernel
theorem dX4_markStatesAhead_11 : decode cX4_markStatesAhead 11 = .ok (.iconst 0, 1) := by decide +kernel
theorem dX4_markStatesAhead_12 : decode cX4_markStatesAhead 12 = .ok (.istore 6, 2) := by decide +kernel
theorem dX4_markStatesAhead_14 : decode cX4_markStatesAhead 14 = .ok (.iload 5, 2) := by decide +kernel
theorem dX4_markStatesAhead_16 : decode cX4_markStatesAhead 16 = .ok (.iconst (-1), 1) := by decide +kernel
theorem dX4_markStatesAhead_17 : decode cX4_markStatesAhead 17 = .ok (.if_icmp .eq 76, 3) := by decide +kernel
theorem dX4_markStatesAhead_20 : decode cX4_markStatesAhead 20 = .ok (.iload 6, 2) := by decide +kernel
theorem dX4_markStatesAhead_22 : decode cX4_markStatesAhead 22 = .ok (.sipush 30720, 3) := by decide +kernel
theorem dX4_markStatesAhead_25 : decode cX4_markStatesAhead 25 = .ok (.if_icmp .ge 68, 3) := by decide +kernel
theorem dX4_markStatesAhead_28 : decode cX4_markStatesAhead 28 = .ok (.iload 5, 2) := by decide +kernel
theorem dX4_markStatesAhead_30 : decode cX4_markStatesAhead 30 = .ok (.bipush 6, 2) := by decide +kernel
theorem dX4_markStatesAhead_32 : decode cX4_markStatesAhead 32 = .ok (.idiv, 1) := by decide +kernel
theorem dX4_markStatesAhead_33 : decode cX4_markStatesAhead 33 = .ok (.istore 7, 2) := by decide +kernel
theorem dX4_markStatesAhead_35 : decode cX4_markStatesAhead 35 = .ok (.aload_n 0, 1) := by decide +kernel
theorem dX4_markStatesAhead_36 : decode cX4_markStatesAhead 36 = .ok (.getfield 30, 3) := by decide +kernel
theorem dX4_markStatesAhead_39 : decode cX4_markStatesAhead 39 = .ok (.iload 7, 2) := by decide +kernel
theorem dX4_markStatesAhead_41 : decode cX4_markStatesAhead 41 = .ok (.iaload, 1) := by decide +kernel
theorem dX4_markStatesAhead_42 : decode cX4_markStatesAhead 42 = .ok (.iload_n 2, 1) := by decide +kernel
theorem dX4_markStatesAhead_43 : decode cX4_markStatesAhead 43 = .ok (.iand, 1) := by decide +kernel
theorem dX4_markStatesAhead_44 : decode cX4_markStatesAhead 44 = .ok (.ifCond .ne 34, 3) := by decide +kernel
theorem dX4_markStatesAhead_47 : decode cX4_markStatesAhead 47 = .ok (.iload 4, 2) := by decide +kernel
theorem dX4_markStatesAhead_49 : decode cX4_markStatesAhead 49 = .ok (.sipush 5120, 3) := by decide +kernel
theorem dX4_markStatesAhead_52 : decode cX4_markStatesAhead 52 = .ok (.if_icmp .ge 26, 3) := by decide +kernel
theorem dX4_markStatesAhead_55 : decode cX4_markStatesAhead 55 = .ok (.aload_n 0, 1) := by decide +kernel
theorem dX4_markStatesAhead_56 : decode cX4_markStatesAhead 56 = .ok (.getfield 30, 3) := by decide +kernel
theorem dX4_markStatesAhead_59 : decode cX4_markStatesAhead 59 = .ok (.iload 7, 2) := by decide +kernel
theorem dX4_markStatesAhead_61 : decode cX4_markStatesAhead 61 = .ok (.dup2, 1) := by decide +kernel
theorem dX4_markStatesAhead_62 : decode cX4_markStatesAhead 62 = .ok (.iaload, 1) := by decide +kernel
theorem dX4_markStatesAhead_63 : decode cX4_markStatesAhead 63 = .ok (.iload_n 2, 1) := by decide +kernel
theorem dX4_markStatesAhead_64 : decode cX4_markStatesAhead 64 = .ok (.ior, 1) := by decide +kernel
theorem dX4_markStatesAhead_65 : decode cX4_markStatesAhead 65 = .ok (.iastore, 1) := by decide +kernel
theorem dX4_markStatesAhead_66 : decode cX4_markStatesAhead 66 = .ok (.aload_n 0, 1) := by decide +kernel
theorem dX4_markStatesAhead_67 : decode cX4_markStatesAhead 67 = .ok (.getfield 33, 3) := by decide +kernel
theorem dX4_markStatesAhead_70 : decode cX4_markStatesAhead 70 = .ok (.iload 4, 2) := by decide +kernel
theorem dX4_markStatesAhead_72 : decode cX4_markStatesAhead 72 = .ok (.iload 7, 2) := by decide +kernel
theorem dX4_markStatesAhead_74 : decode cX4_markStatesAhead 74 = .ok (.iastore, 1) := by decide +kernel
theorem dX4_markStatesAhead_75 : decode cX4_markStatesAhead 75 = .ok (.iinc 4 1, 3) := by decide +kernel
theorem dX4_markStatesAhead_78 : decode cX4_markStatesAhead 78 = .ok (.aload_n 0, 1) := by decide +kernel
theorem dX4_markStatesAhead_79 : decode cX4_markStatesAhead 79 = .ok (.getfield 27, 3) := by decide +kernel
theorem dX4_markStatesAhead_82 : decode cX4_markStatesAhead 82 = .ok (.iload 5, 2) := by decide +kernel
theorem dX4_markStatesAhead_84 : decode cX4_markStatesAhead 84 = .ok (.iaload, 1) := by decide +kernel
theorem dX4_markStatesAhead_85 : decode cX4_markStatesAhead 85 = .ok (.istore 5, 2) := by decide +kernel
theorem dX4_markStatesAhead_87 : decode cX4_markStatesAhead 87 = .ok (.iinc 6 1, 3) := by decide +kernel
theorem dX4_markStatesAhead_90 : decode cX4_markStatesAhead 90 = .ok (.goto (-76), 3) := by decide +kernel
theorem dX4_markStatesAhead_93 : decode cX4_markStatesAhead 93 = .ok (.iload 4, 2) := by decide +kernel
theorem dX4_markStatesAhead_95 : decode cX4_markStatesAhead 95 = .ok (.ireturn, 1) := by decide +kernel
theorem dX4_leadsOn_0 : decode cX4_leadsOn 0 = .ok (.iconst 0, 1) := by decide +kernel
theorem dX4_leadsOn_1 : decode cX4_leadsOn 1 = .ok (.istore_n 2, 1) := by decide +kernel
theorem dX4_leadsOn_2 : decode cX4_leadsOn 2 = .ok (.iload_n 2, 1) := by decide +kernel
theorem dX4_leadsOn_3 : decode cX4_leadsOn 3 = .ok (.bipush 6, 2) := by decide +kernel
theorem dX4_leadsOn_5 : decode cX4_leadsOn 5 = .ok (.if_icmp .ge 26, 3) := by decide +kernel
theorem dX4_leadsOn_8 : decode cX4_leadsOn 8 = .ok (.aload_n 0, 1) := by decide +kernel
theorem dX4_leadsOn_9 : decode cX4_leadsOn 9 = .ok (.getfield 21, 3) := by decide +kernel
theorem dX4_leadsOn_12 : decode cX4_leadsOn 12 = .ok (.iload_n 1, 1) := by decide +kernel
theorem dX4_leadsOn_13 : decode cX4_leadsOn 13 = .ok (.bipush 6, 2) := by decide +kernel
theorem dX4_leadsOn_15 : decode cX4_leadsOn 15 = .ok (.imul, 1) := by decide +kernel
theorem dX4_leadsOn_16 : decode cX4_leadsOn 16 = .ok (.iload_n 2, 1) := by decide +kernel
theorem dX4_leadsOn_17 : decode cX4_leadsOn 17 = .ok (.iadd, 1) := by decide +kernel
theorem dX4_leadsOn_18 : decode cX4_leadsOn 18 = .ok (.iaload, 1) := by decide +kernel
theorem dX4_leadsOn_19 : decode cX4_leadsOn 19 = .ok (.iconst (-1), 1) := by decide +kernel
theorem dX4_leadsOn_20 : decode cX4_leadsOn 20 = .ok (.if_icmp .eq 5, 3) := by decide +kernel
theorem dX4_leadsOn_23 : decode cX4_leadsOn 23 = .ok (.iconst 1, 1) := by decide +kernel
theorem dX4_leadsOn_24 : decode cX4_leadsOn 24 = .ok (.ireturn, 1) := by decide +kernel
theorem dX4_leadsOn_25 : decode cX4_leadsOn 25 = .ok (.iinc 2 1, 3) := by decide +kernel
theorem dX4_leadsOn_28 : decode cX4_leadsOn 28 = .ok (.goto (-26), 3) := by decide +kernel
theorem dX4_leadsOn_31 : decode cX4_leadsOn 31 = .ok (.iconst 0, 1) := by decide +kernel
theorem dX4_leadsOn_32 : decode cX4_leadsOn 32 = .ok (.ireturn, 1) := by decide +kernel
theorem dX4_scenesCome_0 : decode cX4_scenesCome 0 = .ok (.iconst 0, 1) := by decide +kernel
theorem dX4_scenesCome_1 : decode cX4_scenesCome 1 = .ok (.istore_n 1, 1) := by decide +kernel
theorem dX4_scenesCome_2 : decode cX4_scenesCome 2 = .ok (.iconst 0, 1) := by decide +kernel
theorem dX4_scenesCome_3 : decode cX4_scenesCome 3 = .ok (.istore_n 2, 1) := by decide +kernel
theorem dX4_scenesCome_4 : decode cX4_scenesCome 4 = .ok (.iload_n 2, 1) := by decide +kernel
theorem dX4_scenesCome_5 : decode cX4_scenesCome 5 = .ok (.aload_n 0, 1) := by decide +kernel
theorem dX4_scenesCome_6 : decode cX4_scenesCome 6 = .ok (.getfield 47, 3) := by decide +kernel
theorem dX4_scenesCome_9 : decode cX4_scenesCome 9 = .ok (.if_icmp .ge 23, 3) := by decide +kernel
theorem dX4_scenesCome_12 : decode cX4_scenesCome 12 = .ok (.iload_n 1, 1) := by decide +kernel
theorem dX4_scenesCome_13 : decode cX4_scenesCome 13 = .ok (.iconst 1, 1) := by decide +kernel
theorem dX4_scenesCome_14 : decode cX4_scenesCome 14 = .ok (.aload_n 0, 1) := by decide +kernel
theorem dX4_scenesCome_15 : decode cX4_scenesCome 15 = .ok (.getfield 9, 3) := by decide +kernel
theorem dX4_scenesCome_18 : decode cX4_scenesCome 18 = .ok (.iload_n 2, 1) := by decide +kernel
theorem dX4_scenesCome_19 : decode cX4_scenesCome 19 = .ok (.iaload, 1) := by decide +kernel
theorem dX4_scenesCome_20 : decode cX4_scenesCome 20 = .ok (.invokestatic 64, 3) := by decide +kernel
theorem dX4_scenesCome_23 : decode cX4_scenesCome 23 = .ok (.ishl, 1) := by decide +kernel
theorem dX4_scenesCome_24 : decode cX4_scenesCome 24 = .ok (.ior, 1) := by decide +kernel
theorem dX4_scenesCome_25 : decode cX4_scenesCome 25 = .ok (.istore_n 1, 1) := by decide +kernel
theorem dX4_scenesCome_26 : decode cX4_scenesCome 26 = .ok (.iinc 2 1, 3) := by decide +kernel
theorem dX4_scenesCome_29 : decode cX4_scenesCome 29 = .ok (.goto (-25), 3) := by decide +kernel
theorem dX4_scenesCome_32 : decode cX4_scenesCome 32 = .ok (.iload_n 1, 1) := by decide +kernel
theorem dX4_scenesCome_33 : decode cX4_scenesCome 33 = .ok (.ireturn, 1) := by decide +kernel
theorem dX4_firstOf_0 : decode cX4_firstOf 0 = .ok (.iconst 0, 1) := by decide +kernel
theorem dX4_firstOf_1 : decode cX4_firstOf 1 = .ok (.istore_n 2, 1) := by decide +kernel
theorem dX4_firstOf_2 : decode cX4_firstOf 2 = .ok (.iload_n 2, 1) := by decide +kernel
theorem dX4_firstOf_3 : decode cX4_firstOf 3 = .ok (.aload_n 0, 1) := by decide +kernel
theorem dX4_firstOf_4 : decode cX4_firstOf 4 = .ok (.getfield 47, 3) := by decide +kernel
theorem dX4_firstOf_7 : decode cX4_firstOf 7 = .ok (.if_icmp .ge 29, 3) := by decide +kernel
theorem dX4_firstOf_10 : decode cX4_firstOf 10 = .ok (.aload_n 0, 1) := by decide +kernel
theorem dX4_firstOf_11 : decode cX4_firstOf 11 = .ok (.getfield 9, 3) := by decide +kernel
theorem dX4_firstOf_14 : decode cX4_firstOf 14 = .ok (.iload_n 2, 1) := by decide +kernel
theorem dX4_firstOf_15 : decode cX4_firstOf 15 = .ok (.iaload, 1) := by decide +kernel
theorem dX4_firstOf_16 : decode cX4_firstOf 16 = .ok (.invokestatic 64, 3) := by decide +kernel
theorem dX4_firstOf_19 : decode cX4_firstOf 19 = .ok (.iload_n 1, 1) := by decide +kernel
theorem dX4_firstOf_20 : decode cX4_firstOf 20 = .ok (.if_icmp .ne 10, 3) := by decide +kernel
theorem dX4_firstOf_23 : decode cX4_firstOf 23 = .ok (.aload_n 0, 1) := by decide +kernel
theorem dX4_firstOf_24 : decode cX4_firstOf 24 = .ok (.getfield 9, 3) := by decide +kernel
theorem dX4_firstOf_27 : decode cX4_firstOf 27 = .ok (.iload_n 2, 1) := by decide +kernel
theorem dX4_firstOf_28 : decode cX4_firstOf 28 = .ok (.iaload, 1) := by decide +kernel
theorem dX4_firstOf_29 : decode cX4_firstOf 29 = .ok (.ireturn, 1) := by decide +kernel
theorem dX4_firstOf_30 : decode cX4_firstOf 30 = .ok (.iinc 2 1, 3) := by decide +kernel
theorem dX4_firstOf_33 : decode cX4_firstOf 33 = .ok (.goto (-31), 3) := by decide +kernel
theorem dX4_firstOf_36 : decode cX4_firstOf 36 = .ok (.iconst (-1), 1) := by decide +kernel
theorem dX4_firstOf_37 : decode cX4_firstOf 37 = .ok (.ireturn, 1) := by decide +kernel
theorem dX4_choiceOfWay_0 : decode cX4_choiceOfWay 0 = .ok (.aload_n 0, 1) := by decide +kernel
theorem dX4_choiceOfWay_1 : decode cX4_choiceOfWay 1 = .ok (.getfield 18, 3) := by decide +kernel
theorem dX4_choiceOfWay_4 : decode cX4_choiceOfWay 4 = .ok (.iload_n 1, 1) := by decide +kernel
theorem dX4_choiceOfWay_5 : decode cX4_choiceOfWay 5 = .ok (.iaload, 1) := by decide +kernel
theorem dX4_choiceOfWay_6 : decode cX4_choiceOfWay 6 = .ok (.istore_n 3, 1) := by decide +kernel
theorem dX4_choiceOfWay_7 : decode cX4_choiceOfWay 7 = .ok (.iload_n 2, 1) := by decide +kernel
theorem dX4_choiceOfWay_8 : decode cX4_choiceOfWay 8 = .ok (.iload_n 3, 1) := by decide +kernel
theorem dX4_choiceOfWay_9 : decode cX4_choiceOfWay 9 = .ok (.if_icmp .lt 5, 3) := by decide +kernel
theorem dX4_choiceOfWay_12 : decode cX4_choiceOfWay 12 = .ok (.iconst (-1), 1) := by decide +kernel
theorem dX4_choiceOfWay_13 : decode cX4_choiceOfWay 13 = .ok (.ireturn, 1) := by decide +kernel
theorem dX4_choiceOfWay_14 : decode cX4_choiceOfWay 14 = .ok (.iload_n 1, 1) := by decide +kernel
theorem dX4_choiceOfWay_15 : decode cX4_choiceOfWay 15 = .ok (.istore 4, 2) := by decide +kernel
theorem dX4_choiceOfWay_17 : decode cX4_choiceOfWay 17 = .ok (.iload_n 3, 1) := by decide +kernel
theorem dX4_choiceOfWay_18 : decode cX4_choiceOfWay 18 = .ok (.iconst 1, 1) := by decide +kernel
theorem dX4_choiceOfWay_19 : decode cX4_choiceOfWay 19 = .ok (.isub, 1) := by decide +kernel
theorem dX4_choiceOfWay_20 : decode cX4_choiceOfWay 20 = .ok (.istore 5, 2) := by decide +kernel
theorem dX4_choiceOfWay_22 : decode cX4_choiceOfWay 22 = .ok (.iload 5, 2) := by decide +kernel
theorem dX4_choiceOfWay_24 : decode cX4_choiceOfWay 24 = .ok (.iload_n 2, 1) := by decide +kernel
theorem dX4_choiceOfWay_25 : decode cX4_choiceOfWay 25 = .ok (.if_icmp .le 21, 3) := by decide +kernel
theorem dX4_choiceOfWay_28 : decode cX4_choiceOfWay 28 = .ok (.aload_n 0, 1) := by decide +kernel
theorem dX4_choiceOfWay_29 : decode cX4_choiceOfWay 29 = .ok (.getfield 15, 3) := by decide +kernel
theorem dX4_choiceOfWay_32 : decode cX4_choiceOfWay 32 = .ok (.iload 4, 2) := by decide +kernel
theorem dX4_choiceOfWay_34 : decode cX4_choiceOfWay 34 = .ok (.iaload, 1) := by decide +kernel
theorem dX4_choiceOfWay_35 : decode cX4_choiceOfWay 35 = .ok (.bipush 6, 2) := by decide +kernel
theorem dX4_choiceOfWay_37 : decode cX4_choiceOfWay 37 = .ok (.idiv, 1) := by decide +kernel
theorem dX4_choiceOfWay_38 : decode cX4_choiceOfWay 38 = .ok (.istore 4, 2) := by decide +kernel
theorem dX4_choiceOfWay_40 : decode cX4_choiceOfWay 40 = .ok (.iinc 5 (-1), 3) := by decide +kernel
theorem dX4_choiceOfWay_43 : decode cX4_choiceOfWay 43 = .ok (.goto (-21), 3) := by decide +kernel
theorem dX4_choiceOfWay_46 : decode cX4_choiceOfWay 46 = .ok (.aload_n 0, 1) := by decide +kernel
theorem dX4_choiceOfWay_47 : decode cX4_choiceOfWay 47 = .ok (.getfield 15, 3) := by decide +kernel
theorem dX4_choiceOfWay_50 : decode cX4_choiceOfWay 50 = .ok (.iload 4, 2) := by decide +kernel
theorem dX4_choiceOfWay_52 : decode cX4_choiceOfWay 52 = .ok (.iaload, 1) := by decide +kernel
theorem dX4_choiceOfWay_53 : decode cX4_choiceOfWay 53 = .ok (.bipush 6, 2) := by decide +kernel
theorem dX4_choiceOfWay_55 : decode cX4_choiceOfWay 55 = .ok (.irem, 1) := by decide +kernel
theorem dX4_choiceOfWay_56 : decode cX4_choiceOfWay 56 = .ok (.ireturn, 1) := by decide +kernel
theorem dX4_countPairs_0 : decode cX4_countPairs 0 = .ok (.iconst 0, 1) := by decide +kernel
theorem dX4_countPairs_1 : decode cX4_countPairs 1 = .ok (.istore_n 2, 1) := by decide +kernel
theorem dX4_countPairs_2 : decode cX4_countPairs 2 = .ok (.iconst 0, 1) := by decide +kernel
theorem dX4_countPairs_3 : decode cX4_countPairs 3 = .ok (.istore_n 3, 1) := by decide +kernel
theorem dX4_countPairs_4 : decode cX4_countPairs 4 = .ok (.iload_n 3, 1) := by decide +kernel
theorem dX4_countPairs_5 : decode cX4_countPairs 5 = .ok (.aload_n 0, 1) := by decide +kernel
theorem dX4_countPairs_6 : decode cX4_countPairs 6 = .ok (.getfield 47, 3) := by decide +kernel
theorem dX4_countPairs_9 : decode cX4_countPairs 9 = .ok (.if_icmp .ge 42, 3) := by decide +kernel
theorem dX4_countPairs_12 : decode cX4_countPairs 12 = .ok (.aload_n 0, 1) := by decide +kernel
theorem dX4_countPairs_13 : decode cX4_countPairs 13 = .ok (.getfield 9, 3) := by decide +kernel
theorem dX4_countPairs_16 : decode cX4_countPairs 16 = .ok (.iload_n 3, 1) := by decide +kernel
theorem dX4_countPairs_17 : decode cX4_countPairs 17 = .ok (.iaload, 1) := by decide +kernel
theorem dX4_countPairs_18 : decode cX4_countPairs 18 = .ok (.aload_n 1, 1) := by decide +kernel
theorem dX4_countPairs_19 : decode cX4_countPairs 19 = .ok (.invokestatic 68, 3) := by decide +kernel
theorem dX4_countPairs_22 : decode cX4_countPairs 22 = .ok (.istore 4, 2) := by decide +kernel
theorem dX4_countPairs_24 : decode cX4_countPairs 24 = .ok (.aload_n 0, 1) := by decide +kernel
theorem dX4_countPairs_25 : decode cX4_countPairs 25 = .ok (.getfield 36, 3) := by decide +kernel
theorem dX4_countPairs_28 : decode cX4_countPairs 28 = .ok (.iload 4, 2) := by decide +kernel
theorem dX4_countPairs_30 : decode cX4_countPairs 30 = .ok (.baload, 1) := by decide +kernel
theorem dX4_countPairs_31 : decode cX4_countPairs 31 = .ok (.ifCond .ne 14, 3) := by decide +kernel
theorem dX4_countPairs_34 : decode cX4_countPairs 34 = .ok (.aload_n 0, 1) := by decide +kernel
theorem dX4_countPairs_35 : decode cX4_countPairs 35 = .ok (.getfield 36, 3) := by decide +kernel
theorem dX4_countPairs_38 : decode cX4_countPairs 38 = .ok (.iload 4, 2) := by decide +kernel
theorem dX4_countPairs_40 : decode cX4_countPairs 40 = .ok (.iconst 1, 1) := by decide +kernel
theorem dX4_countPairs_41 : decode cX4_countPairs 41 = .ok (.bastore, 1) := by decide +kernel
theorem dX4_countPairs_42 : decode cX4_countPairs 42 = .ok (.iinc 2 1, 3) := by decide +kernel
theorem dX4_countPairs_45 : decode cX4_countPairs 45 = .ok (.iinc 3 1, 3) := by decide +kernel
theorem dX4_countPairs_48 : decode cX4_countPairs 48 = .ok (.goto (-44), 3) := by decide +kernel
theorem dX4_countPairs_51 : decode cX4_countPairs 51 = .ok (.iconst 0, 1) := by decide +kernel
theorem dX4_countPairs_52 : decode cX4_countPairs 52 = .ok (.istore_n 3, 1) := by decide +kernel
theorem dX4_countPairs_53 : decode cX4_countPairs 53 = .ok (.iload_n 3, 1) := by decide +kernel
theorem dX4_countPairs_54 : decode cX4_countPairs 54 = .ok (.aload_n 0, 1) := by decide +kernel
theorem dX4_countPairs_55 : decode cX4_countPairs 55 = .ok (.getfield 47, 3) := by decide +kernel
theorem dX4_countPairs_58 : decode cX4_countPairs 58 = .ok (.if_icmp .ge 25, 3) := by decide +kernel
theorem dX4_countPairs_61 : decode cX4_countPairs 61 = .ok (.aload_n 0, 1) := by decide +kernel
theorem dX4_countPairs_62 : decode cX4_countPairs 62 = .ok (.getfield 36, 3) := by decide +kernel
theorem dX4_countPairs_65 : decode cX4_countPairs 65 = .ok (.aload_n 0, 1) := by decide +kernel
theorem dX4_countPairs_66 : decode cX4_countPairs 66 = .ok (.getfield 9, 3) := by decide +kernel
theorem dX4_countPairs_69 : decode cX4_countPairs 69 = .ok (.iload_n 3, 1) := by decide +kernel
theorem dX4_countPairs_70 : decode cX4_countPairs 70 = .ok (.iaload, 1) := by decide +kernel
theorem dX4_countPairs_71 : decode cX4_countPairs 71 = .ok (.aload_n 1, 1) := by decide +kernel
theorem dX4_countPairs_72 : decode cX4_countPairs 72 = .ok (.invokestatic 68, 3) := by decide +kernel
theorem dX4_countPairs_75 : decode cX4_countPairs 75 = .ok (.iconst 0, 1) := by decide +kernel
theorem dX4_countPairs_76 : decode cX4_countPairs 76 = .ok (.bastore, 1) := by decide +kernel
theorem dX4_countPairs_77 : decode cX4_countPairs 77 = .ok (.iinc 3 1, 3) := by decide +kernel
theorem dX4_countPairs_80 : decode cX4_countPairs 80 = .ok (.goto (-27), 3) := by decide +kernel
theorem dX4_countPairs_83 : decode cX4_countPairs 83 = .ok (.iload_n 2, 1) := by decide +kernel
theorem dX4_countPairs_84 : decode cX4_countPairs 84 = .ok (.ireturn, 1) := by decide +kernel
theorem dX4_pairOf_0 : decode cX4_pairOf 0 = .ok (.iload_n 0, 1) := by decide +kernel
theorem dX4_pairOf_1 : decode cX4_pairOf 1 = .ok (.invokestatic 64, 3) := by decide +kernel
theorem dX4_pairOf_4 : decode cX4_pairOf 4 = .ok (.istore_n 2, 1) := by decide +kernel
theorem dX4_pairOf_5 : decode cX4_pairOf 5 = .ok (.iload_n 2, 1) := by decide +kernel
theorem dX4_pairOf_6 : decode cX4_pairOf 6 = .ok (.iload_n 0, 1) := by decide +kernel
theorem dX4_pairOf_7 : decode cX4_pairOf 7 = .ok (.invokestatic 72, 3) := by decide +kernel
theorem dX4_pairOf_10 : decode cX4_pairOf 10 = .ok (.aload_n 1, 1) := by decide +kernel
theorem dX4_pairOf_11 : decode cX4_pairOf 11 = .ok (.iload_n 2, 1) := by decide +kernel
theorem dX4_pairOf_12 : decode cX4_pairOf 12 = .ok (.iaload, 1) := by decide +kernel
theorem dX4_pairOf_13 : decode cX4_pairOf 13 = .ok (.iand, 1) := by decide +kernel
theorem dX4_pairOf_14 : decode cX4_pairOf 14 = .ok (.invokestatic 75, 3) := by decide +kernel
theorem dX4_pairOf_17 : decode cX4_pairOf 17 = .ok (.ireturn, 1) := by decide +kernel
theorem dX4_countRows_0 : decode cX4_countRows 0 = .ok (.iconst 0, 1) := by decide +kernel
theorem dX4_countRows_1 : decode cX4_countRows 1 = .ok (.istore_n 2, 1) := by decide +kernel
theorem dX4_countRows_2 : decode cX4_countRows 2 = .ok (.iload_n 2, 1) := by decide +kernel
theorem dX4_countRows_3 : decode cX4_countRows 3 = .ok (.aload_n 0, 1) := by decide +kernel
theorem dX4_countRows_4 : decode cX4_countRows 4 = .ok (.getfield 47, 3) := by decide +kernel
theorem dX4_countRows_7 : decode cX4_countRows 7 = .ok (.if_icmp .ge 29, 3) := by decide +kernel
theorem dX4_countRows_10 : decode cX4_countRows 10 = .ok (.aload_n 0, 1) := by decide +kernel
theorem dX4_countRows_11 : decode cX4_countRows 11 = .ok (.getfield 40, 3) := by decide +kernel
theorem dX4_countRows_14 : decode cX4_countRows 14 = .ok (.aload_n 0, 1) := by decide +kernel
theorem dX4_countRows_15 : decode cX4_countRows 15 = .ok (.getfield 9, 3) := by decide +kernel
theorem dX4_countRows_18 : decode cX4_countRows 18 = .ok (.iload_n 2, 1) := by decide +kernel
theorem dX4_countRows_19 : decode cX4_countRows 19 = .ok (.iaload, 1) := by decide +kernel
theorem dX4_countRows_20 : decode cX4_countRows 20 = .ok (.iload_n 2, 1) := by decide +kernel
theorem dX4_countRows_21 : decode cX4_countRows 21 = .ok (.ifCond .ne 7, 3) := by decide +kernel
theorem dX4_countRows_24 : decode cX4_countRows 24 = .ok (.lconst 1, 1) := by decide +kernel
theorem dX4_countRows_25 : decode cX4_countRows 25 = .ok (.goto 4, 3) := by decide +kernel
theorem dX4_countRows_28 : decode cX4_countRows 28 = .ok (.lconst 0, 1) := by decide +kernel
theorem dX4_countRows_29 : decode cX4_countRows 29 = .ok (.lastore, 1) := by decide +kernel
theorem dX4_countRows_30 : decode cX4_countRows 30 = .ok (.iinc 2 1, 3) := by decide +kernel
theorem dX4_countRows_33 : decode cX4_countRows 33 = .ok (.goto (-31), 3) := by decide +kernel
theorem dX4_countRows_36 : decode cX4_countRows 36 = .ok (.iconst 0, 1) := by decide +kernel
theorem dX4_countRows_37 : decode cX4_countRows 37 = .ok (.istore_n 2, 1) := by decide +kernel
theorem dX4_countRows_38 : decode cX4_countRows 38 = .ok (.iload_n 2, 1) := by decide +kernel
theorem dX4_countRows_39 : decode cX4_countRows 39 = .ok (.iload_n 1, 1) := by decide +kernel
theorem dX4_countRows_40 : decode cX4_countRows 40 = .ok (.if_icmp .ge 81, 3) := by decide +kernel
theorem dX4_countRows_43 : decode cX4_countRows 43 = .ok (.iconst 0, 1) := by decide +kernel
theorem dX4_countRows_44 : decode cX4_countRows 44 = .ok (.istore_n 3, 1) := by decide +kernel
theorem dX4_countRows_45 : decode cX4_countRows 45 = .ok (.iload_n 3, 1) := by decide +kernel
theorem dX4_countRows_46 : decode cX4_countRows 46 = .ok (.aload_n 0, 1) := by decide +kernel
theorem dX4_countRows_47 : decode cX4_countRows 47 = .ok (.getfield 47, 3) := by decide +kernel
theorem dX4_countRows_50 : decode cX4_countRows 50 = .ok (.if_icmp .ge 21, 3) := by decide +kernel
theorem dX4_countRows_53 : decode cX4_countRows 53 = .ok (.aload_n 0, 1) := by decide +kernel
theorem dX4_countRows_54 : decode cX4_countRows 54 = .ok (.getfield 44, 3) := by decide +kernel
theorem dX4_countRows_57 : decode cX4_countRows 57 = .ok (.aload_n 0, 1) := by decide +kernel
theorem dX4_countRows_58 : decode cX4_countRows 58 = .ok (.getfield 9, 3) := by decide +kernel
theorem dX4_countRows_61 : decode cX4_countRows 61 = .ok (.iload_n 3, 1) := by decide +kernel
theorem dX4_countRows_62 : decode cX4_countRows 62 = .ok (.iaload, 1) := by decide +kernel
theorem dX4_countRows_63 : decode cX4_countRows 63 = .ok (.lconst 0, 1) := by decide +kernel
theorem dX4_countRows_64 : decode cX4_countRows 64 = .ok (.lastore, 1) := by decide +kernel
theorem dX4_countRows_65 : decode cX4_countRows 65 = .ok (.iinc 3 1, 3) := by decide +kernel
theorem dX4_countRows_68 : decode cX4_countRows 68 = .ok (.goto (-23), 3) := by decide +kernel
theorem dX4_countRows_71 : decode cX4_countRows 71 = .ok (.iconst 0, 1) := by decide +kernel
theorem dX4_countRows_72 : decode cX4_countRows 72 = .ok (.istore_n 3, 1) := by decide +kernel
theorem dX4_countRows_73 : decode cX4_countRows 73 = .ok (.iload_n 3, 1) := by decide +kernel
theorem dX4_countRows_74 : decode cX4_countRows 74 = .ok (.aload_n 0, 1) := by decide +kernel
theorem dX4_countRows_75 : decode cX4_countRows 75 = .ok (.getfield 47, 3) := by decide +kernel
theorem dX4_countRows_78 : decode cX4_countRows 78 = .ok (.if_icmp .ge 19, 3) := by decide +kernel
theorem dX4_countRows_81 : decode cX4_countRows 81 = .ok (.aload_n 0, 1) := by decide +kernel
theorem dX4_countRows_82 : decode cX4_countRows 82 = .ok (.aload_n 0, 1) := by decide +kernel
theorem dX4_countRows_83 : decode cX4_countRows 83 = .ok (.getfield 9, 3) := by decide +kernel
theorem dX4_countRows_86 : decode cX4_countRows 86 = .ok (.iload_n 3, 1) := by decide +kernel
theorem dX4_countRows_87 : decode cX4_countRows 87 = .ok (.iaload, 1) := by decide +kernel
theorem dX4_countRows_88 : decode cX4_countRows 88 = .ok (.invokevirtual 79, 3) := by decide +kernel
theorem dX4_countRows_91 : decode cX4_countRows 91 = .ok (.iinc 3 1, 3) := by decide +kernel
theorem dX4_countRows_94 : decode cX4_countRows 94 = .ok (.goto (-21), 3) := by decide +kernel
theorem dX4_countRows_97 : decode cX4_countRows 97 = .ok (.aload_n 0, 1) := by decide +kernel
theorem dX4_countRows_98 : decode cX4_countRows 98 = .ok (.getfield 40, 3) := by decide +kernel
theorem dX4_countRows_101 : decode cX4_countRows 101 = .ok (.astore_n 3, 1) := by decide +kernel
theorem dX4_countRows_102 : decode cX4_countRows 102 = .ok (.aload_n 0, 1) := by decide +kernel
theorem dX4_countRows_103 : decode cX4_countRows 103 = .ok (.aload_n 0, 1) := by decide +kernel
theorem dX4_countRows_104 : decode cX4_countRows 104 = .ok (.getfield 44, 3) := by decide +kernel
theorem dX4_countRows_107 : decode cX4_countRows 107 = .ok (.putfield 40, 3) := by decide +kernel
theorem dX4_countRows_110 : decode cX4_countRows 110 = .ok (.aload_n 0, 1) := by decide +kernel
theorem dX4_countRows_111 : decode cX4_countRows 111 = .ok (.aload_n 3, 1) := by decide +kernel
theorem dX4_countRows_112 : decode cX4_countRows 112 = .ok (.putfield 44, 3) := by decide +kernel
theorem dX4_countRows_115 : decode cX4_countRows 115 = .ok (.iinc 2 1, 3) := by decide +kernel
theorem dX4_countRows_118 : decode cX4_countRows 118 = .ok (.goto (-80), 3) := by decide +kernel
theorem dX4_countRows_121 : decode cX4_countRows 121 = .ok (.return_, 1) := by decide +kernel
theorem dX4_passRowsOn_0 : decode cX4_passRowsOn 0 = .ok (.aload_n 0, 1) := by decide +kernel
theorem dX4_passRowsOn_1 : decode cX4_passRowsOn 1 = .ok (.getfield 40, 3) := by decide +kernel
theorem dX4_passRowsOn_4 : decode cX4_passRowsOn 4 = .ok (.iload_n 1, 1) := by decide +kernel
theorem dX4_passRowsOn_5 : decode cX4_passRowsOn 5 = .ok (.laload, 1) := by decide +kernel
theorem dX4_passRowsOn_6 : decode cX4_passRowsOn 6 = .ok (.lconst 0, 1) := by decide +kernel
theorem dX4_passRowsOn_7 : decode cX4_passRowsOn 7 = .ok (.lcmp, 1) := by decide +kernel
theorem dX4_passRowsOn_8 : decode cX4_passRowsOn 8 = .ok (.ifCond .ne 4, 3) := by decide +kernel
theorem dX4_passRowsOn_11 : decode cX4_passRowsOn 11 = .ok (.return_, 1) := by decide +kernel
theorem dX4_passRowsOn_12 : decode cX4_passRowsOn 12 = .ok (.iconst 0, 1) := by decide +kernel
theorem dX4_passRowsOn_13 : decode cX4_passRowsOn 13 = .ok (.istore_n 2, 1) := by decide +kernel
theorem dX4_passRowsOn_14 : decode cX4_passRowsOn 14 = .ok (.iload_n 2, 1) := by decide +kernel
theorem dX4_passRowsOn_15 : decode cX4_passRowsOn 15 = .ok (.bipush 6, 2) := by decide +kernel
theorem dX4_passRowsOn_17 : decode cX4_passRowsOn 17 = .ok (.if_icmp .ge 41, 3) := by decide +kernel
theorem dX4_passRowsOn_20 : decode cX4_passRowsOn 20 = .ok (.aload_n 0, 1) := by decide +kernel
theorem dX4_passRowsOn_21 : decode cX4_passRowsOn 21 = .ok (.getfield 21, 3) := by decide +kernel
theorem dX4_passRowsOn_24 : decode cX4_passRowsOn 24 = .ok (.iload_n 1, 1) := by decide +kernel
theorem dX4_passRowsOn_25 : decode cX4_passRowsOn 25 = .ok (.bipush 6, 2) := by decide +kernel
theorem dX4_passRowsOn_27 : decode cX4_passRowsOn 27 = .ok (.imul, 1) := by decide +kernel
theorem dX4_passRowsOn_28 : decode cX4_passRowsOn 28 = .ok (.iload_n 2, 1) := by decide +kernel
theorem dX4_passRowsOn_29 : decode cX4_passRowsOn 29 = .ok (.iadd, 1) := by decide +kernel
theorem dX4_passRowsOn_30 : decode cX4_passRowsOn 30 = .ok (.iaload, 1) := by decide +kernel
theorem dX4_passRowsOn_31 : decode cX4_passRowsOn 31 = .ok (.istore_n 3, 1) := by decide +kernel
theorem dX4_passRowsOn_32 : decode cX4_passRowsOn 32 = .ok (.iload_n 3, 1) := by decide +kernel
theorem dX4_passRowsOn_33 : decode cX4_passRowsOn 33 = .ok (.iconst (-1), 1) := by decide +kernel
theorem dX4_passRowsOn_34 : decode cX4_passRowsOn 34 = .ok (.if_icmp .eq 18, 3) := by decide +kernel
theorem dX4_passRowsOn_37 : decode cX4_passRowsOn 37 = .ok (.aload_n 0, 1) := by decide +kernel
theorem dX4_passRowsOn_38 : decode cX4_passRowsOn 38 = .ok (.getfield 44, 3) := by decide +kernel
theorem dX4_passRowsOn_41 : decode cX4_passRowsOn 41 = .ok (.iload_n 3, 1) := by decide +kernel
theorem dX4_passRowsOn_42 : decode cX4_passRowsOn 42 = .ok (.dup2, 1) := by decide +kernel
theorem dX4_passRowsOn_43 : decode cX4_passRowsOn 43 = .ok (.laload, 1) := by decide +kernel
theorem dX4_passRowsOn_44 : decode cX4_passRowsOn 44 = .ok (.aload_n 0, 1) := by decide +kernel
theorem dX4_passRowsOn_45 : decode cX4_passRowsOn 45 = .ok (.getfield 40, 3) := by decide +kernel
theorem dX4_passRowsOn_48 : decode cX4_passRowsOn 48 = .ok (.iload_n 1, 1) := by decide +kernel
theorem dX4_passRowsOn_49 : decode cX4_passRowsOn 49 = .ok (.laload, 1) := by decide +kernel
theorem dX4_passRowsOn_50 : decode cX4_passRowsOn 50 = .ok (.ladd, 1) := by decide +kernel
theorem dX4_passRowsOn_51 : decode cX4_passRowsOn 51 = .ok (.lastore, 1) := by decide +kernel
theorem dX4_passRowsOn_52 : decode cX4_passRowsOn 52 = .ok (.iinc 2 1, 3) := by decide +kernel
theorem dX4_passRowsOn_55 : decode cX4_passRowsOn 55 = .ok (.goto (-41), 3) := by decide +kernel
theorem dX4_passRowsOn_58 : decode cX4_passRowsOn 58 = .ok (.return_, 1) := by decide +kernel
theorem dJ6_bitCount_0f7a4_0 : decode cJ6_bitCount_0f7a4 0 = .ok (.iload_n 0, 1) := by decide +kernel
theorem dJ6_bitCount_0f7a4_1 : decode cJ6_bitCount_0f7a4 1 = .ok (.iload_n 0, 1) := by decide +kernel
theorem dJ6_bitCount_0f7a4_2 : decode cJ6_bitCount_0f7a4 2 = .ok (.iconst 1, 1) := by decide +kernel
theorem dJ6_bitCount_0f7a4_3 : decode cJ6_bitCount_0f7a4 3 = .ok (.iushr, 1) := by decide +kernel
theorem dJ6_bitCount_0f7a4_4 : decode cJ6_bitCount_0f7a4 4 = .ok (.ldc_w 265, 3) := by decide +kernel
theorem dJ6_bitCount_0f7a4_7 : decode cJ6_bitCount_0f7a4 7 = .ok (.iand, 1) := by decide +kernel
theorem dJ6_bitCount_0f7a4_8 : decode cJ6_bitCount_0f7a4 8 = .ok (.isub, 1) := by decide +kernel
theorem dJ6_bitCount_0f7a4_9 : decode cJ6_bitCount_0f7a4 9 = .ok (.istore_n 0, 1) := by decide +kernel
theorem dJ6_bitCount_0f7a4_10 : decode cJ6_bitCount_0f7a4 10 = .ok (.iload_n 0, 1) := by decide +kernel
theorem dJ6_bitCount_0f7a4_11 : decode cJ6_bitCount_0f7a4 11 = .ok (.ldc_w 266, 3) := by decide +kernel
theorem dJ6_bitCount_0f7a4_14 : decode cJ6_bitCount_0f7a4 14 = .ok (.iand, 1) := by decide +kernel
theorem dJ6_bitCount_0f7a4_15 : decode cJ6_bitCount_0f7a4 15 = .ok (.iload_n 0, 1) := by decide +kernel
theorem dJ6_bitCount_0f7a4_16 : decode cJ6_bitCount_0f7a4 16 = .ok (.iconst 2, 1) := by decide +kernel
theorem dJ6_bitCount_0f7a4_17 : decode cJ6_bitCount_0f7a4 17 = .ok (.iushr, 1) := by decide +kernel
theorem dJ6_bitCount_0f7a4_18 : decode cJ6_bitCount_0f7a4 18 = .ok (.ldc_w 266, 3) := by decide +kernel
theorem dJ6_bitCount_0f7a4_21 : decode cJ6_bitCount_0f7a4 21 = .ok (.iand, 1) := by decide +kernel
theorem dJ6_bitCount_0f7a4_22 : decode cJ6_bitCount_0f7a4 22 = .ok (.iadd, 1) := by decide +kernel
theorem dJ6_bitCount_0f7a4_23 : decode cJ6_bitCount_0f7a4 23 = .ok (.istore_n 0, 1) := by decide +kernel
theorem dJ6_bitCount_0f7a4_24 : decode cJ6_bitCount_0f7a4 24 = .ok (.iload_n 0, 1) := by decide +kernel
theorem dJ6_bitCount_0f7a4_25 : decode cJ6_bitCount_0f7a4 25 = .ok (.iload_n 0, 1) := by decide +kernel
theorem dJ6_bitCount_0f7a4_26 : decode cJ6_bitCount_0f7a4 26 = .ok (.iconst 4, 1) := by decide +kernel
theorem dJ6_bitCount_0f7a4_27 : decode cJ6_bitCount_0f7a4 27 = .ok (.iushr, 1) := by decide +kernel
theorem dJ6_bitCount_0f7a4_28 : decode cJ6_bitCount_0f7a4 28 = .ok (.iadd, 1) := by decide +kernel
theorem dJ6_bitCount_0f7a4_29 : decode cJ6_bitCount_0f7a4 29 = .ok (.ldc_w 267, 3) := by decide +kernel
theorem dJ6_bitCount_0f7a4_32 : decode cJ6_bitCount_0f7a4 32 = .ok (.iand, 1) := by decide +kernel
theorem dJ6_bitCount_0f7a4_33 : decode cJ6_bitCount_0f7a4 33 = .ok (.istore_n 0, 1) := by decide +kernel
theorem dJ6_bitCount_0f7a4_34 : decode cJ6_bitCount_0f7a4 34 = .ok (.iload_n 0, 1) := by decide +kernel
theorem dJ6_bitCount_0f7a4_35 : decode cJ6_bitCount_0f7a4 35 = .ok (.iload_n 0, 1) := by decide +kernel
theorem dJ6_bitCount_0f7a4_36 : decode cJ6_bitCount_0f7a4 36 = .ok (.bipush 8, 2) := by decide +kernel
theorem dJ6_bitCount_0f7a4_38 : decode cJ6_bitCount_0f7a4 38 = .ok (.iushr, 1) := by decide +kernel
theorem dJ6_bitCount_0f7a4_39 : decode cJ6_bitCount_0f7a4 39 = .ok (.iadd, 1) := by decide +kernel
theorem dJ6_bitCount_0f7a4_40 : decode cJ6_bitCount_0f7a4 40 = .ok (.istore_n 0, 1) := by decide +kernel
theorem dJ6_bitCount_0f7a4_41 : decode cJ6_bitCount_0f7a4 41 = .ok (.iload_n 0, 1) := by decide +kernel
theorem dJ6_bitCount_0f7a4_42 : decode cJ6_bitCount_0f7a4 42 = .ok (.iload_n 0, 1) := by decide +kernel
theorem dJ6_bitCount_0f7a4_43 : decode cJ6_bitCount_0f7a4 43 = .ok (.bipush 16, 2) := by decide +kernel
theorem dJ6_bitCount_0f7a4_45 : decode cJ6_bitCount_0f7a4 45 = .ok (.iushr, 1) := by decide +kernel
theorem dJ6_bitCount_0f7a4_46 : decode cJ6_bitCount_0f7a4 46 = .ok (.iadd, 1) := by decide +kernel
theorem dJ6_bitCount_0f7a4_47 : decode cJ6_bitCount_0f7a4 47 = .ok (.istore_n 0, 1) := by decide +kernel
theorem dJ6_bitCount_0f7a4_48 : decode cJ6_bitCount_0f7a4 48 = .ok (.iload_n 0, 1) := by decide +kernel
theorem dJ6_bitCount_0f7a4_49 : decode cJ6_bitCount_0f7a4 49 = .ok (.bipush 63, 2) := by decide +kernel
theorem dJ6_bitCount_0f7a4_51 : decode cJ6_bitCount_0f7a4 51 = .ok (.iand, 1) := by decide +kernel
theorem dJ6_bitCount_0f7a4_52 : decode cJ6_bitCount_0f7a4 52 = .ok (.ireturn, 1) := by decide +kernel
theorem dJ13_bitCount_95d88_0 : decode cJ13_bitCount_95d88 0 = .ok (.lload_n 0, 1) := by decide +kernel
theorem dJ13_bitCount_95d88_1 : decode cJ13_bitCount_95d88 1 = .ok (.lload_n 0, 1) := by decide +kernel
theorem dJ13_bitCount_95d88_2 : decode cJ13_bitCount_95d88 2 = .ok (.iconst 1, 1) := by decide +kernel
theorem dJ13_bitCount_95d88_3 : decode cJ13_bitCount_95d88 3 = .ok (.lushr, 1) := by decide +kernel
theorem dJ13_bitCount_95d88_4 : decode cJ13_bitCount_95d88 4 = .ok (.ldc2_w 314, 3) := by decide +kernel
theorem dJ13_bitCount_95d88_7 : decode cJ13_bitCount_95d88 7 = .ok (.land, 1) := by decide +kernel
theorem dJ13_bitCount_95d88_8 : decode cJ13_bitCount_95d88 8 = .ok (.lsub, 1) := by decide +kernel
theorem dJ13_bitCount_95d88_9 : decode cJ13_bitCount_95d88 9 = .ok (.lstore_n 0, 1) := by decide +kernel
theorem dJ13_bitCount_95d88_10 : decode cJ13_bitCount_95d88 10 = .ok (.lload_n 0, 1) := by decide +kernel
theorem dJ13_bitCount_95d88_11 : decode cJ13_bitCount_95d88 11 = .ok (.ldc2_w 316, 3) := by decide +kernel
theorem dJ13_bitCount_95d88_14 : decode cJ13_bitCount_95d88 14 = .ok (.land, 1) := by decide +kernel
theorem dJ13_bitCount_95d88_15 : decode cJ13_bitCount_95d88 15 = .ok (.lload_n 0, 1) := by decide +kernel
theorem dJ13_bitCount_95d88_16 : decode cJ13_bitCount_95d88 16 = .ok (.iconst 2, 1) := by decide +kernel
theorem dJ13_bitCount_95d88_17 : decode cJ13_bitCount_95d88 17 = .ok (.lushr, 1) := by decide +kernel
theorem dJ13_bitCount_95d88_18 : decode cJ13_bitCount_95d88 18 = .ok (.ldc2_w 316, 3) := by decide +kernel
theorem dJ13_bitCount_95d88_21 : decode cJ13_bitCount_95d88 21 = .ok (.land, 1) := by decide +kernel
theorem dJ13_bitCount_95d88_22 : decode cJ13_bitCount_95d88 22 = .ok (.ladd, 1) := by decide +kernel
theorem dJ13_bitCount_95d88_23 : decode cJ13_bitCount_95d88 23 = .ok (.lstore_n 0, 1) := by decide +kernel
theorem dJ13_bitCount_95d88_24 : decode cJ13_bitCount_95d88 24 = .ok (.lload_n 0, 1) := by decide +kernel
theorem dJ13_bitCount_95d88_25 : decode cJ13_bitCount_95d88 25 = .ok (.lload_n 0, 1) := by decide +kernel
theorem dJ13_bitCount_95d88_26 : decode cJ13_bitCount_95d88 26 = .ok (.iconst 4, 1) := by decide +kernel
theorem dJ13_bitCount_95d88_27 : decode cJ13_bitCount_95d88 27 = .ok (.lushr, 1) := by decide +kernel
theorem dJ13_bitCount_95d88_28 : decode cJ13_bitCount_95d88 28 = .ok (.ladd, 1) := by decide +kernel
theorem dJ13_bitCount_95d88_29 : decode cJ13_bitCount_95d88 29 = .ok (.ldc2_w 318, 3) := by decide +kernel
theorem dJ13_bitCount_95d88_32 : decode cJ13_bitCount_95d88 32 = .ok (.land, 1) := by decide +kernel
theorem dJ13_bitCount_95d88_33 : decode cJ13_bitCount_95d88 33 = .ok (.lstore_n 0, 1) := by decide +kernel
theorem dJ13_bitCount_95d88_34 : decode cJ13_bitCount_95d88 34 = .ok (.lload_n 0, 1) := by decide +kernel
theorem dJ13_bitCount_95d88_35 : decode cJ13_bitCount_95d88 35 = .ok (.lload_n 0, 1) := by decide +kernel
theorem dJ13_bitCount_95d88_36 : decode cJ13_bitCount_95d88 36 = .ok (.bipush 8, 2) := by decide +kernel
theorem dJ13_bitCount_95d88_38 : decode cJ13_bitCount_95d88 38 = .ok (.lushr, 1) := by decide +kernel
theorem dJ13_bitCount_95d88_39 : decode cJ13_bitCount_95d88 39 = .ok (.ladd, 1) := by decide +kernel
theorem dJ13_bitCount_95d88_40 : decode cJ13_bitCount_95d88 40 = .ok (.lstore_n 0, 1) := by decide +kernel
theorem dJ13_bitCount_95d88_41 : decode cJ13_bitCount_95d88 41 = .ok (.lload_n 0, 1) := by decide +kernel
theorem dJ13_bitCount_95d88_42 : decode cJ13_bitCount_95d88 42 = .ok (.lload_n 0, 1) := by decide +kernel
theorem dJ13_bitCount_95d88_43 : decode cJ13_bitCount_95d88 43 = .ok (.bipush 16, 2) := by decide +kernel
theorem dJ13_bitCount_95d88_45 : decode cJ13_bitCount_95d88 45 = .ok (.lushr, 1) := by decide +kernel
theorem dJ13_bitCount_95d88_46 : decode cJ13_bitCount_95d88 46 = .ok (.ladd, 1) := by decide +kernel
theorem dJ13_bitCount_95d88_47 : decode cJ13_bitCount_95d88 47 = .ok (.lstore_n 0, 1) := by decide +kernel
theorem dJ13_bitCount_95d88_48 : decode cJ13_bitCount_95d88 48 = .ok (.lload_n 0, 1) := by decide +kernel
theorem dJ13_bitCount_95d88_49 : decode cJ13_bitCount_95d88 49 = .ok (.lload_n 0, 1) := by decide +kernel
theorem dJ13_bitCount_95d88_50 : decode cJ13_bitCount_95d88 50 = .ok (.bipush 32, 2) := by decide +kernel
theorem dJ13_bitCount_95d88_52 : decode cJ13_bitCount_95d88 52 = .ok (.lushr, 1) := by decide +kernel
theorem dJ13_bitCount_95d88_53 : decode cJ13_bitCount_95d88 53 = .ok (.ladd, 1) := by decide +kernel
theorem dJ13_bitCount_95d88_54 : decode cJ13_bitCount_95d88 54 = .ok (.lstore_n 0, 1) := by decide +kernel
theorem dJ13_bitCount_95d88_55 : decode cJ13_bitCount_95d88 55 = .ok (.lload_n 0, 1) := by decide +kernel
theorem dJ13_bitCount_95d88_56 : decode cJ13_bitCount_95d88 56 = .ok (.l2i, 1) := by decide +kernel
theorem dJ13_bitCount_95d88_57 : decode cJ13_bitCount_95d88 57 = .ok (.bipush 127, 2) := by decide +kernel
theorem dJ13_bitCount_95d88_59 : decode cJ13_bitCount_95d88 59 = .ok (.iand, 1) := by decide +kernel
theorem dJ13_bitCount_95d88_60 : decode cJ13_bitCount_95d88 60 = .ok (.ireturn, 1) := by decide +kernel
theorem dJ9_max_7cf53_0 : decode cJ9_max_7cf53 0 = .ok (.iload_n 0, 1) := by decide +kernel
theorem dJ9_max_7cf53_1 : decode cJ9_max_7cf53 1 = .ok (.iload_n 1, 1) := by decide +kernel
theorem dJ9_max_7cf53_2 : decode cJ9_max_7cf53 2 = .ok (.if_icmp .lt 7, 3) := by decide +kernel
theorem dJ9_max_7cf53_5 : decode cJ9_max_7cf53 5 = .ok (.iload_n 0, 1) := by decide +kernel
theorem dJ9_max_7cf53_6 : decode cJ9_max_7cf53 6 = .ok (.goto 4, 3) := by decide +kernel
theorem dJ9_max_7cf53_9 : decode cJ9_max_7cf53 9 = .ok (.iload_n 1, 1) := by decide +kernel
theorem dJ9_max_7cf53_10 : decode cJ9_max_7cf53 10 = .ok (.ireturn, 1) := by decide +kernel
theorem dJ9_min_7cf53_0 : decode cJ9_min_7cf53 0 = .ok (.iload_n 0, 1) := by decide +kernel
theorem dJ9_min_7cf53_1 : decode cJ9_min_7cf53 1 = .ok (.iload_n 1, 1) := by decide +kernel
theorem dJ9_min_7cf53_2 : decode cJ9_min_7cf53 2 = .ok (.if_icmp .gt 7, 3) := by decide +kernel
theorem dJ9_min_7cf53_5 : decode cJ9_min_7cf53 5 = .ok (.iload_n 0, 1) := by decide +kernel
theorem dJ9_min_7cf53_6 : decode cJ9_min_7cf53 6 = .ok (.goto 4, 3) := by decide +kernel
theorem dJ9_min_7cf53_9 : decode cJ9_min_7cf53 9 = .ok (.iload_n 1, 1) := by decide +kernel
theorem dJ9_min_7cf53_10 : decode cJ9_min_7cf53 10 = .ok (.ireturn, 1) := by decide +kernel
