theorem dX5_init_0 : decode cX5_init 0 = .ok (.aload_n 0, 1) := by decide +kernel
theorem dX5_init_1 : decode cX5_init 1 = .ok (.invokespecial 3, 3) := by decide +kernel
theorem dX5_init_4 : decode cX5_init 4 = .ok (.aload_n 0, 1) := by decide +kernel
theorem dX5_init_5 : decode cX5_init 5 = .ok (.new 9, 3) := by decide +kernel
theorem dX5_init_8 : decode cX5_init 8 = .ok (.dup, 1) := by decide +kernel
theorem dX5_init_9 : decode cX5_init 9 = .ok (.invokespecial 11, 3) := by decide +kernel
theorem dX5_init_12 : decode cX5_init 12 = .ok (.putfield 12, 3) := by decide +kernel
theorem dX5_init_15 : decode cX5_init 15 = .ok (.aload_n 0, 1) := by decide +kernel
theorem dX5_init_16 : decode cX5_init 16 = .ok (.new 16, 3) := by decide +kernel
theorem dX5_init_19 : decode cX5_init 19 = .ok (.dup, 1) := by decide +kernel
theorem dX5_init_20 : decode cX5_init 20 = .ok (.invokespecial 18, 3) := by decide +kernel
theorem dX5_init_23 : decode cX5_init 23 = .ok (.putfield 19, 3) := by decide +kernel
theorem dX5_init_26 : decode cX5_init 26 = .ok (.aload_n 0, 1) := by decide +kernel
theorem dX5_init_27 : decode cX5_init 27 = .ok (.new 16, 3) := by decide +kernel
theorem dX5_init_30 : decode cX5_init 30 = .ok (.dup, 1) := by decide +kernel
theorem dX5_init_31 : decode cX5_init 31 = .ok (.invokespecial 18, 3) := by decide +kernel
theorem dX5_init_34 : decode cX5_init 34 = .ok (.putfield 23, 3) := by decide +kernel
theorem dX5_init_37 : decode cX5_init 37 = .ok (.aload_n 0, 1) := by decide +kernel
theorem dX5_init_38 : decode cX5_init 38 = .ok (.new 16, 3) := by decide +kernel
theorem dX5_init_41 : decode cX5_init 41 = .ok (.dup, 1) := by decide +kernel
theorem dX5_init_42 : decode cX5_init 42 = .ok (.invokespecial 18, 3) := by decide +kernel
theorem dX5_init_45 : decode cX5_init 45 = .ok (.putfield 26, 3) := by decide +kernel
theorem dX5_init_48 : decode cX5_init 48 = .ok (.aload_n 0, 1) := by decide +kernel
theorem dX5_init_49 : decode cX5_init 49 = .ok (.new 29, 3) := by decide +kernel
theorem dX5_init_52 : decode cX5_init 52 = .ok (.dup, 1) := by decide +kernel
theorem dX5_init_53 : decode cX5_init 53 = .ok (.invokespecial 31, 3) := by decide +kernel
theorem dX5_init_56 : decode cX5_init 56 = .ok (.putfield 32, 3) := by decide +kernel
theorem dX5_init_59 : decode cX5_init 59 = .ok (.aload_n 0, 1) := by decide +kernel
theorem dX5_init_60 : decode cX5_init 60 = .ok (.bipush 20, 2) := by decide +kernel
theorem dX5_init_62 : decode cX5_init 62 = .ok (.newarray .int, 2) := by decide +kernel
theorem dX5_init_64 : decode cX5_init 64 = .ok (.putfield 36, 3) := by decide +kernel
theorem dX5_init_67 : decode cX5_init 67 = .ok (.aload_n 0, 1) := by decide +kernel
theorem dX5_init_68 : decode cX5_init 68 = .ok (.bipush 20, 2) := by decide +kernel
theorem dX5_init_70 : decode cX5_init 70 = .ok (.newarray .int, 2) := by decide +kernel
theorem dX5_init_72 : decode cX5_init 72 = .ok (.putfield 40, 3) := by decide +kernel
theorem dX5_init_75 : decode cX5_init 75 = .ok (.aload_n 0, 1) := by decide +kernel
theorem dX5_init_76 : decode cX5_init 76 = .ok (.iconst 4, 1) := by decide +kernel
theorem dX5_init_77 : decode cX5_init 77 = .ok (.anewarray 43, 3) := by decide +kernel
theorem dX5_init_80 : decode cX5_init 80 = .ok (.putfield 45, 3) := by decide +kernel
theorem dX5_init_83 : decode cX5_init 83 = .ok (.aload_n 0, 1) := by decide +kernel
theorem dX5_init_84 : decode cX5_init 84 = .ok (.bipush 30, 2) := by decide +kernel
theorem dX5_init_86 : decode cX5_init 86 = .ok (.newarray .int, 2) := by decide +kernel
theorem dX5_init_88 : decode cX5_init 88 = .ok (.putfield 49, 3) := by decide +kernel
theorem dX5_init_91 : decode cX5_init 91 = .ok (.aload_n 0, 1) := by decide +kernel
theorem dX5_init_92 : decode cX5_init 92 = .ok (.iconst (-1), 1) := by decide +kernel
theorem dX5_init_93 : decode cX5_init 93 = .ok (.putfield 52, 3) := by decide +kernel
theorem dX5_init_96 : decode cX5_init 96 = .ok (.iconst 0, 1) := by decide +kernel
theorem dX5_init_97 : decode cX5_init 97 = .ok (.istore_n 1, 1) := by decide +kernel
theorem dX5_init_98 : decode cX5_init 98 = .ok (.iload_n 1, 1) := by decide +kernel
theorem dX5_init_99 : decode cX5_init 99 = .ok (.iconst 4, 1) := by decide +kernel
theorem dX5_init_100 : decode cX5_init 100 = .ok (.if_icmp .ge 22, 3) := by decide +kernel
theorem dX5_init_103 : decode cX5_init 103 = .ok (.aload_n 0, 1) := by decide +kernel
theorem dX5_init_104 : decode cX5_init 104 = .ok (.getfield 45, 3) := by decide +kernel
theorem dX5_init_107 : decode cX5_init 107 = .ok (.iload_n 1, 1) := by decide +kernel
theorem dX5_init_108 : decode cX5_init 108 = .ok (.new 43, 3) := by decide +kernel
theorem dX5_init_111 : decode cX5_init 111 = .ok (.dup, 1) := by decide +kernel
theorem dX5_init_112 : decode cX5_init 112 = .ok (.invokespecial 56, 3) := by decide +kernel
theorem dX5_init_115 : decode cX5_init 115 = .ok (.aastore, 1) := by decide +kernel
theorem dX5_init_116 : decode cX5_init 116 = .ok (.iinc 1 1, 3) := by decide +kernel
theorem dX5_init_119 : decode cX5_init 119 = .ok (.goto (-21), 3) := by decide +kernel
theorem dX5_init_122 : decode cX5_init 122 = .ok (.return_, 1) := by decide +kernel
theorem dX5_feed_0 : decode cX5_feed 0 = .ok (.iload_n 3, 1) := by decide +kernel
theorem dX5_feed_1 : decode cX5_feed 1 = .ok (.iconst 1, 1) := by decide +kernel
theorem dX5_feed_2 : decode cX5_feed 2 = .ok (.if_icmp .lt 23, 3) := by decide +kernel
theorem dX5_feed_5 : decode cX5_feed 5 = .ok (.iload_n 3, 1) := by decide +kernel
theorem dX5_feed_6 : decode cX5_feed 6 = .ok (.bipush 8, 2) := by decide +kernel
theorem dX5_feed_8 : decode cX5_feed 8 = .ok (.if_icmp .gt 17, 3) := by decide +kernel
theorem dX5_feed_11 : decode cX5_feed 11 = .ok (.aload_n 0, 1) := by decide +kernel
theorem dX5_feed_12 : decode cX5_feed 12 = .ok (.getfield 12, 3) := by decide +kernel
theorem dX5_feed_15 : decode cX5_feed 15 = .ok (.getfield 57, 3) := by decide +kernel
theorem dX5_feed_18 : decode cX5_feed 18 = .ok (.iload_n 3, 1) := by decide +kernel
theorem dX5_feed_19 : decode cX5_feed 19 = .ok (.iadd, 1) := by decide +kernel
theorem dX5_feed_20 : decode cX5_feed 20 = .ok (.bipush 100, 2) := by decide +kernel
theorem dX5_feed_22 : decode cX5_feed 22 = .ok (.if_icmp .le 7, 3) := by decide +kernel
theorem dX5_feed_25 : decode cX5_feed 25 = .ok (.sipush (-1002), 3) := by decide +kernel
theorem dX5_feed_28 : decode cX5_feed 28 = .ok (.ireturn, 1) := by decide +kernel
theorem dX5_feed_29 : decode cX5_feed 29 = .ok (.iconst 0, 1) := by decide +kernel
theorem dX5_feed_30 : decode cX5_feed 30 = .ok (.istore 4, 2) := by decide +kernel
theorem dX5_feed_32 : decode cX5_feed 32 = .ok (.iload 4, 2) := by decide +kernel
theorem dX5_feed_34 : decode cX5_feed 34 = .ok (.iload_n 3, 1) := by decide +kernel
theorem dX5_feed_35 : decode cX5_feed 35 = .ok (.if_icmp .ge 25, 3) := by decide +kernel
theorem dX5_feed_38 : decode cX5_feed 38 = .ok (.aload_n 0, 1) := by decide +kernel
theorem dX5_feed_39 : decode cX5_feed 39 = .ok (.getfield 12, 3) := by decide +kernel
theorem dX5_feed_42 : decode cX5_feed 42 = .ok (.lload_n 1, 1) := by decide +kernel
theorem dX5_feed_43 : decode cX5_feed 43 = .ok (.bipush 8, 2) := by decide +kernel
theorem dX5_feed_45 : decode cX5_feed 45 = .ok (.iload 4, 2) := by decide +kernel
theorem dX5_feed_47 : decode cX5_feed 47 = .ok (.imul, 1) := by decide +kernel
theorem dX5_feed_48 : decode cX5_feed 48 = .ok (.lushr, 1) := by decide +kernel
theorem dX5_feed_49 : decode cX5_feed 49 = .ok (.l2i, 1) := by decide +kernel
theorem dX5_feed_50 : decode cX5_feed 50 = .ok (.i2b, 1) := by decide +kernel
theorem dX5_feed_51 : decode cX5_feed 51 = .ok (.invokevirtual 60, 3) := by decide +kernel
theorem dX5_feed_54 : decode cX5_feed 54 = .ok (.iinc 4 1, 3) := by decide +kernel
theorem dX5_feed_57 : decode cX5_feed 57 = .ok (.goto (-25), 3) := by decide +kernel
theorem dX5_feed_60 : decode cX5_feed 60 = .ok (.aload_n 0, 1) := by decide +kernel
theorem dX5_feed_61 : decode cX5_feed 61 = .ok (.getfield 12, 3) := by decide +kernel
theorem dX5_feed_64 : decode cX5_feed 64 = .ok (.getfield 57, 3) := by decide +kernel
theorem dX5_feed_67 : decode cX5_feed 67 = .ok (.ireturn, 1) := by decide +kernel
theorem dX5_scene_0 : decode cX5_scene 0 = .ok (.iload_n 1, 1) := by decide +kernel
theorem dX5_scene_1 : decode cX5_scene 1 = .ok (.invokestatic 64, 3) := by decide +kernel
theorem dX5_scene_4 : decode cX5_scene 4 = .ok (.ifCond .eq 17, 3) := by decide +kernel
theorem dX5_scene_7 : decode cX5_scene 7 = .ok (.iload_n 2, 1) := by decide +kernel
theorem dX5_scene_8 : decode cX5_scene 8 = .ok (.iconst (-1), 1) := by decide +kernel
theorem dX5_scene_9 : decode cX5_scene 9 = .ok (.if_icmp .lt 12, 3) := by decide +kernel
theorem dX5_scene_12 : decode cX5_scene 12 = .ok (.iload_n 2, 1) := by decide +kernel
theorem dX5_scene_13 : decode cX5_scene 13 = .ok (.iconst 4, 1) := by decide +kernel
theorem dX5_scene_14 : decode cX5_scene 14 = .ok (.if_icmp .gt 7, 3) := by decide +kernel
theorem dX5_scene_17 : decode cX5_scene 17 = .ok (.iconst 1, 1) := by decide +kernel
theorem dX5_scene_18 : decode cX5_scene 18 = .ok (.goto 4, 3) := by decide +kernel
theorem dX5_scene_21 : decode cX5_scene 21 = .ok (.iconst 0, 1) := by decide +kernel
theorem dX5_scene_22 : decode cX5_scene 22 = .ok (.istore_n 3, 1) := by decide +kernel
theorem dX5_scene_23 : decode cX5_scene 23 = .ok (.iload_n 3, 1) := by decide +kernel
theorem dX5_scene_24 : decode cX5_scene 24 = .ok (.ifCond .eq 12, 3) := by decide +kernel
theorem dX5_scene_27 : decode cX5_scene 27 = .ok (.aload_n 0, 1) := by decide +kernel
theorem dX5_scene_28 : decode cX5_scene 28 = .ok (.iload_n 1, 1) := by decide +kernel
theorem dX5_scene_29 : decode cX5_scene 29 = .ok (.iload_n 2, 1) := by decide +kernel
theorem dX5_scene_30 : decode cX5_scene 30 = .ok (.invokevirtual 68, 3) := by decide +kernel
theorem dX5_scene_33 : decode cX5_scene 33 = .ok (.goto 6, 3) := by decide +kernel
theorem dX5_scene_36 : decode cX5_scene 36 = .ok (.sipush (-1002), 3) := by decide +kernel
theorem dX5_scene_39 : decode cX5_scene 39 = .ok (.istore 4, 2) := by decide +kernel
theorem dX5_scene_41 : decode cX5_scene 41 = .ok (.aload_n 0, 1) := by decide +kernel
theorem dX5_scene_42 : decode cX5_scene 42 = .ok (.getfield 12, 3) := by decide +kernel
theorem dX5_scene_45 : decode cX5_scene 45 = .ok (.iconst 0, 1) := by decide +kernel
theorem dX5_scene_46 : decode cX5_scene 46 = .ok (.putfield 57, 3) := by decide +kernel
theorem dX5_scene_49 : decode cX5_scene 49 = .ok (.iload 4, 2) := by decide +kernel
theorem dX5_scene_51 : decode cX5_scene 51 = .ok (.ireturn, 1) := by decide +kernel
theorem dX5_putScene_0 : decode cX5_putScene 0 = .ok (.iload_n 2, 1) := by decide +kernel
theorem dX5_putScene_1 : decode cX5_putScene 1 = .ok (.iconst 1, 1) := by decide +kernel
theorem dX5_putScene_2 : decode cX5_putScene 2 = .ok (.if_icmp .eq 13, 3) := by decide +kernel
theorem dX5_putScene_5 : decode cX5_putScene 5 = .ok (.iload_n 2, 1) := by decide +kernel
theorem dX5_putScene_6 : decode cX5_putScene 6 = .ok (.iconst 2, 1) := by decide +kernel
theorem dX5_putScene_7 : decode cX5_putScene 7 = .ok (.if_icmp .eq 8, 3) := by decide +kernel
theorem dX5_putScene_10 : decode cX5_putScene 10 = .ok (.iload_n 2, 1) := by decide +kernel
theorem dX5_putScene_11 : decode cX5_putScene 11 = .ok (.iconst 4, 1) := by decide +kernel
theorem dX5_putScene_12 : decode cX5_putScene 12 = .ok (.if_icmp .ne 7, 3) := by decide +kernel
theorem dX5_putScene_15 : decode cX5_putScene 15 = .ok (.iconst 1, 1) := by decide +kernel
theorem dX5_putScene_16 : decode cX5_putScene 16 = .ok (.goto 4, 3) := by decide +kernel
theorem dX5_putScene_19 : decode cX5_putScene 19 = .ok (.iconst 0, 1) := by decide +kernel
theorem dX5_putScene_20 : decode cX5_putScene 20 = .ok (.istore_n 3, 1) := by decide +kernel
theorem dX5_putScene_21 : decode cX5_putScene 21 = .ok (.iload_n 3, 1) := by decide +kernel
theorem dX5_putScene_22 : decode cX5_putScene 22 = .ok (.ifCond .eq 13, 3) := by decide +kernel
theorem dX5_putScene_25 : decode cX5_putScene 25 = .ok (.aload_n 0, 1) := by decide +kernel
theorem dX5_putScene_26 : decode cX5_putScene 26 = .ok (.getfield 12, 3) := by decide +kernel
theorem dX5_putScene_29 : decode cX5_putScene 29 = .ok (.invokevirtual 72, 3) := by decide +kernel
theorem dX5_putScene_32 : decode cX5_putScene 32 = .ok (.goto 4, 3) := by decide +kernel
theorem dX5_putScene_35 : decode cX5_putScene 35 = .ok (.iconst (-1), 1) := by decide +kernel
theorem dX5_putScene_36 : decode cX5_putScene 36 = .ok (.istore 4, 2) := by decide +kernel
theorem dX5_putScene_38 : decode cX5_putScene 38 = .ok (.iload 4, 2) := by decide +kernel
theorem dX5_putScene_40 : decode cX5_putScene 40 = .ok (.iconst (-1), 1) := by decide +kernel
theorem dX5_putScene_41 : decode cX5_putScene 41 = .ok (.if_icmp .eq 10, 3) := by decide +kernel
theorem dX5_putScene_44 : decode cX5_putScene 44 = .ok (.sipush (-1100), 3) := by decide +kernel
theorem dX5_putScene_47 : decode cX5_putScene 47 = .ok (.iload 4, 2) := by decide +kernel
theorem dX5_putScene_49 : decode cX5_putScene 49 = .ok (.isub, 1) := by decide +kernel
theorem dX5_putScene_50 : decode cX5_putScene 50 = .ok (.ireturn, 1) := by decide +kernel
theorem dX5_putScene_51 : decode cX5_putScene 51 = .ok (.aload_n 0, 1) := by decide +kernel
theorem dX5_putScene_52 : decode cX5_putScene 52 = .ok (.getfield 19, 3) := by decide +kernel
theorem dX5_putScene_55 : decode cX5_putScene 55 = .ok (.iload_n 1, 1) := by decide +kernel
theorem dX5_putScene_56 : decode cX5_putScene 56 = .ok (.invokevirtual 76, 3) := by decide +kernel
theorem dX5_putScene_59 : decode cX5_putScene 59 = .ok (.astore 5, 2) := by decide +kernel
theorem dX5_putScene_61 : decode cX5_putScene 61 = .ok (.aload 5, 2) := by decide +kernel
theorem dX5_putScene_63 : decode cX5_putScene 63 = .ok (.getfield 80, 3) := by decide +kernel
theorem dX5_putScene_66 : decode cX5_putScene 66 = .ok (.istore 6, 2) := by decide +kernel
theorem dX5_putScene_68 : decode cX5_putScene 68 = .ok (.aload 5, 2) := by decide +kernel
theorem dX5_putScene_70 : decode cX5_putScene 70 = .ok (.iload_n 2, 1) := by decide +kernel
theorem dX5_putScene_71 : decode cX5_putScene 71 = .ok (.invokevirtual 85, 3) := by decide +kernel
theorem dX5_putScene_74 : decode cX5_putScene 74 = .ok (.iload_n 3, 1) := by decide +kernel
theorem dX5_putScene_75 : decode cX5_putScene 75 = .ok (.ifCond .eq 15, 3) := by decide +kernel
theorem dX5_putScene_78 : decode cX5_putScene 78 = .ok (.aload 5, 2) := by decide +kernel
theorem dX5_putScene_80 : decode cX5_putScene 80 = .ok (.aload_n 0, 1) := by decide +kernel
theorem dX5_putScene_81 : decode cX5_putScene 81 = .ok (.getfield 12, 3) := by decide +kernel
theorem dX5_putScene_84 : decode cX5_putScene 84 = .ok (.getfield 89, 3) := by decide +kernel
theorem dX5_putScene_87 : decode cX5_putScene 87 = .ok (.invokevirtual 93, 3) := by decide +kernel
theorem dX5_putScene_90 : decode cX5_putScene 90 = .ok (.iload_n 2, 1) := by decide +kernel
theorem dX5_putScene_91 : decode cX5_putScene 91 = .ok (.iconst (-1), 1) := by decide +kernel
theorem dX5_putScene_92 : decode cX5_putScene 92 = .ok (.if_icmp .ne 11, 3) := by decide +kernel
theorem dX5_putScene_95 : decode cX5_putScene 95 = .ok (.aload_n 0, 1) := by decide +kernel
theorem dX5_putScene_96 : decode cX5_putScene 96 = .ok (.getfield 19, 3) := by decide +kernel
theorem dX5_putScene_99 : decode cX5_putScene 99 = .ok (.iload_n 1, 1) := by decide +kernel
theorem dX5_putScene_100 : decode cX5_putScene 100 = .ok (.invokevirtual 97, 3) := by decide +kernel
theorem dX5_putScene_103 : decode cX5_putScene 103 = .ok (.aload_n 0, 1) := by decide +kernel
theorem dX5_putScene_104 : decode cX5_putScene 104 = .ok (.iconst 0, 1) := by decide +kernel
theorem dX5_putScene_105 : decode cX5_putScene 105 = .ok (.putfield 100, 3) := by decide +kernel
theorem dX5_putScene_108 : decode cX5_putScene 108 = .ok (.iload 6, 2) := by decide +kernel
theorem dX5_putScene_110 : decode cX5_putScene 110 = .ok (.ireturn, 1) := by decide +kernel
theorem dX5_loss_0 : decode cX5_loss 0 = .ok (.iload_n 1, 1) := by decide +kernel
theorem dX5_loss_1 : decode cX5_loss 1 = .ok (.invokestatic 64, 3) := by decide +kernel
theorem dX5_loss_4 : decode cX5_loss 4 = .ok (.ifCond .eq 10, 3) := by decide +kernel
theorem dX5_loss_7 : decode cX5_loss 7 = .ok (.iload_n 2, 1) := by decide +kernel
theorem dX5_loss_8 : decode cX5_loss 8 = .ok (.invokestatic 104, 3) := by decide +kernel
theorem dX5_loss_11 : decode cX5_loss 11 = .ok (.ifCond .ne 7, 3) := by decide +kernel
theorem dX5_loss_14 : decode cX5_loss 14 = .ok (.sipush (-1002), 3) := by decide +kernel
theorem dX5_loss_17 : decode cX5_loss 17 = .ok (.ireturn, 1) := by decide +kernel
theorem dX5_loss_18 : decode cX5_loss 18 = .ok (.aload_n 0, 1) := by decide +kernel
theorem dX5_loss_19 : decode cX5_loss 19 = .ok (.getfield 19, 3) := by decide +kernel
theorem dX5_loss_22 : decode cX5_loss 22 = .ok (.iload_n 1, 1) := by decide +kernel
theorem dX5_loss_23 : decode cX5_loss 23 = .ok (.invokevirtual 76, 3) := by decide +kernel
theorem dX5_loss_26 : decode cX5_loss 26 = .ok (.astore_n 3, 1) := by decide +kernel
theorem dX5_loss_27 : decode cX5_loss 27 = .ok (.aload_n 3, 1) := by decide +kernel
theorem dX5_loss_28 : decode cX5_loss 28 = .ok (.invokevirtual 107, 3) := by decide +kernel
theorem dX5_loss_31 : decode cX5_loss 31 = .ok (.ifCond .ne 11, 3) := by decide +kernel
theorem dX5_loss_34 : decode cX5_loss 34 = .ok (.aload_n 0, 1) := by decide +kernel
theorem dX5_loss_35 : decode cX5_loss 35 = .ok (.sipush (-1010), 3) := by decide +kernel
theorem dX5_loss_38 : decode cX5_loss 38 = .ok (.invokevirtual 111, 3) := by decide +kernel
theorem dX5_loss_41 : decode cX5_loss 41 = .ok (.ireturn, 1) := by decide +kernel
theorem dX5_loss_42 : decode cX5_loss 42 = .ok (.aload_n 3, 1) := by decide +kernel
theorem dX5_loss_43 : decode cX5_loss 43 = .ok (.getfield 80, 3) := by decide +kernel
theorem dX5_loss_46 : decode cX5_loss 46 = .ok (.iconst 2, 1) := by decide +kernel
theorem dX5_loss_47 : decode cX5_loss 47 = .ok (.if_icmp .eq 11, 3) := by decide +kernel
theorem dX5_loss_50 : decode cX5_loss 50 = .ok (.aload_n 0, 1) := by decide +kernel
theorem dX5_loss_51 : decode cX5_loss 51 = .ok (.sipush (-1012), 3) := by decide +kernel
theorem dX5_loss_54 : decode cX5_loss 54 = .ok (.invokevirtual 111, 3) := by decide +kernel
theorem dX5_loss_57 : decode cX5_loss 57 = .ok (.ireturn, 1) := by decide +kernel
theorem dX5_loss_58 : decode cX5_loss 58 = .ok (.aload_n 3, 1) := by decide +kernel
theorem dX5_loss_59 : decode cX5_loss 59 = .ok (.getfield 115, 3) := by decide +kernel
theorem dX5_loss_62 : decode cX5_loss 62 = .ok (.istore 4, 2) := by decide +kernel
theorem dX5_loss_64 : decode cX5_loss 64 = .ok (.aload_n 3, 1) := by decide +kernel
theorem dX5_loss_65 : decode cX5_loss 65 = .ok (.iload_n 2, 1) := by decide +kernel
theorem dX5_loss_66 : decode cX5_loss 66 = .ok (.putfield 115, 3) := by decide +kernel
theorem dX5_loss_69 : decode cX5_loss 69 = .ok (.aload_n 0, 1) := by decide +kernel
theorem dX5_loss_70 : decode cX5_loss 70 = .ok (.iconst 0, 1) := by decide +kernel
theorem dX5_loss_71 : decode cX5_loss 71 = .ok (.putfield 100, 3) := by decide +kernel
theorem dX5_loss_74 : decode cX5_loss 74 = .ok (.iload 4, 2) := by decide +kernel
theorem dX5_loss_76 : decode cX5_loss 76 = .ok (.ireturn, 1) := by decide +kernel
theorem dX5_choice_0 : decode cX5_choice 0 = .ok (.iload_n 1, 1) := by decide +kernel
theorem dX5_choice_1 : decode cX5_choice 1 = .ok (.invokestatic 64, 3) := by decide +kernel
theorem dX5_choice_4 : decode cX5_choice 4 = .ok (.ifCond .eq 21, 3) := by decide +kernel
theorem dX5_choice_7 : decode cX5_choice 7 = .ok (.iload_n 2, 1) := by decide +kernel
theorem dX5_choice_8 : decode cX5_choice 8 = .ok (.invokestatic 118, 3) := by decide +kernel
theorem dX5_choice_11 : decode cX5_choice 11 = .ok (.ifCond .eq 14, 3) := by decide +kernel
theorem dX5_choice_14 : decode cX5_choice 14 = .ok (.iload_n 3, 1) := by decide +kernel
theorem dX5_choice_15 : decode cX5_choice 15 = .ok (.invokestatic 64, 3) := by decide +kernel
theorem dX5_choice_18 : decode cX5_choice 18 = .ok (.ifCond .eq 7, 3) := by decide +kernel
theorem dX5_choice_21 : decode cX5_choice 21 = .ok (.iconst 1, 1) := by decide +kernel
theorem dX5_choice_22 : decode cX5_choice 22 = .ok (.goto 4, 3) := by decide +kernel
theorem dX5_choice_25 : decode cX5_choice 25 = .ok (.iconst 0, 1) := by decide +kernel
theorem dX5_choice_26 : decode cX5_choice 26 = .ok (.istore 4, 2) := by decide +kernel
theorem dX5_choice_28 : decode cX5_choice 28 = .ok (.iload 4, 2) := by decide +kernel
theorem dX5_choice_30 : decode cX5_choice 30 = .ok (.ifCond .eq 13, 3) := by decide +kernel
theorem dX5_choice_33 : decode cX5_choice 33 = .ok (.aload_n 0, 1) := by decide +kernel
theorem dX5_choice_34 : decode cX5_choice 34 = .ok (.iload_n 1, 1) := by decide +kernel
theorem dX5_choice_35 : decode cX5_choice 35 = .ok (.iload_n 2, 1) := by decide +kernel
theorem dX5_choice_36 : decode cX5_choice 36 = .ok (.iload_n 3, 1) := by decide +kernel
theorem dX5_choice_37 : decode cX5_choice 37 = .ok (.invokevirtual 121, 3) := by decide +kernel
theorem dX5_choice_40 : decode cX5_choice 40 = .ok (.goto 6, 3) := by decide +kernel
theorem dX5_choice_43 : decode cX5_choice 43 = .ok (.sipush (-1002), 3) := by decide +kernel
theorem dX5_choice_46 : decode cX5_choice 46 = .ok (.istore 5, 2) := by decide +kernel
theorem dX5_choice_48 : decode cX5_choice 48 = .ok (.aload_n 0, 1) := by decide +kernel
theorem dX5_choice_49 : decode cX5_choice 49 = .ok (.getfield 12, 3) := by decide +kernel
theorem dX5_choice_52 : decode cX5_choice 52 = .ok (.iconst 0, 1) := by decide +kernel
theorem dX5_choice_53 : decode cX5_choice 53 = .ok (.putfield 57, 3) := by decide +kernel
theorem dX5_choice_56 : decode cX5_choice 56 = .ok (.iload 5, 2) := by decide +kernel
theorem dX5_choice_58 : decode cX5_choice 58 = .ok (.ireturn, 1) := by decide +kernel
theorem dX5_putChoice_0 : decode cX5_putChoice 0 = .ok (.aload_n 0, 1) := by decide +kernel
theorem dX5_putChoice_1 : decode cX5_putChoice 1 = .ok (.getfield 19, 3) := by decide +kernel
theorem dX5_putChoice_4 : decode cX5_putChoice 4 = .ok (.iload_n 1, 1) := by decide +kernel
theorem dX5_putChoice_5 : decode cX5_putChoice 5 = .ok (.invokevirtual 76, 3) := by decide +kernel
theorem dX5_putChoice_8 : decode cX5_putChoice 8 = .ok (.invokevirtual 107, 3) := by decide +kernel
theorem dX5_putChoice_11 : decode cX5_putChoice 11 = .ok (.ifCond .ne 11, 3) := by decide +kernel
theorem dX5_putChoice_14 : decode cX5_putChoice 14 = .ok (.aload_n 0, 1) := by decide +kernel
theorem dX5_putChoice_15 : decode cX5_putChoice 15 = .ok (.sipush (-1010), 3) := by decide +kernel
theorem dX5_putChoice_18 : decode cX5_putChoice 18 = .ok (.invokevirtual 111, 3) := by decide +kernel
theorem dX5_putChoice_21 : decode cX5_putChoice 21 = .ok (.ireturn, 1) := by decide +kernel
theorem dX5_putChoice_22 : decode cX5_putChoice 22 = .ok (.aload_n 0, 1) := by decide +kernel
theorem dX5_putChoice_23 : decode cX5_putChoice 23 = .ok (.getfield 12, 3) := by decide +kernel
theorem dX5_putChoice_26 : decode cX5_putChoice 26 = .ok (.invokevirtual 72, 3) := by decide +kernel
theorem dX5_putChoice_29 : decode cX5_putChoice 29 = .ok (.istore 4, 2) := by decide +kernel
theorem dX5_putChoice_31 : decode cX5_putChoice 31 = .ok (.iload 4, 2) := by decide +kernel
theorem dX5_putChoice_33 : decode cX5_putChoice 33 = .ok (.iconst (-1), 1) := by decide +kernel
theorem dX5_putChoice_34 : decode cX5_putChoice 34 = .ok (.if_icmp .eq 10, 3) := by decide +kernel
theorem dX5_putChoice_37 : decode cX5_putChoice 37 = .ok (.sipush (-1100), 3) := by decide +kernel
theorem dX5_putChoice_40 : decode cX5_putChoice 40 = .ok (.iload 4, 2) := by decide +kernel
theorem dX5_putChoice_42 : decode cX5_putChoice 42 = .ok (.isub, 1) := by decide +kernel
theorem dX5_putChoice_43 : decode cX5_putChoice 43 = .ok (.ireturn, 1) := by decide +kernel
theorem dX5_putChoice_44 : decode cX5_putChoice 44 = .ok (.aload_n 0, 1) := by decide +kernel
theorem dX5_putChoice_45 : decode cX5_putChoice 45 = .ok (.getfield 19, 3) := by decide +kernel
theorem dX5_putChoice_48 : decode cX5_putChoice 48 = .ok (.iload_n 1, 1) := by decide +kernel
theorem dX5_putChoice_49 : decode cX5_putChoice 49 = .ok (.iload_n 2, 1) := by decide +kernel
theorem dX5_putChoice_50 : decode cX5_putChoice 50 = .ok (.invokevirtual 125, 3) := by decide +kernel
theorem dX5_putChoice_53 : decode cX5_putChoice 53 = .ok (.astore 5, 2) := by decide +kernel
theorem dX5_putChoice_55 : decode cX5_putChoice 55 = .ok (.aload 5, 2) := by decide +kernel
theorem dX5_putChoice_57 : decode cX5_putChoice 57 = .ok (.invokevirtual 107, 3) := by decide +kernel
theorem dX5_putChoice_60 : decode cX5_putChoice 60 = .ok (.ifCond .eq 7, 3) := by decide +kernel
theorem dX5_putChoice_63 : decode cX5_putChoice 63 = .ok (.iconst 1, 1) := by decide +kernel
theorem dX5_putChoice_64 : decode cX5_putChoice 64 = .ok (.goto 4, 3) := by decide +kernel
theorem dX5_putChoice_67 : decode cX5_putChoice 67 = .ok (.iconst 0, 1) := by decide +kernel
theorem dX5_putChoice_68 : decode cX5_putChoice 68 = .ok (.istore 6, 2) := by decide +kernel
theorem dX5_putChoice_70 : decode cX5_putChoice 70 = .ok (.aload 5, 2) := by decide +kernel
theorem dX5_putChoice_72 : decode cX5_putChoice 72 = .ok (.iload_n 3, 1) := by decide +kernel
theorem dX5_putChoice_73 : decode cX5_putChoice 73 = .ok (.invokevirtual 85, 3) := by decide +kernel
theorem dX5_putChoice_76 : decode cX5_putChoice 76 = .ok (.aload 5, 2) := by decide +kernel
theorem dX5_putChoice_78 : decode cX5_putChoice 78 = .ok (.aload_n 0, 1) := by decide +kernel
theorem dX5_putChoice_79 : decode cX5_putChoice 79 = .ok (.getfield 12, 3) := by decide +kernel
theorem dX5_putChoice_82 : decode cX5_putChoice 82 = .ok (.getfield 89, 3) := by decide +kernel
theorem dX5_putChoice_85 : decode cX5_putChoice 85 = .ok (.invokevirtual 93, 3) := by decide +kernel
theorem dX5_putChoice_88 : decode cX5_putChoice 88 = .ok (.aload_n 0, 1) := by decide +kernel
theorem dX5_putChoice_89 : decode cX5_putChoice 89 = .ok (.iconst 0, 1) := by decide +kernel
theorem dX5_putChoice_90 : decode cX5_putChoice 90 = .ok (.putfield 100, 3) := by decide +kernel
theorem dX5_putChoice_93 : decode cX5_putChoice 93 = .ok (.iload 6, 2) := by decide +kernel
theorem dX5_putChoice_95 : decode cX5_putChoice 95 = .ok (.ireturn, 1) := by decide +kernel
theorem dX5_gives_0 : decode cX5_gives 0 = .ok (.iload_n 1, 1) := by decide +kernel
theorem dX5_gives_1 : decode cX5_gives 1 = .ok (.invokestatic 64, 3) := by decide +kernel
theorem dX5_gives_4 : decode cX5_gives 4 = .ok (.ifCond .eq 32, 3) := by decide +kernel
theorem dX5_gives_7 : decode cX5_gives 7 = .ok (.iload_n 2, 1) := by decide +kernel
theorem dX5_gives_8 : decode cX5_gives 8 = .ok (.invokestatic 118, 3) := by decide +kernel
theorem dX5_gives_11 : decode cX5_gives 11 = .ok (.ifCond .eq 25, 3) := by decide +kernel
theorem dX5_gives_14 : decode cX5_gives 14 = .ok (.iload_n 3, 1) := by decide +kernel
theorem dX5_gives_15 : decode cX5_gives 15 = .ok (.invokestatic 104, 3) := by decide +kernel
theorem dX5_gives_18 : decode cX5_gives 18 = .ok (.ifCond .eq 18, 3) := by decide +kernel
theorem dX5_gives_21 : decode cX5_gives 21 = .ok (.iload 4, 2) := by decide +kernel
theorem dX5_gives_23 : decode cX5_gives 23 = .ok (.invokestatic 104, 3) := by decide +kernel
theorem dX5_gives_26 : decode cX5_gives 26 = .ok (.ifCond .eq 10, 3) := by decide +kernel
theorem dX5_gives_29 : decode cX5_gives 29 = .ok (.iload_n 3, 1) := by decide +kernel
theorem dX5_gives_30 : decode cX5_gives 30 = .ok (.iload 4, 2) := by decide +kernel
theorem dX5_gives_32 : decode cX5_gives 32 = .ok (.iand, 1) := by decide +kernel
theorem dX5_gives_33 : decode cX5_gives 33 = .ok (.ifCond .eq 7, 3) := by decide +kernel
theorem dX5_gives_36 : decode cX5_gives 36 = .ok (.sipush (-1002), 3) := by decide +kernel
theorem dX5_gives_39 : decode cX5_gives 39 = .ok (.ireturn, 1) := by decide +kernel
theorem dX5_gives_40 : decode cX5_gives 40 = .ok (.aload_n 0, 1) := by decide +kernel
theorem dX5_gives_41 : decode cX5_gives 41 = .ok (.getfield 19, 3) := by decide +kernel
theorem dX5_gives_44 : decode cX5_gives 44 = .ok (.iload_n 1, 1) := by decide +kernel
theorem dX5_gives_45 : decode cX5_gives 45 = .ok (.iload_n 2, 1) := by decide +kernel
theorem dX5_gives_46 : decode cX5_gives 46 = .ok (.invokevirtual 125, 3) := by decide +kernel
theorem dX5_gives_49 : decode cX5_gives 49 = .ok (.astore 5, 2) := by decide +kernel
theorem dX5_gives_51 : decode cX5_gives 51 = .ok (.aload 5, 2) := by decide +kernel
theorem dX5_gives_53 : decode cX5_gives 53 = .ok (.invokevirtual 107, 3) := by decide +kernel
theorem dX5_gives_56 : decode cX5_gives 56 = .ok (.ifCond .ne 11, 3) := by decide +kernel
theorem dX5_gives_59 : decode cX5_gives 59 = .ok (.aload_n 0, 1) := by decide +kernel
theorem dX5_gives_60 : decode cX5_gives 60 = .ok (.sipush (-1010), 3) := by decide +kernel
theorem dX5_gives_63 : decode cX5_gives 63 = .ok (.invokevirtual 111, 3) := by decide +kernel
theorem dX5_gives_66 : decode cX5_gives 66 = .ok (.ireturn, 1) := by decide +kernel
theorem dX5_gives_67 : decode cX5_gives 67 = .ok (.aload 5, 2) := by decide +kernel
theorem dX5_gives_69 : decode cX5_gives 69 = .ok (.iload_n 3, 1) := by decide +kernel
theorem dX5_gives_70 : decode cX5_gives 70 = .ok (.putfield 129, 3) := by decide +kernel
theorem dX5_gives_73 : decode cX5_gives 73 = .ok (.aload 5, 2) := by decide +kernel
theorem dX5_gives_75 : decode cX5_gives 75 = .ok (.iload 4, 2) := by decide +kernel
theorem dX5_gives_77 : decode cX5_gives 77 = .ok (.putfield 115, 3) := by decide +kernel
theorem dX5_gives_80 : decode cX5_gives 80 = .ok (.aload_n 0, 1) := by decide +kernel
theorem dX5_gives_81 : decode cX5_gives 81 = .ok (.iconst 0, 1) := by decide +kernel
theorem dX5_gives_82 : decode cX5_gives 82 = .ok (.putfield 100, 3) := by decide +kernel
theorem dX5_gives_85 : decode cX5_gives 85 = .ok (.iconst 1, 1) := by decide +kernel
theorem dX5_gives_86 : decode cX5_gives 86 = .ok (.ireturn, 1) := by decide +kernel
theorem dX5_line_0 : decode cX5_line 0 = .ok (.iload_n 1, 1) := by decide +kernel
theorem dX5_line_1 : decode cX5_line 1 = .ok (.invokestatic 64, 3) := by decide +kernel
theorem dX5_line_4 : decode cX5_line 4 = .ok (.ifCond .eq 28, 3) := by decide +kernel
theorem dX5_line_7 : decode cX5_line 7 = .ok (.iload_n 2, 1) := by decide +kernel
theorem dX5_line_8 : decode cX5_line 8 = .ok (.invokestatic 118, 3) := by decide +kernel
theorem dX5_line_11 : decode cX5_line 11 = .ok (.ifCond .eq 21, 3) := by decide +kernel
theorem dX5_line_14 : decode cX5_line 14 = .ok (.iload_n 3, 1) := by decide +kernel
theorem dX5_line_15 : decode cX5_line 15 = .ok (.ifCond .lt 17, 3) := by decide +kernel
theorem dX5_line_18 : decode cX5_line 18 = .ok (.iload_n 3, 1) := by decide +kernel
theorem dX5_line_19 : decode cX5_line 19 = .ok (.bipush 99, 2) := by decide +kernel
theorem dX5_line_21 : decode cX5_line 21 = .ok (.if_icmp .gt 11, 3) := by decide +kernel
theorem dX5_line_24 : decode cX5_line 24 = .ok (.iload 4, 2) := by decide +kernel
theorem dX5_line_26 : decode cX5_line 26 = .ok (.invokestatic 132, 3) := by decide +kernel
theorem dX5_line_29 : decode cX5_line 29 = .ok (.ifCond .ne 7, 3) := by decide +kernel
theorem dX5_line_32 : decode cX5_line 32 = .ok (.sipush (-1002), 3) := by decide +kernel
theorem dX5_line_35 : decode cX5_line 35 = .ok (.ireturn, 1) := by decide +kernel
theorem dX5_line_36 : decode cX5_line 36 = .ok (.aload_n 0, 1) := by decide +kernel
theorem dX5_line_37 : decode cX5_line 37 = .ok (.getfield 19, 3) := by decide +kernel
theorem dX5_line_40 : decode cX5_line 40 = .ok (.iload_n 1, 1) := by decide +kernel
theorem dX5_line_41 : decode cX5_line 41 = .ok (.iload_n 2, 1) := by decide +kernel
theorem dX5_line_42 : decode cX5_line 42 = .ok (.invokevirtual 125, 3) := by decide +kernel
theorem dX5_line_45 : decode cX5_line 45 = .ok (.astore 5, 2) := by decide +kernel
theorem dX5_line_47 : decode cX5_line 47 = .ok (.aload 5, 2) := by decide +kernel
theorem dX5_line_49 : decode cX5_line 49 = .ok (.invokevirtual 107, 3) := by decide +kernel
theorem dX5_line_52 : decode cX5_line 52 = .ok (.ifCond .ne 11, 3) := by decide +kernel
theorem dX5_line_55 : decode cX5_line 55 = .ok (.aload_n 0, 1) := by decide +kernel
theorem dX5_line_56 : decode cX5_line 56 = .ok (.sipush (-1010), 3) := by decide +kernel
theorem dX5_line_59 : decode cX5_line 59 = .ok (.invokevirtual 111, 3) := by decide +kernel
theorem dX5_line_62 : decode cX5_line 62 = .ok (.ireturn, 1) := by decide +kernel
theorem dX5_line_63 : decode cX5_line 63 = .ok (.aload 5, 2) := by decide +kernel
theorem dX5_line_65 : decode cX5_line 65 = .ok (.iload_n 3, 1) := by decide +kernel
theorem dX5_line_66 : decode cX5_line 66 = .ok (.putfield 135, 3) := by decide +kernel
theorem dX5_line_69 : decode cX5_line 69 = .ok (.aload 5, 2) := by decide +kernel
theorem dX5_line_71 : decode cX5_line 71 = .ok (.iload 4, 2) := by decide +kernel
theorem dX5_line_73 : decode cX5_line 73 = .ok (.putfield 138, 3) := by decide +kernel
theorem dX5_line_76 : decode cX5_line 76 = .ok (.iconst 1, 1) := by decide +kernel
theorem dX5_line_77 : decode cX5_line 77 = .ok (.ireturn, 1) := by decide +kernel
theorem dX5_drop_0 : decode cX5_drop 0 = .ok (.iload_n 1, 1) := by decide +kernel
theorem dX5_drop_1 : decode cX5_drop 1 = .ok (.invokestatic 64, 3) := by decide +kernel
theorem dX5_drop_4 : decode cX5_drop 4 = .ok (.ifCond .eq 10, 3) := by decide +kernel
theorem dX5_drop_7 : decode cX5_drop 7 = .ok (.iload_n 2, 1) := by decide +kernel
theorem dX5_drop_8 : decode cX5_drop 8 = .ok (.invokestatic 118, 3) := by decide +kernel
theorem dX5_drop_11 : decode cX5_drop 11 = .ok (.ifCond .ne 7, 3) := by decide +kernel
theorem dX5_drop_14 : decode cX5_drop 14 = .ok (.sipush (-1002), 3) := by decide +kernel
theorem dX5_drop_17 : decode cX5_drop 17 = .ok (.ireturn, 1) := by decide +kernel
theorem dX5_drop_18 : decode cX5_drop 18 = .ok (.aload_n 0, 1) := by decide +kernel
theorem dX5_drop_19 : decode cX5_drop 19 = .ok (.getfield 19, 3) := by decide +kernel
theorem dX5_drop_22 : decode cX5_drop 22 = .ok (.iload_n 1, 1) := by decide +kernel
theorem dX5_drop_23 : decode cX5_drop 23 = .ok (.iload_n 2, 1) := by decide +kernel
theorem dX5_drop_24 : decode cX5_drop 24 = .ok (.invokevirtual 125, 3) := by decide +kernel
theorem dX5_drop_27 : decode cX5_drop 27 = .ok (.astore_n 3, 1) := by decide +kernel
theorem dX5_drop_28 : decode cX5_drop 28 = .ok (.aload_n 3, 1) := by decide +kernel
theorem dX5_drop_29 : decode cX5_drop 29 = .ok (.invokevirtual 107, 3) := by decide +kernel
theorem dX5_drop_32 : decode cX5_drop 32 = .ok (.ifCond .eq 7, 3) := by decide +kernel
theorem dX5_drop_35 : decode cX5_drop 35 = .ok (.iconst 1, 1) := by decide +kernel
theorem dX5_drop_36 : decode cX5_drop 36 = .ok (.goto 4, 3) := by decide +kernel
theorem dX5_drop_39 : decode cX5_drop 39 = .ok (.iconst 0, 1) := by decide +kernel
theorem dX5_drop_40 : decode cX5_drop 40 = .ok (.istore 4, 2) := by decide +kernel
theorem dX5_drop_42 : decode cX5_drop 42 = .ok (.aload_n 3, 1) := by decide +kernel
theorem dX5_drop_43 : decode cX5_drop 43 = .ok (.iconst (-1), 1) := by decide +kernel
theorem dX5_drop_44 : decode cX5_drop 44 = .ok (.invokevirtual 85, 3) := by decide +kernel
theorem dX5_drop_47 : decode cX5_drop 47 = .ok (.aload_n 0, 1) := by decide +kernel
theorem dX5_drop_48 : decode cX5_drop 48 = .ok (.iconst 0, 1) := by decide +kernel
theorem dX5_drop_49 : decode cX5_drop 49 = .ok (.putfield 100, 3) := by decide +kernel
theorem dX5_drop_52 : decode cX5_drop 52 = .ok (.iload 4, 2) := by decide +kernel
theorem dX5_drop_54 : decode cX5_drop 54 = .ok (.ireturn, 1) := by decide +kernel
theorem dX5_start_0 : decode cX5_start 0 = .ok (.iload_n 1, 1) := by decide +kernel
theorem dX5_start_1 : decode cX5_start 1 = .ok (.invokestatic 104, 3) := by decide +kernel
theorem dX5_start_4 : decode cX5_start 4 = .ok (.ifCond .ne 7, 3) := by decide +kernel
theorem dX5_start_7 : decode cX5_start 7 = .ok (.sipush (-1002), 3) := by decide +kernel
theorem dX5_start_10 : decode cX5_start 10 = .ok (.ireturn, 1) := by decide +kernel
theorem dX5_start_11 : decode cX5_start 11 = .ok (.aload_n 0, 1) := by decide +kernel
theorem dX5_start_12 : decode cX5_start 12 = .ok (.getfield 19, 3) := by decide +kernel
theorem dX5_start_15 : decode cX5_start 15 = .ok (.invokevirtual 141, 3) := by decide +kernel
theorem dX5_start_18 : decode cX5_start 18 = .ok (.astore_n 2, 1) := by decide +kernel
theorem dX5_start_19 : decode cX5_start 19 = .ok (.aload_n 2, 1) := by decide +kernel
theorem dX5_start_20 : decode cX5_start 20 = .ok (.getfield 80, 3) := by decide +kernel
theorem dX5_start_23 : decode cX5_start 23 = .ok (.istore_n 3, 1) := by decide +kernel
theorem dX5_start_24 : decode cX5_start 24 = .ok (.aload_n 2, 1) := by decide +kernel
theorem dX5_start_25 : decode cX5_start 25 = .ok (.iload_n 1, 1) := by decide +kernel
theorem dX5_start_26 : decode cX5_start 26 = .ok (.putfield 80, 3) := by decide +kernel
theorem dX5_start_29 : decode cX5_start 29 = .ok (.aload_n 0, 1) := by decide +kernel
theorem dX5_start_30 : decode cX5_start 30 = .ok (.iconst 0, 1) := by decide +kernel
theorem dX5_start_31 : decode cX5_start 31 = .ok (.putfield 100, 3) := by decide +kernel
theorem dX5_start_34 : decode cX5_start 34 = .ok (.iload_n 3, 1) := by decide +kernel
theorem dX5_start_35 : decode cX5_start 35 = .ok (.ireturn, 1) := by decide +kernel
theorem dX5_of_0 : decode cX5_of 0 = .ok (.iload_n 1, 1) := by decide +kernel
theorem dX5_of_1 : decode cX5_of 1 = .ok (.invokestatic 64, 3) := by decide +kernel
theorem dX5_of_4 : decode cX5_of 4 = .ok (.ifCond .eq 12, 3) := by decide +kernel
theorem dX5_of_7 : decode cX5_of 7 = .ok (.iload_n 2, 1) := by decide +kernel
theorem dX5_of_8 : decode cX5_of 8 = .ok (.ifCond .lt 8, 3) := by decide +kernel
theorem dX5_of_11 : decode cX5_of 11 = .ok (.iload_n 2, 1) := by decide +kernel
theorem dX5_of_12 : decode cX5_of 12 = .ok (.iconst 5, 1) := by decide +kernel
theorem dX5_of_13 : decode cX5_of 13 = .ok (.if_icmp .le 7, 3) := by decide +kernel
theorem dX5_of_16 : decode cX5_of 16 = .ok (.sipush (-1002), 3) := by decide +kernel
theorem dX5_of_19 : decode cX5_of 19 = .ok (.ireturn, 1) := by decide +kernel
theorem dX5_of_20 : decode cX5_of 20 = .ok (.aload_n 0, 1) := by decide +kernel
theorem dX5_of_21 : decode cX5_of 21 = .ok (.getfield 19, 3) := by decide +kernel
theorem dX5_of_24 : decode cX5_of 24 = .ok (.iload_n 1, 1) := by decide +kernel
theorem dX5_of_25 : decode cX5_of 25 = .ok (.invokevirtual 76, 3) := by decide +kernel
theorem dX5_of_28 : decode cX5_of 28 = .ok (.astore_n 3, 1) := by decide +kernel
theorem dX5_of_29 : decode cX5_of 29 = .ok (.iload_n 2, 1) := by decide +kernel
theorem dX5_of_30 : decode cX5_of 30 = .ok (.ifCond .ne 8, 3) := by decide +kernel
theorem dX5_of_33 : decode cX5_of 33 = .ok (.aload_n 3, 1) := by decide +kernel
theorem dX5_of_34 : decode cX5_of 34 = .ok (.getfield 80, 3) := by decide +kernel
theorem dX5_of_37 : decode cX5_of 37 = .ok (.ireturn, 1) := by decide +kernel
theorem dX5_of_38 : decode cX5_of 38 = .ok (.iload_n 2, 1) := by decide +kernel
theorem dX5_of_39 : decode cX5_of 39 = .ok (.iconst 1, 1) := by decide +kernel
theorem dX5_of_40 : decode cX5_of 40 = .ok (.if_icmp .ne 17, 3) := by decide +kernel
theorem dX5_of_43 : decode cX5_of 43 = .ok (.aload_n 0, 1) := by decide +kernel
theorem dX5_of_44 : decode cX5_of 44 = .ok (.iload_n 1, 1) := by decide +kernel
theorem dX5_of_45 : decode cX5_of 45 = .ok (.invokevirtual 145, 3) := by decide +kernel
theorem dX5_of_48 : decode cX5_of 48 = .ok (.ifCond .eq 7, 3) := by decide +kernel
theorem dX5_of_51 : decode cX5_of 51 = .ok (.iconst 1, 1) := by decide +kernel
theorem dX5_of_52 : decode cX5_of 52 = .ok (.goto 4, 3) := by decide +kernel
theorem dX5_of_55 : decode cX5_of 55 = .ok (.iconst 0, 1) := by decide +kernel
theorem dX5_of_56 : decode cX5_of 56 = .ok (.ireturn, 1) := by decide +kernel
theorem dX5_of_57 : decode cX5_of 57 = .ok (.aload_n 3, 1) := by decide +kernel
theorem dX5_of_58 : decode cX5_of 58 = .ok (.invokevirtual 107, 3) := by decide +kernel
theorem dX5_of_61 : decode cX5_of 61 = .ok (.ifCond .ne 11, 3) := by decide +kernel
theorem dX5_of_64 : decode cX5_of 64 = .ok (.aload_n 0, 1) := by decide +kernel
theorem dX5_of_65 : decode cX5_of 65 = .ok (.sipush (-1010), 3) := by decide +kernel
theorem dX5_of_68 : decode cX5_of 68 = .ok (.invokevirtual 111, 3) := by decide +kernel
theorem dX5_of_71 : decode cX5_of 71 = .ok (.ireturn, 1) := by decide +kernel
theorem dX5_of_72 : decode cX5_of 72 = .ok (.iload_n 2, 1) := by decide +kernel
theorem dX5_of_73 : decode cX5_of 73 = .ok (.tableswitch 42 2 4 #[27, 32, 37], 27) := by decide +kernel
theorem dX5_of_100 : decode cX5_of 100 = .ok (.aload_n 3, 1) := by decide +kernel
theorem dX5_of_101 : decode cX5_of 101 = .ok (.getfield 148, 3) := by decide +kernel
theorem dX5_of_104 : decode cX5_of 104 = .ok (.ireturn, 1) := by decide +kernel
theorem dX5_of_105 : decode cX5_of 105 = .ok (.aload_n 3, 1) := by decide +kernel
theorem dX5_of_106 : decode cX5_of 106 = .ok (.invokevirtual 151, 3) := by decide +kernel
theorem dX5_of_109 : decode cX5_of 109 = .ok (.ireturn, 1) := by decide +kernel
theorem dX5_of_110 : decode cX5_of 110 = .ok (.aload_n 3, 1) := by decide +kernel
theorem dX5_of_111 : decode cX5_of 111 = .ok (.getfield 115, 3) := by decide +kernel
theorem dX5_of_114 : decode cX5_of 114 = .ok (.ireturn, 1) := by decide +kernel
theorem dX5_of_115 : decode cX5_of 115 = .ok (.aload_n 0, 1) := by decide +kernel
theorem dX5_of_116 : decode cX5_of 116 = .ok (.getfield 19, 3) := by decide +kernel
theorem dX5_of_119 : decode cX5_of 119 = .ok (.iload_n 1, 1) := by decide +kernel
theorem dX5_of_120 : decode cX5_of 120 = .ok (.invokevirtual 154, 3) := by decide +kernel
theorem dX5_of_123 : decode cX5_of 123 = .ok (.ireturn, 1) := by decide +kernel
theorem dX5_about_0 : decode cX5_about 0 = .ok (.iload_n 1, 1) := by decide +kernel
theorem dX5_about_1 : decode cX5_about 1 = .ok (.invokestatic 64, 3) := by decide +kernel
theorem dX5_about_4 : decode cX5_about 4 = .ok (.ifCond .eq 20, 3) := by decide +kernel
theorem dX5_about_7 : decode cX5_about 7 = .ok (.iload_n 2, 1) := by decide +kernel
theorem dX5_about_8 : decode cX5_about 8 = .ok (.invokestatic 118, 3) := by decide +kernel
theorem dX5_about_11 : decode cX5_about 11 = .ok (.ifCond .eq 13, 3) := by decide +kernel
theorem dX5_about_14 : decode cX5_about 14 = .ok (.iload_n 3, 1) := by decide +kernel
theorem dX5_about_15 : decode cX5_about 15 = .ok (.ifCond .lt 9, 3) := by decide +kernel
theorem dX5_about_18 : decode cX5_about 18 = .ok (.iload_n 3, 1) := by decide +kernel
theorem dX5_about_19 : decode cX5_about 19 = .ok (.bipush 6, 2) := by decide +kernel
theorem dX5_about_21 : decode cX5_about 21 = .ok (.if_icmp .le 7, 3) := by decide +kernel
theorem dX5_about_24 : decode cX5_about 24 = .ok (.sipush (-1002), 3) := by decide +kernel
theorem dX5_about_27 : decode cX5_about 27 = .ok (.ireturn, 1) := by decide +kernel
theorem dX5_about_28 : decode cX5_about 28 = .ok (.aload_n 0, 1) := by decide +kernel
theorem dX5_about_29 : decode cX5_about 29 = .ok (.getfield 19, 3) := by decide +kernel
theorem dX5_about_32 : decode cX5_about 32 = .ok (.iload_n 1, 1) := by decide +kernel
theorem dX5_about_33 : decode cX5_about 33 = .ok (.iload_n 2, 1) := by decide +kernel
theorem dX5_about_34 : decode cX5_about 34 = .ok (.invokevirtual 125, 3) := by decide +kernel
theorem dX5_about_37 : decode cX5_about 37 = .ok (.astore 4, 2) := by decide +kernel
theorem dX5_about_39 : decode cX5_about 39 = .ok (.aload 4, 2) := by decide +kernel
theorem dX5_about_41 : decode cX5_about 41 = .ok (.invokevirtual 107, 3) := by decide +kernel
theorem dX5_about_44 : decode cX5_about 44 = .ok (.ifCond .ne 11, 3) := by decide +kernel
theorem dX5_about_47 : decode cX5_about 47 = .ok (.aload_n 0, 1) := by decide +kernel
theorem dX5_about_48 : decode cX5_about 48 = .ok (.sipush (-1010), 3) := by decide +kernel
theorem dX5_about_51 : decode cX5_about 51 = .ok (.invokevirtual 111, 3) := by decide +kernel
theorem dX5_about_54 : decode cX5_about 54 = .ok (.ireturn, 1) := by decide +kernel
theorem dX5_about_55 : decode cX5_about 55 = .ok (.iload_n 3, 1) := by decide +kernel
theorem dX5_about_56 : decode cX5_about 56 = .ok (.tableswitch 76 0 5 #[40, 46, 52, 58, 64, 70], 40) := by decide +kernel
theorem dX5_about_96 : decode cX5_about 96 = .ok (.aload 4, 2) := by decide +kernel
theorem dX5_about_98 : decode cX5_about 98 = .ok (.getfield 80, 3) := by decide +kernel
theorem dX5_about_101 : decode cX5_about 101 = .ok (.ireturn, 1) := by decide +kernel
theorem dX5_about_102 : decode cX5_about 102 = .ok (.aload 4, 2) := by decide +kernel
theorem dX5_about_104 : decode cX5_about 104 = .ok (.getfield 148, 3) := by decide +kernel
theorem dX5_about_107 : decode cX5_about 107 = .ok (.ireturn, 1) := by decide +kernel
theorem dX5_about_108 : decode cX5_about 108 = .ok (.aload 4, 2) := by decide +kernel
theorem dX5_about_110 : decode cX5_about 110 = .ok (.invokevirtual 151, 3) := by decide +kernel
theorem dX5_about_113 : decode cX5_about 113 = .ok (.ireturn, 1) := by decide +kernel
theorem dX5_about_114 : decode cX5_about 114 = .ok (.aload 4, 2) := by decide +kernel
theorem dX5_about_116 : decode cX5_about 116 = .ok (.getfield 129, 3) := by decide +kernel
theorem dX5_about_119 : decode cX5_about 119 = .ok (.ireturn, 1) := by decide +kernel
theorem dX5_about_120 : decode cX5_about 120 = .ok (.aload 4, 2) := by decide +kernel
theorem dX5_about_122 : decode cX5_about 122 = .ok (.getfield 115, 3) := by decide +kernel
theorem dX5_about_125 : decode cX5_about 125 = .ok (.ireturn, 1) := by decide +kernel
theorem dX5_about_126 : decode cX5_about 126 = .ok (.aload 4, 2) := by decide +kernel
theorem dX5_about_128 : decode cX5_about 128 = .ok (.getfield 135, 3) := by decide +kernel
theorem dX5_about_131 : decode cX5_about 131 = .ok (.ireturn, 1) := by decide +kernel
theorem dX5_about_132 : decode cX5_about 132 = .ok (.aload 4, 2) := by decide +kernel
theorem dX5_about_134 : decode cX5_about 134 = .ok (.getfield 138, 3) := by decide +kernel
theorem dX5_about_137 : decode cX5_about 137 = .ok (.ireturn, 1) := by decide +kernel
theorem dX5_states_0 : decode cX5_states 0 = .ok (.iload_n 1, 1) := by decide +kernel
theorem dX5_states_1 : decode cX5_states 1 = .ok (.ifCond .lt 8, 3) := by decide +kernel
theorem dX5_states_4 : decode cX5_states 4 = .ok (.iload_n 1, 1) := by decide +kernel
theorem dX5_states_5 : decode cX5_states 5 = .ok (.iconst 4, 1) := by decide +kernel
theorem dX5_states_6 : decode cX5_states 6 = .ok (.if_icmp .le 7, 3) := by decide +kernel
theorem dX5_states_9 : decode cX5_states 9 = .ok (.sipush (-1002), 3) := by decide +kernel
theorem dX5_states_12 : decode cX5_states 12 = .ok (.ireturn, 1) := by decide +kernel
theorem dX5_states_13 : decode cX5_states 13 = .ok (.aload_n 0, 1) := by decide +kernel
theorem dX5_states_14 : decode cX5_states 14 = .ok (.invokevirtual 157, 3) := by decide +kernel
theorem dX5_states_17 : decode cX5_states 17 = .ok (.iload_n 1, 1) := by decide +kernel
theorem dX5_states_18 : decode cX5_states 18 = .ok (.tableswitch 53 0 3 #[30, 38, 43, 48], 30) := by decide +kernel
theorem dX5_states_48 : decode cX5_states 48 = .ok (.aload_n 0, 1) := by decide +kernel
theorem dX5_states_49 : decode cX5_states 49 = .ok (.getfield 32, 3) := by decide +kernel
theorem dX5_states_52 : decode cX5_states 52 = .ok (.getfield 160, 3) := by decide +kernel
theorem dX5_states_55 : decode cX5_states 55 = .ok (.ireturn, 1) := by decide +kernel
theorem dX5_states_56 : decode cX5_states 56 = .ok (.aload_n 0, 1) := by decide +kernel
theorem dX5_states_57 : decode cX5_states 57 = .ok (.invokevirtual 163, 3) := by decide +kernel
theorem dX5_states_60 : decode cX5_states 60 = .ok (.ireturn, 1) := by decide +kernel
theorem dX5_states_61 : decode cX5_states 61 = .ok (.aload_n 0, 1) := by decide +kernel
theorem dX5_states_62 : decode cX5_states 62 = .ok (.invokevirtual 166, 3) := by decide +kernel
theorem dX5_states_65 : decode cX5_states 65 = .ok (.ireturn, 1) := by decide +kernel
theorem dX5_states_66 : decode cX5_states 66 = .ok (.aload_n 0, 1) := by decide +kernel
theorem dX5_states_67 : decode cX5_states 67 = .ok (.invokevirtual 169, 3) := by decide +kernel
theorem dX5_states_70 : decode cX5_states 70 = .ok (.ireturn, 1) := by decide +kernel
theorem dX5_states_71 : decode cX5_states 71 = .ok (.aload_n 0, 1) := by decide +kernel
theorem dX5_states_72 : decode cX5_states 72 = .ok (.getfield 19, 3) := by decide +kernel
theorem dX5_states_75 : decode cX5_states 75 = .ok (.aload_n 0, 1) := by decide +kernel
theorem dX5_states_76 : decode cX5_states 76 = .ok (.getfield 36, 3) := by decide +kernel
theorem dX5_states_79 : decode cX5_states 79 = .ok (.invokevirtual 172, 3) := by decide +kernel
theorem dX5_states_82 : decode cX5_states 82 = .ok (.aload_n 0, 1) := by decide +kernel
theorem dX5_states_83 : decode cX5_states 83 = .ok (.getfield 32, 3) := by decide +kernel
theorem dX5_states_86 : decode cX5_states 86 = .ok (.aload_n 0, 1) := by decide +kernel
theorem dX5_states_87 : decode cX5_states 87 = .ok (.getfield 36, 3) := by decide +kernel
theorem dX5_states_90 : decode cX5_states 90 = .ok (.invokevirtual 176, 3) := by decide +kernel
theorem dX5_states_93 : decode cX5_states 93 = .ok (.ireturn, 1) := by decide +kernel
theorem dX5_countEndings_0 : decode cX5_countEndings 0 = .ok (.iconst 0, 1) := by decide +kernel
theorem dX5_countEndings_1 : decode cX5_countEndings 1 = .ok (.istore_n 1, 1) := by decide +kernel
theorem dX5_countEndings_2 : decode cX5_countEndings 2 = .ok (.iconst 0, 1) := by decide +kernel
theorem dX5_countEndings_3 : decode cX5_countEndings 3 = .ok (.istore_n 2, 1) := by decide +kernel
theorem dX5_countEndings_4 : decode cX5_countEndings 4 = .ok (.iload_n 2, 1) := by decide +kernel
theorem dX5_countEndings_5 : decode cX5_countEndings 5 = .ok (.aload_n 0, 1) := by decide +kernel
theorem dX5_countEndings_6 : decode cX5_countEndings 6 = .ok (.getfield 32, 3) := by decide +kernel
theorem dX5_countEndings_9 : decode cX5_countEndings 9 = .ok (.getfield 160, 3) := by decide +kernel
theorem dX5_countEndings_12 : decode cX5_countEndings 12 = .ok (.if_icmp .ge 31, 3) := by decide +kernel
theorem dX5_countEndings_15 : decode cX5_countEndings 15 = .ok (.aload_n 0, 1) := by decide +kernel
theorem dX5_countEndings_16 : decode cX5_countEndings 16 = .ok (.getfield 19, 3) := by decide +kernel
theorem dX5_countEndings_19 : decode cX5_countEndings 19 = .ok (.aload_n 0, 1) := by decide +kernel
theorem dX5_countEndings_20 : decode cX5_countEndings 20 = .ok (.getfield 32, 3) := by decide +kernel
theorem dX5_countEndings_23 : decode cX5_countEndings 23 = .ok (.getfield 180, 3) := by decide +kernel
theorem dX5_countEndings_26 : decode cX5_countEndings 26 = .ok (.iload_n 2, 1) := by decide +kernel
theorem dX5_countEndings_27 : decode cX5_countEndings 27 = .ok (.iaload, 1) := by decide +kernel
theorem dX5_countEndings_28 : decode cX5_countEndings 28 = .ok (.invokevirtual 183, 3) := by decide +kernel
theorem dX5_countEndings_31 : decode cX5_countEndings 31 = .ok (.ifCond .eq 6, 3) := by decide +kernel
theorem dX5_countEndings_34 : decode cX5_countEndings 34 = .ok (.iinc 1 1, 3) := by decide +kernel
theorem dX5_countEndings_37 : decode cX5_countEndings 37 = .ok (.iinc 2 1, 3) := by decide +kernel
theorem dX5_countEndings_40 : decode cX5_countEndings 40 = .ok (.goto (-36), 3) := by decide +kernel
theorem dX5_countEndings_43 : decode cX5_countEndings 43 = .ok (.iload_n 1, 1) := by decide +kernel
theorem dX5_countEndings_44 : decode cX5_countEndings 44 = .ok (.ireturn, 1) := by decide +kernel
theorem dX5_countStuck_0 : decode cX5_countStuck 0 = .ok (.iconst 0, 1) := by decide +kernel
theorem dX5_countStuck_1 : decode cX5_countStuck 1 = .ok (.istore_n 1, 1) := by decide +kernel
theorem dX5_countStuck_2 : decode cX5_countStuck 2 = .ok (.iconst 0, 1) := by decide +kernel
theorem dX5_countStuck_3 : decode cX5_countStuck 3 = .ok (.istore_n 2, 1) := by decide +kernel
theorem dX5_countStuck_4 : decode cX5_countStuck 4 = .ok (.iload_n 2, 1) := by decide +kernel
theorem dX5_countStuck_5 : decode cX5_countStuck 5 = .ok (.aload_n 0, 1) := by decide +kernel
theorem dX5_countStuck_6 : decode cX5_countStuck 6 = .ok (.getfield 32, 3) := by decide +kernel
theorem dX5_countStuck_9 : decode cX5_countStuck 9 = .ok (.getfield 160, 3) := by decide +kernel
theorem dX5_countStuck_12 : decode cX5_countStuck 12 = .ok (.if_icmp .ge 44, 3) := by decide +kernel
theorem dX5_countStuck_15 : decode cX5_countStuck 15 = .ok (.aload_n 0, 1) := by decide +kernel
theorem dX5_countStuck_16 : decode cX5_countStuck 16 = .ok (.getfield 32, 3) := by decide +kernel
theorem dX5_countStuck_19 : decode cX5_countStuck 19 = .ok (.getfield 180, 3) := by decide +kernel
theorem dX5_countStuck_22 : decode cX5_countStuck 22 = .ok (.iload_n 2, 1) := by decide +kernel
theorem dX5_countStuck_23 : decode cX5_countStuck 23 = .ok (.iaload, 1) := by decide +kernel
theorem dX5_countStuck_24 : decode cX5_countStuck 24 = .ok (.istore_n 3, 1) := by decide +kernel
theorem dX5_countStuck_25 : decode cX5_countStuck 25 = .ok (.aload_n 0, 1) := by decide +kernel
theorem dX5_countStuck_26 : decode cX5_countStuck 26 = .ok (.getfield 19, 3) := by decide +kernel
theorem dX5_countStuck_29 : decode cX5_countStuck 29 = .ok (.iload_n 3, 1) := by decide +kernel
theorem dX5_countStuck_30 : decode cX5_countStuck 30 = .ok (.invokevirtual 183, 3) := by decide +kernel
theorem dX5_countStuck_33 : decode cX5_countStuck 33 = .ok (.ifCond .ne 17, 3) := by decide +kernel
theorem dX5_countStuck_36 : decode cX5_countStuck 36 = .ok (.aload_n 0, 1) := by decide +kernel
theorem dX5_countStuck_37 : decode cX5_countStuck 37 = .ok (.getfield 32, 3) := by decide +kernel
theorem dX5_countStuck_40 : decode cX5_countStuck 40 = .ok (.iload_n 3, 1) := by decide +kernel
theorem dX5_countStuck_41 : decode cX5_countStuck 41 = .ok (.invokevirtual 186, 3) := by decide +kernel
theorem dX5_countStuck_44 : decode cX5_countStuck 44 = .ok (.ifCond .ne 6, 3) := by decide +kernel
theorem dX5_countStuck_47 : decode cX5_countStuck 47 = .ok (.iinc 1 1, 3) := by decide +kernel
theorem dX5_countStuck_50 : decode cX5_countStuck 50 = .ok (.iinc 2 1, 3) := by decide +kernel
theorem dX5_countStuck_53 : decode cX5_countStuck 53 = .ok (.goto (-49), 3) := by decide +kernel
theorem dX5_countStuck_56 : decode cX5_countStuck 56 = .ok (.iload_n 1, 1) := by decide +kernel
theorem dX5_countStuck_57 : decode cX5_countStuck 57 = .ok (.ireturn, 1) := by decide +kernel
theorem dX5_countHopeless_0 : decode cX5_countHopeless 0 = .ok (.iconst 0, 1) := by decide +kernel
theorem dX5_countHopeless_1 : decode cX5_countHopeless 1 = .ok (.istore_n 1, 1) := by decide +kernel
theorem dX5_countHopeless_2 : decode cX5_countHopeless 2 = .ok (.iconst 0, 1) := by decide +kernel
theorem dX5_countHopeless_3 : decode cX5_countHopeless 3 = .ok (.istore_n 2, 1) := by decide +kernel
theorem dX5_countHopeless_4 : decode cX5_countHopeless 4 = .ok (.iload_n 2, 1) := by decide +kernel
theorem dX5_countHopeless_5 : decode cX5_countHopeless 5 = .ok (.aload_n 0, 1) := by decide +kernel
theorem dX5_countHopeless_6 : decode cX5_countHopeless 6 = .ok (.getfield 32, 3) := by decide +kernel
theorem dX5_countHopeless_9 : decode cX5_countHopeless 9 = .ok (.getfield 160, 3) := by decide +kernel
theorem dX5_countHopeless_12 : decode cX5_countHopeless 12 = .ok (.if_icmp .ge 28, 3) := by decide +kernel
theorem dX5_countHopeless_15 : decode cX5_countHopeless 15 = .ok (.aload_n 0, 1) := by decide +kernel
theorem dX5_countHopeless_16 : decode cX5_countHopeless 16 = .ok (.aload_n 0, 1) := by decide +kernel
theorem dX5_countHopeless_17 : decode cX5_countHopeless 17 = .ok (.getfield 32, 3) := by decide +kernel
theorem dX5_countHopeless_20 : decode cX5_countHopeless 20 = .ok (.getfield 180, 3) := by decide +kernel
theorem dX5_countHopeless_23 : decode cX5_countHopeless 23 = .ok (.iload_n 2, 1) := by decide +kernel
theorem dX5_countHopeless_24 : decode cX5_countHopeless 24 = .ok (.iaload, 1) := by decide +kernel
theorem dX5_countHopeless_25 : decode cX5_countHopeless 25 = .ok (.invokevirtual 189, 3) := by decide +kernel
theorem dX5_countHopeless_28 : decode cX5_countHopeless 28 = .ok (.ifCond .eq 6, 3) := by decide +kernel
theorem dX5_countHopeless_31 : decode cX5_countHopeless 31 = .ok (.iinc 1 1, 3) := by decide +kernel
theorem dX5_countHopeless_34 : decode cX5_countHopeless 34 = .ok (.iinc 2 1, 3) := by decide +kernel
theorem dX5_countHopeless_37 : decode cX5_countHopeless 37 = .ok (.goto (-33), 3) := by decide +kernel
theorem dX5_countHopeless_40 : decode cX5_countHopeless 40 = .ok (.iload_n 1, 1) := by decide +kernel
theorem dX5_countHopeless_41 : decode cX5_countHopeless 41 = .ok (.ireturn, 1) := by decide +kernel
theorem dX5_isHopeless_0 : decode cX5_isHopeless 0 = .ok (.aload_n 0, 1) := by decide +kernel
theorem dX5_isHopeless_1 : decode cX5_isHopeless 1 = .ok (.getfield 32, 3) := by decide +kernel
theorem dX5_isHopeless_4 : decode cX5_isHopeless 4 = .ok (.getfield 192, 3) := by decide +kernel
theorem dX5_isHopeless_7 : decode cX5_isHopeless 7 = .ok (.iload_n 1, 1) := by decide +kernel
theorem dX5_isHopeless_8 : decode cX5_isHopeless 8 = .ok (.iaload, 1) := by decide +kernel
theorem dX5_isHopeless_9 : decode cX5_isHopeless 9 = .ok (.ifCond .ne 7, 3) := by decide +kernel
theorem dX5_isHopeless_12 : decode cX5_isHopeless 12 = .ok (.iconst 1, 1) := by decide +kernel
theorem dX5_isHopeless_13 : decode cX5_isHopeless 13 = .ok (.goto 4, 3) := by decide +kernel
theorem dX5_isHopeless_16 : decode cX5_isHopeless 16 = .ok (.iconst 0, 1) := by decide +kernel
theorem dX5_isHopeless_17 : decode cX5_isHopeless 17 = .ok (.ireturn, 1) := by decide +kernel
theorem dX5_reached_0 : decode cX5_reached 0 = .ok (.iload_n 1, 1) := by decide +kernel
theorem dX5_reached_1 : decode cX5_reached 1 = .ok (.invokestatic 64, 3) := by decide +kernel
theorem dX5_reached_4 : decode cX5_reached 4 = .ok (.ifCond .ne 7, 3) := by decide +kernel
theorem dX5_reached_7 : decode cX5_reached 7 = .ok (.sipush (-1002), 3) := by decide +kernel
theorem dX5_reached_10 : decode cX5_reached 10 = .ok (.ireturn, 1) := by decide +kernel
theorem dX5_reached_11 : decode cX5_reached 11 = .ok (.aload_n 0, 1) := by decide +kernel
theorem dX5_reached_12 : decode cX5_reached 12 = .ok (.invokevirtual 157, 3) := by decide +kernel
theorem dX5_reached_15 : decode cX5_reached 15 = .ok (.iconst 0, 1) := by decide +kernel
theorem dX5_reached_16 : decode cX5_reached 16 = .ok (.istore_n 2, 1) := by decide +kernel
theorem dX5_reached_17 : decode cX5_reached 17 = .ok (.iconst 0, 1) := by decide +kernel
theorem dX5_reached_18 : decode cX5_reached 18 = .ok (.istore_n 3, 1) := by decide +kernel
theorem dX5_reached_19 : decode cX5_reached 19 = .ok (.iload_n 3, 1) := by decide +kernel
theorem dX5_reached_20 : decode cX5_reached 20 = .ok (.aload_n 0, 1) := by decide +kernel
theorem dX5_reached_21 : decode cX5_reached 21 = .ok (.getfield 32, 3) := by decide +kernel
theorem dX5_reached_24 : decode cX5_reached 24 = .ok (.getfield 160, 3) := by decide +kernel
theorem dX5_reached_27 : decode cX5_reached 27 = .ok (.if_icmp .ge 28, 3) := by decide +kernel
theorem dX5_reached_30 : decode cX5_reached 30 = .ok (.aload_n 0, 1) := by decide +kernel
theorem dX5_reached_31 : decode cX5_reached 31 = .ok (.getfield 32, 3) := by decide +kernel
theorem dX5_reached_34 : decode cX5_reached 34 = .ok (.getfield 180, 3) := by decide +kernel
theorem dX5_reached_37 : decode cX5_reached 37 = .ok (.iload_n 3, 1) := by decide +kernel
theorem dX5_reached_38 : decode cX5_reached 38 = .ok (.iaload, 1) := by decide +kernel
theorem dX5_reached_39 : decode cX5_reached 39 = .ok (.invokestatic 195, 3) := by decide +kernel
theorem dX5_reached_42 : decode cX5_reached 42 = .ok (.iload_n 1, 1) := by decide +kernel
theorem dX5_reached_43 : decode cX5_reached 43 = .ok (.if_icmp .ne 6, 3) := by decide +kernel
theorem dX5_reached_46 : decode cX5_reached 46 = .ok (.iinc 2 1, 3) := by decide +kernel
theorem dX5_reached_49 : decode cX5_reached 49 = .ok (.iinc 3 1, 3) := by decide +kernel
theorem dX5_reached_52 : decode cX5_reached 52 = .ok (.goto (-33), 3) := by decide +kernel
theorem dX5_reached_55 : decode cX5_reached 55 = .ok (.iload_n 2, 1) := by decide +kernel
theorem dX5_reached_56 : decode cX5_reached 56 = .ok (.ireturn, 1) := by decide +kernel
theorem dX5_live_0 : decode cX5_live 0 = .ok (.iload_n 1, 1) := by decide +kernel
theorem dX5_live_1 : decode cX5_live 1 = .ok (.invokestatic 64, 3) := by decide +kernel
theorem dX5_live_4 : decode cX5_live 4 = .ok (.ifCond .ne 7, 3) := by decide +kernel
theorem dX5_live_7 : decode cX5_live 7 = .ok (.sipush (-1002), 3) := by decide +kernel
theorem dX5_live_10 : decode cX5_live 10 = .ok (.ireturn, 1) := by decide +kernel
theorem dX5_live_11 : decode cX5_live 11 = .ok (.aload_n 0, 1) := by decide +kernel
theorem dX5_live_12 : decode cX5_live 12 = .ok (.getfield 19, 3) := by decide +kernel
theorem dX5_live_15 : decode cX5_live 15 = .ok (.iload_n 1, 1) := by decide +kernel
theorem dX5_live_16 : decode cX5_live 16 = .ok (.invokevirtual 76, 3) := by decide +kernel
theorem dX5_live_19 : decode cX5_live 19 = .ok (.invokevirtual 107, 3) := by decide +kernel
theorem dX5_live_22 : decode cX5_live 22 = .ok (.ifCond .ne 11, 3) := by decide +kernel
theorem dX5_live_25 : decode cX5_live 25 = .ok (.aload_n 0, 1) := by decide +kernel
theorem dX5_live_26 : decode cX5_live 26 = .ok (.sipush (-1010), 3) := by decide +kernel
theorem dX5_live_29 : decode cX5_live 29 = .ok (.invokevirtual 111, 3) := by decide +kernel
theorem dX5_live_32 : decode cX5_live 32 = .ok (.ireturn, 1) := by decide +kernel
theorem dX5_live_33 : decode cX5_live 33 = .ok (.aload_n 0, 1) := by decide +kernel
theorem dX5_live_34 : decode cX5_live 34 = .ok (.getfield 19, 3) := by decide +kernel
theorem dX5_live_37 : decode cX5_live 37 = .ok (.aload_n 0, 1) := by decide +kernel
theorem dX5_live_38 : decode cX5_live 38 = .ok (.getfield 36, 3) := by decide +kernel
theorem dX5_live_41 : decode cX5_live 41 = .ok (.invokevirtual 172, 3) := by decide +kernel
theorem dX5_live_44 : decode cX5_live 44 = .ok (.aload_n 0, 1) := by decide +kernel
theorem dX5_live_45 : decode cX5_live 45 = .ok (.getfield 36, 3) := by decide +kernel
theorem dX5_live_48 : decode cX5_live 48 = .ok (.iload_n 1, 1) := by decide +kernel
theorem dX5_live_49 : decode cX5_live 49 = .ok (.iaload, 1) := by decide +kernel
theorem dX5_live_50 : decode cX5_live 50 = .ok (.ireturn, 1) := by decide +kernel
theorem dX5_open_0 : decode cX5_open 0 = .ok (.iload_n 1, 1) := by decide +kernel
theorem dX5_open_1 : decode cX5_open 1 = .ok (.invokestatic 64, 3) := by decide +kernel
theorem dX5_open_4 : decode cX5_open 4 = .ok (.ifCond .eq 10, 3) := by decide +kernel
theorem dX5_open_7 : decode cX5_open 7 = .ok (.iload_n 2, 1) := by decide +kernel
theorem dX5_open_8 : decode cX5_open 8 = .ok (.invokestatic 118, 3) := by decide +kernel
theorem dX5_open_11 : decode cX5_open 11 = .ok (.ifCond .ne 7, 3) := by decide +kernel
theorem dX5_open_14 : decode cX5_open 14 = .ok (.sipush (-1002), 3) := by decide +kernel
theorem dX5_open_17 : decode cX5_open 17 = .ok (.ireturn, 1) := by decide +kernel
theorem dX5_open_18 : decode cX5_open 18 = .ok (.aload_n 0, 1) := by decide +kernel
theorem dX5_open_19 : decode cX5_open 19 = .ok (.getfield 19, 3) := by decide +kernel
theorem dX5_open_22 : decode cX5_open 22 = .ok (.iload_n 1, 1) := by decide +kernel
theorem dX5_open_23 : decode cX5_open 23 = .ok (.iload_n 2, 1) := by decide +kernel
theorem dX5_open_24 : decode cX5_open 24 = .ok (.invokevirtual 125, 3) := by decide +kernel
theorem dX5_open_27 : decode cX5_open 27 = .ok (.invokevirtual 107, 3) := by decide +kernel
theorem dX5_open_30 : decode cX5_open 30 = .ok (.ifCond .ne 11, 3) := by decide +kernel
theorem dX5_open_33 : decode cX5_open 33 = .ok (.aload_n 0, 1) := by decide +kernel
theorem dX5_open_34 : decode cX5_open 34 = .ok (.sipush (-1010), 3) := by decide +kernel
theorem dX5_open_37 : decode cX5_open 37 = .ok (.invokevirtual 111, 3) := by decide +kernel
theorem dX5_open_40 : decode cX5_open 40 = .ok (.ireturn, 1) := by decide +kernel
theorem dX5_open_41 : decode cX5_open 41 = .ok (.aload_n 0, 1) := by decide +kernel
theorem dX5_open_42 : decode cX5_open 42 = .ok (.invokevirtual 157, 3) := by decide +kernel
theorem dX5_open_45 : decode cX5_open 45 = .ok (.iconst 0, 1) := by decide +kernel
theorem dX5_open_46 : decode cX5_open 46 = .ok (.istore_n 3, 1) := by decide +kernel
theorem dX5_open_47 : decode cX5_open 47 = .ok (.iconst 0, 1) := by decide +kernel
theorem dX5_open_48 : decode cX5_open 48 = .ok (.istore 4, 2) := by decide +kernel
theorem dX5_open_50 : decode cX5_open 50 = .ok (.iload 4, 2) := by decide +kernel
theorem dX5_open_52 : decode cX5_open 52 = .ok (.aload_n 0, 1) := by decide +kernel
theorem dX5_open_53 : decode cX5_open 53 = .ok (.getfield 32, 3) := by decide +kernel
theorem dX5_open_56 : decode cX5_open 56 = .ok (.getfield 160, 3) := by decide +kernel
theorem dX5_open_59 : decode cX5_open 59 = .ok (.if_icmp .ge 52, 3) := by decide +kernel
theorem dX5_open_62 : decode cX5_open 62 = .ok (.aload_n 0, 1) := by decide +kernel
theorem dX5_open_63 : decode cX5_open 63 = .ok (.getfield 32, 3) := by decide +kernel
theorem dX5_open_66 : decode cX5_open 66 = .ok (.getfield 180, 3) := by decide +kernel
theorem dX5_open_69 : decode cX5_open 69 = .ok (.iload 4, 2) := by decide +kernel
theorem dX5_open_71 : decode cX5_open 71 = .ok (.iaload, 1) := by decide +kernel
theorem dX5_open_72 : decode cX5_open 72 = .ok (.istore 5, 2) := by decide +kernel
theorem dX5_open_74 : decode cX5_open 74 = .ok (.iload 5, 2) := by decide +kernel
theorem dX5_open_76 : decode cX5_open 76 = .ok (.invokestatic 195, 3) := by decide +kernel
theorem dX5_open_79 : decode cX5_open 79 = .ok (.iload_n 1, 1) := by decide +kernel
theorem dX5_open_80 : decode cX5_open 80 = .ok (.if_icmp .ne 25, 3) := by decide +kernel
theorem dX5_open_83 : decode cX5_open 83 = .ok (.aload_n 0, 1) := by decide +kernel
theorem dX5_open_84 : decode cX5_open 84 = .ok (.getfield 32, 3) := by decide +kernel
theorem dX5_open_87 : decode cX5_open 87 = .ok (.getfield 198, 3) := by decide +kernel
theorem dX5_open_90 : decode cX5_open 90 = .ok (.iload 5, 2) := by decide +kernel
theorem dX5_open_92 : decode cX5_open 92 = .ok (.bipush 6, 2) := by decide +kernel
theorem dX5_open_94 : decode cX5_open 94 = .ok (.imul, 1) := by decide +kernel
theorem dX5_open_95 : decode cX5_open 95 = .ok (.iload_n 2, 1) := by decide +kernel
theorem dX5_open_96 : decode cX5_open 96 = .ok (.iadd, 1) := by decide +kernel
theorem dX5_open_97 : decode cX5_open 97 = .ok (.iaload, 1) := by decide +kernel
theorem dX5_open_98 : decode cX5_open 98 = .ok (.iconst (-1), 1) := by decide +kernel
theorem dX5_open_99 : decode cX5_open 99 = .ok (.if_icmp .eq 6, 3) := by decide +kernel
theorem dX5_open_102 : decode cX5_open 102 = .ok (.iinc 3 1, 3) := by decide +kernel
theorem dX5_open_105 : decode cX5_open 105 = .ok (.iinc 4 1, 3) := by decide +kernel
theorem dX5_open_108 : decode cX5_open 108 = .ok (.goto (-58), 3) := by decide +kernel
theorem dX5_open_111 : decode cX5_open 111 = .ok (.iload_n 3, 1) := by decide +kernel
theorem dX5_open_112 : decode cX5_open 112 = .ok (.ireturn, 1) := by decide +kernel
theorem dX5_trap_0 : decode cX5_trap 0 = .ok (.iload_n 1, 1) := by decide +kernel
theorem dX5_trap_1 : decode cX5_trap 1 = .ok (.ifCond .ge 7, 3) := by decide +kernel
theorem dX5_trap_4 : decode cX5_trap 4 = .ok (.sipush (-1003), 3) := by decide +kernel
theorem dX5_trap_7 : decode cX5_trap 7 = .ok (.ireturn, 1) := by decide +kernel
theorem dX5_trap_8 : decode cX5_trap 8 = .ok (.aload_n 0, 1) := by decide +kernel
theorem dX5_trap_9 : decode cX5_trap 9 = .ok (.invokevirtual 157, 3) := by decide +kernel
theorem dX5_trap_12 : decode cX5_trap 12 = .ok (.aload_n 0, 1) := by decide +kernel
theorem dX5_trap_13 : decode cX5_trap 13 = .ok (.invokevirtual 201, 3) := by decide +kernel
theorem dX5_trap_16 : decode cX5_trap 16 = .ok (.iload_n 1, 1) := by decide +kernel
theorem dX5_trap_17 : decode cX5_trap 17 = .ok (.istore_n 2, 1) := by decide +kernel
theorem dX5_trap_18 : decode cX5_trap 18 = .ok (.iconst 0, 1) := by decide +kernel
theorem dX5_trap_19 : decode cX5_trap 19 = .ok (.istore_n 3, 1) := by decide +kernel
theorem dX5_trap_20 : decode cX5_trap 20 = .ok (.iload_n 3, 1) := by decide +kernel
theorem dX5_trap_21 : decode cX5_trap 21 = .ok (.bipush 20, 2) := by decide +kernel
theorem dX5_trap_23 : decode cX5_trap 23 = .ok (.if_icmp .ge 57, 3) := by decide +kernel
theorem dX5_trap_26 : decode cX5_trap 26 = .ok (.iconst 0, 1) := by decide +kernel
theorem dX5_trap_27 : decode cX5_trap 27 = .ok (.istore 4, 2) := by decide +kernel
theorem dX5_trap_29 : decode cX5_trap 29 = .ok (.iload 4, 2) := by decide +kernel
theorem dX5_trap_31 : decode cX5_trap 31 = .ok (.bipush 6, 2) := by decide +kernel
theorem dX5_trap_33 : decode cX5_trap 33 = .ok (.if_icmp .ge 41, 3) := by decide +kernel
theorem dX5_trap_36 : decode cX5_trap 36 = .ok (.aload_n 0, 1) := by decide +kernel
theorem dX5_trap_37 : decode cX5_trap 37 = .ok (.getfield 40, 3) := by decide +kernel
theorem dX5_trap_40 : decode cX5_trap 40 = .ok (.iload_n 3, 1) := by decide +kernel
theorem dX5_trap_41 : decode cX5_trap 41 = .ok (.iaload, 1) := by decide +kernel
theorem dX5_trap_42 : decode cX5_trap 42 = .ok (.iload 4, 2) := by decide +kernel
theorem dX5_trap_44 : decode cX5_trap 44 = .ok (.ishr, 1) := by decide +kernel
theorem dX5_trap_45 : decode cX5_trap 45 = .ok (.iconst 1, 1) := by decide +kernel
theorem dX5_trap_46 : decode cX5_trap 46 = .ok (.iand, 1) := by decide +kernel
theorem dX5_trap_47 : decode cX5_trap 47 = .ok (.ifCond .ne 6, 3) := by decide +kernel
theorem dX5_trap_50 : decode cX5_trap 50 = .ok (.goto 18, 3) := by decide +kernel
theorem dX5_trap_53 : decode cX5_trap 53 = .ok (.iload_n 2, 1) := by decide +kernel
theorem dX5_trap_54 : decode cX5_trap 54 = .ok (.ifCond .ne 11, 3) := by decide +kernel
theorem dX5_trap_57 : decode cX5_trap 57 = .ok (.bipush 10, 2) := by decide +kernel
theorem dX5_trap_59 : decode cX5_trap 59 = .ok (.iload_n 3, 1) := by decide +kernel
theorem dX5_trap_60 : decode cX5_trap 60 = .ok (.imul, 1) := by decide +kernel
theorem dX5_trap_61 : decode cX5_trap 61 = .ok (.iload 4, 2) := by decide +kernel
theorem dX5_trap_63 : decode cX5_trap 63 = .ok (.iadd, 1) := by decide +kernel
theorem dX5_trap_64 : decode cX5_trap 64 = .ok (.ireturn, 1) := by decide +kernel
theorem dX5_trap_65 : decode cX5_trap 65 = .ok (.iinc 2 (-1), 3) := by decide +kernel
theorem dX5_trap_68 : decode cX5_trap 68 = .ok (.iinc 4 1, 3) := by decide +kernel
theorem dX5_trap_71 : decode cX5_trap 71 = .ok (.goto (-42), 3) := by decide +kernel
theorem dX5_trap_74 : decode cX5_trap 74 = .ok (.iinc 3 1, 3) := by decide +kernel
theorem dX5_trap_77 : decode cX5_trap 77 = .ok (.goto (-57), 3) := by decide +kernel
theorem dX5_trap_80 : decode cX5_trap 80 = .ok (.sipush (-1003), 3) := by decide +kernel
theorem dX5_trap_83 : decode cX5_trap 83 = .ok (.ireturn, 1) := by decide +kernel
theorem dX5_findTraps_0 : decode cX5_findTraps 0 = .ok (.iconst 0, 1) := by decide +kernel
theorem dX5_findTraps_1 : decode cX5_findTraps 1 = .ok (.istore_n 1, 1) := by decide +kernel
theorem dX5_findTraps_2 : decode cX5_findTraps 2 = .ok (.iload_n 1, 1) := by decide +kernel
theorem dX5_findTraps_3 : decode cX5_findTraps 3 = .ok (.bipush 20, 2) := by decide +kernel
theorem dX5_findTraps_5 : decode cX5_findTraps 5 = .ok (.if_icmp .ge 16, 3) := by decide +kernel
theorem dX5_findTraps_8 : decode cX5_findTraps 8 = .ok (.aload_n 0, 1) := by decide +kernel
theorem dX5_findTraps_9 : decode cX5_findTraps 9 = .ok (.getfield 40, 3) := by decide +kernel
theorem dX5_findTraps_12 : decode cX5_findTraps 12 = .ok (.iload_n 1, 1) := by decide +kernel
theorem dX5_findTraps_13 : decode cX5_findTraps 13 = .ok (.iconst 0, 1) := by decide +kernel
theorem dX5_findTraps_14 : decode cX5_findTraps 14 = .ok (.iastore, 1) := by decide +kernel
theorem dX5_findTraps_15 : decode cX5_findTraps 15 = .ok (.iinc 1 1, 3) := by decide +kernel
theorem dX5_findTraps_18 : decode cX5_findTraps 18 = .ok (.goto (-16), 3) := by decide +kernel
theorem dX5_findTraps_21 : decode cX5_findTraps 21 = .ok (.iconst 0, 1) := by decide +kernel
theorem dX5_findTraps_22 : decode cX5_findTraps 22 = .ok (.istore_n 1, 1) := by decide +kernel
theorem dX5_findTraps_23 : decode cX5_findTraps 23 = .ok (.iload_n 1, 1) := by decide +kernel
theorem dX5_findTraps_24 : decode cX5_findTraps 24 = .ok (.aload_n 0, 1) := by decide +kernel
theorem dX5_findTraps_25 : decode cX5_findTraps 25 = .ok (.getfield 32, 3) := by decide +kernel
theorem dX5_findTraps_28 : decode cX5_findTraps 28 = .ok (.getfield 160, 3) := by decide +kernel
theorem dX5_findTraps_31 : decode cX5_findTraps 31 = .ok (.if_icmp .ge 44, 3) := by decide +kernel
theorem dX5_findTraps_34 : decode cX5_findTraps 34 = .ok (.aload_n 0, 1) := by decide +kernel
theorem dX5_findTraps_35 : decode cX5_findTraps 35 = .ok (.getfield 32, 3) := by decide +kernel
theorem dX5_findTraps_38 : decode cX5_findTraps 38 = .ok (.getfield 180, 3) := by decide +kernel
theorem dX5_findTraps_41 : decode cX5_findTraps 41 = .ok (.iload_n 1, 1) := by decide +kernel
theorem dX5_findTraps_42 : decode cX5_findTraps 42 = .ok (.iaload, 1) := by decide +kernel
theorem dX5_findTraps_43 : decode cX5_findTraps 43 = .ok (.istore_n 2, 1) := by decide +kernel
theorem dX5_findTraps_44 : decode cX5_findTraps 44 = .ok (.aload_n 0, 1) := by decide +kernel
theorem dX5_findTraps_45 : decode cX5_findTraps 45 = .ok (.iload_n 2, 1) := by decide +kernel
theorem dX5_findTraps_46 : decode cX5_findTraps 46 = .ok (.invokevirtual 189, 3) := by decide +kernel
theorem dX5_findTraps_49 : decode cX5_findTraps 49 = .ok (.ifCond .ne 20, 3) := by decide +kernel
theorem dX5_findTraps_52 : decode cX5_findTraps 52 = .ok (.aload_n 0, 1) := by decide +kernel
theorem dX5_findTraps_53 : decode cX5_findTraps 53 = .ok (.getfield 40, 3) := by decide +kernel
theorem dX5_findTraps_56 : decode cX5_findTraps 56 = .ok (.iload_n 2, 1) := by decide +kernel
theorem dX5_findTraps_57 : decode cX5_findTraps 57 = .ok (.invokestatic 195, 3) := by decide +kernel
theorem dX5_findTraps_60 : decode cX5_findTraps 60 = .ok (.dup2, 1) := by decide +kernel
theorem dX5_findTraps_61 : decode cX5_findTraps 61 = .ok (.iaload, 1) := by decide +kernel
theorem dX5_findTraps_62 : decode cX5_findTraps 62 = .ok (.aload_n 0, 1) := by decide +kernel
theorem dX5_findTraps_63 : decode cX5_findTraps 63 = .ok (.iload_n 2, 1) := by decide +kernel
theorem dX5_findTraps_64 : decode cX5_findTraps 64 = .ok (.invokevirtual 204, 3) := by decide +kernel
theorem dX5_findTraps_67 : decode cX5_findTraps 67 = .ok (.ior, 1) := by decide +kernel
theorem dX5_findTraps_68 : decode cX5_findTraps 68 = .ok (.iastore, 1) := by decide +kernel
theorem dX5_findTraps_69 : decode cX5_findTraps 69 = .ok (.iinc 1 1, 3) := by decide +kernel
theorem dX5_findTraps_72 : decode cX5_findTraps 72 = .ok (.goto (-49), 3) := by decide +kernel
theorem dX5_findTraps_75 : decode cX5_findTraps 75 = .ok (.return_, 1) := by decide +kernel
theorem dX5_trapsOf_0 : decode cX5_trapsOf 0 = .ok (.iconst 0, 1) := by decide +kernel
theorem dX5_trapsOf_1 : decode cX5_trapsOf 1 = .ok (.istore_n 2, 1) := by decide +kernel
theorem dX5_trapsOf_2 : decode cX5_trapsOf 2 = .ok (.iconst 0, 1) := by decide +kernel
theorem dX5_trapsOf_3 : decode cX5_trapsOf 3 = .ok (.istore_n 3, 1) := by decide +kernel
theorem dX5_trapsOf_4 : decode cX5_trapsOf 4 = .ok (.iload_n 3, 1) := by decide +kernel
theorem dX5_trapsOf_5 : decode cX5_trapsOf 5 = .ok (.bipush 6, 2) := by decide +kernel
theorem dX5_trapsOf_7 : decode cX5_trapsOf 7 = .ok (.if_icmp .ge 46, 3) := by decide +kernel
theorem dX5_trapsOf_10 : decode cX5_trapsOf 10 = .ok (.aload_n 0, 1) := by decide +kernel
theorem dX5_trapsOf_11 : decode cX5_trapsOf 11 = .ok (.getfield 32, 3) := by decide +kernel
theorem dX5_trapsOf_14 : decode cX5_trapsOf 14 = .ok (.getfield 198, 3) := by decide +kernel
theorem dX5_trapsOf_17 : decode cX5_trapsOf 17 = .ok (.iload_n 1, 1) := by decide +kernel
theorem dX5_trapsOf_18 : decode cX5_trapsOf 18 = .ok (.bipush 6, 2) := by decide +kernel
theorem dX5_trapsOf_20 : decode cX5_trapsOf 20 = .ok (.imul, 1) := by decide +kernel
theorem dX5_trapsOf_21 : decode cX5_trapsOf 21 = .ok (.iload_n 3, 1) := by decide +kernel
theorem dX5_trapsOf_22 : decode cX5_trapsOf 22 = .ok (.iadd, 1) := by decide +kernel
theorem dX5_trapsOf_23 : decode cX5_trapsOf 23 = .ok (.iaload, 1) := by decide +kernel
theorem dX5_trapsOf_24 : decode cX5_trapsOf 24 = .ok (.istore 4, 2) := by decide +kernel
theorem dX5_trapsOf_26 : decode cX5_trapsOf 26 = .ok (.iload 4, 2) := by decide +kernel
theorem dX5_trapsOf_28 : decode cX5_trapsOf 28 = .ok (.iconst (-1), 1) := by decide +kernel
theorem dX5_trapsOf_29 : decode cX5_trapsOf 29 = .ok (.if_icmp .eq 18, 3) := by decide +kernel
theorem dX5_trapsOf_32 : decode cX5_trapsOf 32 = .ok (.aload_n 0, 1) := by decide +kernel
theorem dX5_trapsOf_33 : decode cX5_trapsOf 33 = .ok (.iload 4, 2) := by decide +kernel
theorem dX5_trapsOf_35 : decode cX5_trapsOf 35 = .ok (.invokevirtual 189, 3) := by decide +kernel
theorem dX5_trapsOf_38 : decode cX5_trapsOf 38 = .ok (.ifCond .eq 9, 3) := by decide +kernel
theorem dX5_trapsOf_41 : decode cX5_trapsOf 41 = .ok (.iload_n 2, 1) := by decide +kernel
theorem dX5_trapsOf_42 : decode cX5_trapsOf 42 = .ok (.iconst 1, 1) := by decide +kernel
theorem dX5_trapsOf_43 : decode cX5_trapsOf 43 = .ok (.iload_n 3, 1) := by decide +kernel
theorem dX5_trapsOf_44 : decode cX5_trapsOf 44 = .ok (.ishl, 1) := by decide +kernel
theorem dX5_trapsOf_45 : decode cX5_trapsOf 45 = .ok (.ior, 1) := by decide +kernel
theorem dX5_trapsOf_46 : decode cX5_trapsOf 46 = .ok (.istore_n 2, 1) := by decide +kernel
theorem dX5_trapsOf_47 : decode cX5_trapsOf 47 = .ok (.iinc 3 1, 3) := by decide +kernel
theorem dX5_trapsOf_50 : decode cX5_trapsOf 50 = .ok (.goto (-46), 3) := by decide +kernel
theorem dX5_trapsOf_53 : decode cX5_trapsOf 53 = .ok (.iload_n 2, 1) := by decide +kernel
theorem dX5_trapsOf_54 : decode cX5_trapsOf 54 = .ok (.ireturn, 1) := by decide +kernel
theorem dX5_way_0 : decode cX5_way 0 = .ok (.iload_n 1, 1) := by decide +kernel
theorem dX5_way_1 : decode cX5_way 1 = .ok (.invokestatic 64, 3) := by decide +kernel
theorem dX5_way_4 : decode cX5_way 4 = .ok (.ifCond .ne 7, 3) := by decide +kernel
theorem dX5_way_7 : decode cX5_way 7 = .ok (.sipush (-1002), 3) := by decide +kernel
theorem dX5_way_10 : decode cX5_way 10 = .ok (.ireturn, 1) := by decide +kernel
theorem dX5_way_11 : decode cX5_way 11 = .ok (.aload_n 0, 1) := by decide +kernel
theorem dX5_way_12 : decode cX5_way 12 = .ok (.invokevirtual 157, 3) := by decide +kernel
theorem dX5_way_15 : decode cX5_way 15 = .ok (.aload_n 0, 1) := by decide +kernel
theorem dX5_way_16 : decode cX5_way 16 = .ok (.getfield 32, 3) := by decide +kernel
theorem dX5_way_19 : decode cX5_way 19 = .ok (.iload_n 1, 1) := by decide +kernel
theorem dX5_way_20 : decode cX5_way 20 = .ok (.invokevirtual 207, 3) := by decide +kernel
theorem dX5_way_23 : decode cX5_way 23 = .ok (.istore_n 2, 1) := by decide +kernel
theorem dX5_way_24 : decode cX5_way 24 = .ok (.iload_n 2, 1) := by decide +kernel
theorem dX5_way_25 : decode cX5_way 25 = .ok (.iconst (-1), 1) := by decide +kernel
theorem dX5_way_26 : decode cX5_way 26 = .ok (.if_icmp .ne 9, 3) := by decide +kernel
theorem dX5_way_29 : decode cX5_way 29 = .ok (.sipush (-1003), 3) := by decide +kernel
theorem dX5_way_32 : decode cX5_way 32 = .ok (.goto 12, 3) := by decide +kernel
theorem dX5_way_35 : decode cX5_way 35 = .ok (.aload_n 0, 1) := by decide +kernel
theorem dX5_way_36 : decode cX5_way 36 = .ok (.getfield 32, 3) := by decide +kernel
theorem dX5_way_39 : decode cX5_way 39 = .ok (.getfield 210, 3) := by decide +kernel
theorem dX5_way_42 : decode cX5_way 42 = .ok (.iload_n 2, 1) := by decide +kernel
theorem dX5_way_43 : decode cX5_way 43 = .ok (.iaload, 1) := by decide +kernel
theorem dX5_way_44 : decode cX5_way 44 = .ok (.ireturn, 1) := by decide +kernel
theorem dX5_step_0 : decode cX5_step 0 = .ok (.iload_n 1, 1) := by decide +kernel
theorem dX5_step_1 : decode cX5_step 1 = .ok (.invokestatic 64, 3) := by decide +kernel
theorem dX5_step_4 : decode cX5_step 4 = .ok (.ifCond .eq 7, 3) := by decide +kernel
theorem dX5_step_7 : decode cX5_step 7 = .ok (.iload_n 2, 1) := by decide +kernel
theorem dX5_step_8 : decode cX5_step 8 = .ok (.ifCond .ge 7, 3) := by decide +kernel
theorem dX5_step_11 : decode cX5_step 11 = .ok (.sipush (-1002), 3) := by decide +kernel
theorem dX5_step_14 : decode cX5_step 14 = .ok (.ireturn, 1) := by decide +kernel
theorem dX5_step_15 : decode cX5_step 15 = .ok (.aload_n 0, 1) := by decide +kernel
theorem dX5_step_16 : decode cX5_step 16 = .ok (.invokevirtual 157, 3) := by decide +kernel
theorem dX5_step_19 : decode cX5_step 19 = .ok (.aload_n 0, 1) := by decide +kernel
theorem dX5_step_20 : decode cX5_step 20 = .ok (.getfield 32, 3) := by decide +kernel
theorem dX5_step_23 : decode cX5_step 23 = .ok (.iload_n 1, 1) := by decide +kernel
theorem dX5_step_24 : decode cX5_step 24 = .ok (.invokevirtual 207, 3) := by decide +kernel
theorem dX5_step_27 : decode cX5_step 27 = .ok (.istore_n 3, 1) := by decide +kernel
theorem dX5_step_28 : decode cX5_step 28 = .ok (.iload_n 3, 1) := by decide +kernel
theorem dX5_step_29 : decode cX5_step 29 = .ok (.iconst (-1), 1) := by decide +kernel
theorem dX5_step_30 : decode cX5_step 30 = .ok (.if_icmp .ne 9, 3) := by decide +kernel
theorem dX5_step_33 : decode cX5_step 33 = .ok (.sipush (-1003), 3) := by decide +kernel
theorem dX5_step_36 : decode cX5_step 36 = .ok (.goto 12, 3) := by decide +kernel
theorem dX5_step_39 : decode cX5_step 39 = .ok (.aload_n 0, 1) := by decide +kernel
theorem dX5_step_40 : decode cX5_step 40 = .ok (.getfield 32, 3) := by decide +kernel
theorem dX5_step_43 : decode cX5_step 43 = .ok (.iload_n 3, 1) := by decide +kernel
theorem dX5_step_44 : decode cX5_step 44 = .ok (.iload_n 2, 1) := by decide +kernel
theorem dX5_step_45 : decode cX5_step 45 = .ok (.invokevirtual 213, 3) := by decide +kernel
theorem dX5_step_48 : decode cX5_step 48 = .ok (.ireturn, 1) := by decide +kernel
theorem dX5_ways_0 : decode cX5_ways 0 = .ok (.iload_n 1, 1) := by decide +kernel
theorem dX5_ways_1 : decode cX5_ways 1 = .ok (.ifCond .lt 9, 3) := by decide +kernel
theorem dX5_ways_4 : decode cX5_ways 4 = .ok (.iload_n 1, 1) := by decide +kernel
theorem dX5_ways_5 : decode cX5_ways 5 = .ok (.bipush 20, 2) := by decide +kernel
theorem dX5_ways_7 : decode cX5_ways 7 = .ok (.if_icmp .le 7, 3) := by decide +kernel
theorem dX5_ways_10 : decode cX5_ways 10 = .ok (.ldc2_w 216, 3) := by decide +kernel
theorem dX5_ways_13 : decode cX5_ways 13 = .ok (.lreturn, 1) := by decide +kernel
theorem dX5_ways_14 : decode cX5_ways 14 = .ok (.aload_n 0, 1) := by decide +kernel
theorem dX5_ways_15 : decode cX5_ways 15 = .ok (.invokevirtual 157, 3) := by decide +kernel
theorem dX5_ways_18 : decode cX5_ways 18 = .ok (.aload_n 0, 1) := by decide +kernel
theorem dX5_ways_19 : decode cX5_ways 19 = .ok (.getfield 32, 3) := by decide +kernel
theorem dX5_ways_22 : decode cX5_ways 22 = .ok (.iload_n 1, 1) := by decide +kernel
theorem dX5_ways_23 : decode cX5_ways 23 = .ok (.invokevirtual 218, 3) := by decide +kernel
theorem dX5_ways_26 : decode cX5_ways 26 = .ok (.lconst 0, 1) := by decide +kernel
theorem dX5_ways_27 : decode cX5_ways 27 = .ok (.lstore_n 2, 1) := by decide +kernel
theorem dX5_ways_28 : decode cX5_ways 28 = .ok (.iconst 0, 1) := by decide +kernel
theorem dX5_ways_29 : decode cX5_ways 29 = .ok (.istore 4, 2) := by decide +kernel
theorem dX5_ways_31 : decode cX5_ways 31 = .ok (.iload 4, 2) := by decide +kernel
theorem dX5_ways_33 : decode cX5_ways 33 = .ok (.aload_n 0, 1) := by decide +kernel
theorem dX5_ways_34 : decode cX5_ways 34 = .ok (.getfield 32, 3) := by decide +kernel
theorem dX5_ways_37 : decode cX5_ways 37 = .ok (.getfield 160, 3) := by decide +kernel
theorem dX5_ways_40 : decode cX5_ways 40 = .ok (.if_icmp .ge 46, 3) := by decide +kernel
theorem dX5_ways_43 : decode cX5_ways 43 = .ok (.aload_n 0, 1) := by decide +kernel
theorem dX5_ways_44 : decode cX5_ways 44 = .ok (.getfield 32, 3) := by decide +kernel
theorem dX5_ways_47 : decode cX5_ways 47 = .ok (.getfield 180, 3) := by decide +kernel
theorem dX5_ways_50 : decode cX5_ways 50 = .ok (.iload 4, 2) := by decide +kernel
theorem dX5_ways_52 : decode cX5_ways 52 = .ok (.iaload, 1) := by decide +kernel
theorem dX5_ways_53 : decode cX5_ways 53 = .ok (.istore 5, 2) := by decide +kernel
theorem dX5_ways_55 : decode cX5_ways 55 = .ok (.aload_n 0, 1) := by decide +kernel
theorem dX5_ways_56 : decode cX5_ways 56 = .ok (.getfield 19, 3) := by decide +kernel
theorem dX5_ways_59 : decode cX5_ways 59 = .ok (.iload 5, 2) := by decide +kernel
theorem dX5_ways_61 : decode cX5_ways 61 = .ok (.invokevirtual 183, 3) := by decide +kernel
theorem dX5_ways_64 : decode cX5_ways 64 = .ok (.ifCond .eq 16, 3) := by decide +kernel
theorem dX5_ways_67 : decode cX5_ways 67 = .ok (.lload_n 2, 1) := by decide +kernel
theorem dX5_ways_68 : decode cX5_ways 68 = .ok (.aload_n 0, 1) := by decide +kernel
theorem dX5_ways_69 : decode cX5_ways 69 = .ok (.getfield 32, 3) := by decide +kernel
theorem dX5_ways_72 : decode cX5_ways 72 = .ok (.getfield 221, 3) := by decide +kernel
theorem dX5_ways_75 : decode cX5_ways 75 = .ok (.iload 5, 2) := by decide +kernel
theorem dX5_ways_77 : decode cX5_ways 77 = .ok (.laload, 1) := by decide +kernel
theorem dX5_ways_78 : decode cX5_ways 78 = .ok (.ladd, 1) := by decide +kernel
theorem dX5_ways_79 : decode cX5_ways 79 = .ok (.lstore_n 2, 1) := by decide +kernel
theorem dX5_ways_80 : decode cX5_ways 80 = .ok (.iinc 4 1, 3) := by decide +kernel
theorem dX5_ways_83 : decode cX5_ways 83 = .ok (.goto (-52), 3) := by decide +kernel
theorem dX5_ways_86 : decode cX5_ways 86 = .ok (.lload_n 2, 1) := by decide +kernel
theorem dX5_ways_87 : decode cX5_ways 87 = .ok (.lreturn, 1) := by decide +kernel
theorem dX5_freshenWeb_0 : decode cX5_freshenWeb 0 = .ok (.aload_n 0, 1) := by decide +kernel
theorem dX5_freshenWeb_1 : decode cX5_freshenWeb 1 = .ok (.getfield 100, 3) := by decide +kernel
theorem dX5_freshenWeb_4 : decode cX5_freshenWeb 4 = .ok (.ifCond .eq 4, 3) := by decide +kernel
theorem dX5_freshenWeb_7 : decode cX5_freshenWeb 7 = .ok (.return_, 1) := by decide +kernel
theorem dX5_freshenWeb_8 : decode cX5_freshenWeb 8 = .ok (.aload_n 0, 1) := by decide +kernel
theorem dX5_freshenWeb_9 : decode cX5_freshenWeb 9 = .ok (.aload_n 0, 1) := by decide +kernel
theorem dX5_freshenWeb_10 : decode cX5_freshenWeb 10 = .ok (.getfield 224, 3) := by decide +kernel
theorem dX5_freshenWeb_13 : decode cX5_freshenWeb 13 = .ok (.invokevirtual 227, 3) := by decide +kernel
theorem dX5_freshenWeb_16 : decode cX5_freshenWeb 16 = .ok (.iconst 0, 1) := by decide +kernel
theorem dX5_freshenWeb_17 : decode cX5_freshenWeb 17 = .ok (.istore_n 1, 1) := by decide +kernel
theorem dX5_freshenWeb_18 : decode cX5_freshenWeb 18 = .ok (.iload_n 1, 1) := by decide +kernel
theorem dX5_freshenWeb_19 : decode cX5_freshenWeb 19 = .ok (.aload_n 0, 1) := by decide +kernel
theorem dX5_freshenWeb_20 : decode cX5_freshenWeb 20 = .ok (.getfield 32, 3) := by decide +kernel
theorem dX5_freshenWeb_23 : decode cX5_freshenWeb 23 = .ok (.getfield 160, 3) := by decide +kernel
theorem dX5_freshenWeb_26 : decode cX5_freshenWeb 26 = .ok (.if_icmp .ge 44, 3) := by decide +kernel
theorem dX5_freshenWeb_29 : decode cX5_freshenWeb 29 = .ok (.aload_n 0, 1) := by decide +kernel
theorem dX5_freshenWeb_30 : decode cX5_freshenWeb 30 = .ok (.getfield 32, 3) := by decide +kernel
theorem dX5_freshenWeb_33 : decode cX5_freshenWeb 33 = .ok (.getfield 180, 3) := by decide +kernel
theorem dX5_freshenWeb_36 : decode cX5_freshenWeb 36 = .ok (.iload_n 1, 1) := by decide +kernel
theorem dX5_freshenWeb_37 : decode cX5_freshenWeb 37 = .ok (.iaload, 1) := by decide +kernel
theorem dX5_freshenWeb_38 : decode cX5_freshenWeb 38 = .ok (.istore_n 2, 1) := by decide +kernel
theorem dX5_freshenWeb_39 : decode cX5_freshenWeb 39 = .ok (.aload_n 0, 1) := by decide +kernel
theorem dX5_freshenWeb_40 : decode cX5_freshenWeb 40 = .ok (.getfield 32, 3) := by decide +kernel
theorem dX5_freshenWeb_43 : decode cX5_freshenWeb 43 = .ok (.getfield 192, 3) := by decide +kernel
theorem dX5_freshenWeb_46 : decode cX5_freshenWeb 46 = .ok (.iload_n 2, 1) := by decide +kernel
theorem dX5_freshenWeb_47 : decode cX5_freshenWeb 47 = .ok (.aload_n 0, 1) := by decide +kernel
theorem dX5_freshenWeb_48 : decode cX5_freshenWeb 48 = .ok (.getfield 19, 3) := by decide +kernel
theorem dX5_freshenWeb_51 : decode cX5_freshenWeb 51 = .ok (.iload_n 2, 1) := by decide +kernel
theorem dX5_freshenWeb_52 : decode cX5_freshenWeb 52 = .ok (.invokevirtual 183, 3) := by decide +kernel
theorem dX5_freshenWeb_55 : decode cX5_freshenWeb 55 = .ok (.ifCond .eq 7, 3) := by decide +kernel
theorem dX5_freshenWeb_58 : decode cX5_freshenWeb 58 = .ok (.iconst 1, 1) := by decide +kernel
theorem dX5_freshenWeb_59 : decode cX5_freshenWeb 59 = .ok (.goto 4, 3) := by decide +kernel
theorem dX5_freshenWeb_62 : decode cX5_freshenWeb 62 = .ok (.iconst 0, 1) := by decide +kernel
theorem dX5_freshenWeb_63 : decode cX5_freshenWeb 63 = .ok (.iastore, 1) := by decide +kernel
theorem dX5_freshenWeb_64 : decode cX5_freshenWeb 64 = .ok (.iinc 1 1, 3) := by decide +kernel
theorem dX5_freshenWeb_67 : decode cX5_freshenWeb 67 = .ok (.goto (-49), 3) := by decide +kernel
theorem dX5_freshenWeb_70 : decode cX5_freshenWeb 70 = .ok (.aload_n 0, 1) := by decide +kernel
theorem dX5_freshenWeb_71 : decode cX5_freshenWeb 71 = .ok (.getfield 32, 3) := by decide +kernel
theorem dX5_freshenWeb_74 : decode cX5_freshenWeb 74 = .ok (.iconst 1, 1) := by decide +kernel
theorem dX5_freshenWeb_75 : decode cX5_freshenWeb 75 = .ok (.invokevirtual 230, 3) := by decide +kernel
theorem dX5_freshenWeb_78 : decode cX5_freshenWeb 78 = .ok (.aload_n 0, 1) := by decide +kernel
theorem dX5_freshenWeb_79 : decode cX5_freshenWeb 79 = .ok (.iconst 1, 1) := by decide +kernel
theorem dX5_freshenWeb_80 : decode cX5_freshenWeb 80 = .ok (.putfield 100, 3) := by decide +kernel
theorem dX5_freshenWeb_83 : decode cX5_freshenWeb 83 = .ok (.return_, 1) := by decide +kernel
theorem dX5_weaveFromBeginning_0 : decode cX5_weaveFromBeginning 0 = .ok (.aload_n 0, 1) := by decide +kernel
theorem dX5_weaveFromBeginning_1 : decode cX5_weaveFromBeginning 1 = .ok (.iconst 0, 1) := by decide +kernel
theorem dX5_weaveFromBeginning_2 : decode cX5_weaveFromBeginning 2 = .ok (.putfield 100, 3) := by decide +kernel
theorem dX5_weaveFromBeginning_5 : decode cX5_weaveFromBeginning 5 = .ok (.aload_n 0, 1) := by decide +kernel
theorem dX5_weaveFromBeginning_6 : decode cX5_weaveFromBeginning 6 = .ok (.getfield 32, 3) := by decide +kernel
theorem dX5_weaveFromBeginning_9 : decode cX5_weaveFromBeginning 9 = .ok (.invokevirtual 233, 3) := by decide +kernel
theorem dX5_weaveFromBeginning_12 : decode cX5_weaveFromBeginning 12 = .ok (.aload_n 0, 1) := by decide +kernel
theorem dX5_weaveFromBeginning_13 : decode cX5_weaveFromBeginning 13 = .ok (.getfield 19, 3) := by decide +kernel
theorem dX5_weaveFromBeginning_16 : decode cX5_weaveFromBeginning 16 = .ok (.iload_n 1, 1) := by decide +kernel
theorem dX5_weaveFromBeginning_17 : decode cX5_weaveFromBeginning 17 = .ok (.invokevirtual 236, 3) := by decide +kernel
theorem dX5_weaveFromBeginning_20 : decode cX5_weaveFromBeginning 20 = .ok (.ifCond .eq 19, 3) := by decide +kernel
theorem dX5_weaveFromBeginning_23 : decode cX5_weaveFromBeginning 23 = .ok (.aload_n 0, 1) := by decide +kernel
theorem dX5_weaveFromBeginning_24 : decode cX5_weaveFromBeginning 24 = .ok (.getfield 32, 3) := by decide +kernel
theorem dX5_weaveFromBeginning_27 : decode cX5_weaveFromBeginning 27 = .ok (.aload_n 0, 1) := by decide +kernel
theorem dX5_weaveFromBeginning_28 : decode cX5_weaveFromBeginning 28 = .ok (.getfield 19, 3) := by decide +kernel
theorem dX5_weaveFromBeginning_31 : decode cX5_weaveFromBeginning 31 = .ok (.iconst 0, 1) := by decide +kernel
theorem dX5_weaveFromBeginning_32 : decode cX5_weaveFromBeginning 32 = .ok (.invokevirtual 239, 3) := by decide +kernel
theorem dX5_weaveFromBeginning_35 : decode cX5_weaveFromBeginning 35 = .ok (.iconst (-1), 1) := by decide +kernel
theorem dX5_weaveFromBeginning_36 : decode cX5_weaveFromBeginning 36 = .ok (.invokevirtual 242, 3) := by decide +kernel
theorem dX5_weaveFromBeginning_39 : decode cX5_weaveFromBeginning 39 = .ok (.aload_n 0, 1) := by decide +kernel
theorem dX5_weaveFromBeginning_40 : decode cX5_weaveFromBeginning 40 = .ok (.getfield 32, 3) := by decide +kernel
theorem dX5_weaveFromBeginning_43 : decode cX5_weaveFromBeginning 43 = .ok (.aload_n 0, 1) := by decide +kernel
theorem dX5_weaveFromBeginning_44 : decode cX5_weaveFromBeginning 44 = .ok (.getfield 19, 3) := by decide +kernel
theorem dX5_weaveFromBeginning_47 : decode cX5_weaveFromBeginning 47 = .ok (.iload_n 1, 1) := by decide +kernel
theorem dX5_weaveFromBeginning_48 : decode cX5_weaveFromBeginning 48 = .ok (.invokevirtual 246, 3) := by decide +kernel
theorem dX5_weaveFromBeginning_51 : decode cX5_weaveFromBeginning 51 = .ok (.return_, 1) := by decide +kernel
theorem dX5_cut_0 : decode cX5_cut 0 = .ok (.iload_n 1, 1) := by decide +kernel
theorem dX5_cut_1 : decode cX5_cut 1 = .ok (.invokestatic 64, 3) := by decide +kernel
theorem dX5_cut_4 : decode cX5_cut 4 = .ok (.ifCond .ne 7, 3) := by decide +kernel
theorem dX5_cut_7 : decode cX5_cut 7 = .ok (.sipush (-1002), 3) := by decide +kernel
theorem dX5_cut_10 : decode cX5_cut 10 = .ok (.ireturn, 1) := by decide +kernel
theorem dX5_cut_11 : decode cX5_cut 11 = .ok (.aload_n 0, 1) := by decide +kernel
theorem dX5_cut_12 : decode cX5_cut 12 = .ok (.iload_n 1, 1) := by decide +kernel
theorem dX5_cut_13 : decode cX5_cut 13 = .ok (.invokevirtual 145, 3) := by decide +kernel
theorem dX5_cut_16 : decode cX5_cut 16 = .ok (.ifCond .eq 7, 3) := by decide +kernel
theorem dX5_cut_19 : decode cX5_cut 19 = .ok (.iconst 1, 1) := by decide +kernel
theorem dX5_cut_20 : decode cX5_cut 20 = .ok (.goto 4, 3) := by decide +kernel
theorem dX5_cut_23 : decode cX5_cut 23 = .ok (.iconst 0, 1) := by decide +kernel
theorem dX5_cut_24 : decode cX5_cut 24 = .ok (.istore_n 3, 1) := by decide +kernel
theorem dX5_cut_25 : decode cX5_cut 25 = .ok (.iload_n 2, 1) := by decide +kernel
theorem dX5_cut_26 : decode cX5_cut 26 = .ok (.ifCond .eq 18, 3) := by decide +kernel
theorem dX5_cut_29 : decode cX5_cut 29 = .ok (.aload_n 0, 1) := by decide +kernel
theorem dX5_cut_30 : decode cX5_cut 30 = .ok (.dup, 1) := by decide +kernel
theorem dX5_cut_31 : decode cX5_cut 31 = .ok (.getfield 224, 3) := by decide +kernel
theorem dX5_cut_34 : decode cX5_cut 34 = .ok (.iconst 1, 1) := by decide +kernel
theorem dX5_cut_35 : decode cX5_cut 35 = .ok (.iload_n 1, 1) := by decide +kernel
theorem dX5_cut_36 : decode cX5_cut 36 = .ok (.ishl, 1) := by decide +kernel
theorem dX5_cut_37 : decode cX5_cut 37 = .ok (.ior, 1) := by decide +kernel
theorem dX5_cut_38 : decode cX5_cut 38 = .ok (.putfield 224, 3) := by decide +kernel
theorem dX5_cut_41 : decode cX5_cut 41 = .ok (.goto 17, 3) := by decide +kernel
theorem dX5_cut_44 : decode cX5_cut 44 = .ok (.aload_n 0, 1) := by decide +kernel
theorem dX5_cut_45 : decode cX5_cut 45 = .ok (.dup, 1) := by decide +kernel
theorem dX5_cut_46 : decode cX5_cut 46 = .ok (.getfield 224, 3) := by decide +kernel
theorem dX5_cut_49 : decode cX5_cut 49 = .ok (.iconst 1, 1) := by decide +kernel
theorem dX5_cut_50 : decode cX5_cut 50 = .ok (.iload_n 1, 1) := by decide +kernel
theorem dX5_cut_51 : decode cX5_cut 51 = .ok (.ishl, 1) := by decide +kernel
theorem dX5_cut_52 : decode cX5_cut 52 = .ok (.iconst (-1), 1) := by decide +kernel
theorem dX5_cut_53 : decode cX5_cut 53 = .ok (.ixor, 1) := by decide +kernel
theorem dX5_cut_54 : decode cX5_cut 54 = .ok (.iand, 1) := by decide +kernel
theorem dX5_cut_55 : decode cX5_cut 55 = .ok (.putfield 224, 3) := by decide +kernel
theorem dX5_cut_58 : decode cX5_cut 58 = .ok (.aload_n 0, 1) := by decide +kernel
theorem dX5_cut_59 : decode cX5_cut 59 = .ok (.iconst 0, 1) := by decide +kernel
theorem dX5_cut_60 : decode cX5_cut 60 = .ok (.putfield 100, 3) := by decide +kernel
theorem dX5_cut_63 : decode cX5_cut 63 = .ok (.iload_n 3, 1) := by decide +kernel
theorem dX5_cut_64 : decode cX5_cut 64 = .ok (.ireturn, 1) := by decide +kernel
theorem dX5_mend_0 : decode cX5_mend 0 = .ok (.aload_n 0, 1) := by decide +kernel
theorem dX5_mend_1 : decode cX5_mend 1 = .ok (.invokevirtual 157, 3) := by decide +kernel
theorem dX5_mend_4 : decode cX5_mend 4 = .ok (.aload_n 0, 1) := by decide +kernel
theorem dX5_mend_5 : decode cX5_mend 5 = .ok (.getfield 32, 3) := by decide +kernel
theorem dX5_mend_8 : decode cX5_mend 8 = .ok (.invokevirtual 250, 3) := by decide +kernel
theorem dX5_mend_11 : decode cX5_mend 11 = .ok (.istore_n 1, 1) := by decide +kernel
theorem dX5_mend_12 : decode cX5_mend 12 = .ok (.aload_n 0, 1) := by decide +kernel
theorem dX5_mend_13 : decode cX5_mend 13 = .ok (.iconst 0, 1) := by decide +kernel
theorem dX5_mend_14 : decode cX5_mend 14 = .ok (.invokevirtual 227, 3) := by decide +kernel
theorem dX5_mend_17 : decode cX5_mend 17 = .ok (.aload_n 0, 1) := by decide +kernel
theorem dX5_mend_18 : decode cX5_mend 18 = .ok (.getfield 32, 3) := by decide +kernel
theorem dX5_mend_21 : decode cX5_mend 21 = .ok (.invokevirtual 250, 3) := by decide +kernel
theorem dX5_mend_24 : decode cX5_mend 24 = .ok (.aload_n 0, 1) := by decide +kernel
theorem dX5_mend_25 : decode cX5_mend 25 = .ok (.getfield 224, 3) := by decide +kernel
theorem dX5_mend_28 : decode cX5_mend 28 = .ok (.iconst (-1), 1) := by decide +kernel
theorem dX5_mend_29 : decode cX5_mend 29 = .ok (.ixor, 1) := by decide +kernel
theorem dX5_mend_30 : decode cX5_mend 30 = .ok (.iand, 1) := by decide +kernel
theorem dX5_mend_31 : decode cX5_mend 31 = .ok (.istore_n 2, 1) := by decide +kernel
theorem dX5_mend_32 : decode cX5_mend 32 = .ok (.iload_n 2, 1) := by decide +kernel
theorem dX5_mend_33 : decode cX5_mend 33 = .ok (.iload_n 1, 1) := by decide +kernel
theorem dX5_mend_34 : decode cX5_mend 34 = .ok (.iconst (-1), 1) := by decide +kernel
theorem dX5_mend_35 : decode cX5_mend 35 = .ok (.ixor, 1) := by decide +kernel
theorem dX5_mend_36 : decode cX5_mend 36 = .ok (.iand, 1) := by decide +kernel
theorem dX5_mend_37 : decode cX5_mend 37 = .ok (.ifCond .ne 5, 3) := by decide +kernel
theorem dX5_mend_40 : decode cX5_mend 40 = .ok (.iconst 0, 1) := by decide +kernel
theorem dX5_mend_41 : decode cX5_mend 41 = .ok (.ireturn, 1) := by decide +kernel
theorem dX5_mend_42 : decode cX5_mend 42 = .ok (.aload_n 0, 1) := by decide +kernel
theorem dX5_mend_43 : decode cX5_mend 43 = .ok (.getfield 19, 3) := by decide +kernel
theorem dX5_mend_46 : decode cX5_mend 46 = .ok (.aload_n 0, 1) := by decide +kernel
theorem dX5_mend_47 : decode cX5_mend 47 = .ok (.getfield 224, 3) := by decide +kernel
theorem dX5_mend_50 : decode cX5_mend 50 = .ok (.invokevirtual 236, 3) := by decide +kernel
theorem dX5_mend_53 : decode cX5_mend 53 = .ok (.ifCond .ne 7, 3) := by decide +kernel
theorem dX5_mend_56 : decode cX5_mend 56 = .ok (.sipush (-1003), 3) := by decide +kernel
theorem dX5_mend_59 : decode cX5_mend 59 = .ok (.ireturn, 1) := by decide +kernel
theorem dX5_mend_60 : decode cX5_mend 60 = .ok (.aload_n 0, 1) := by decide +kernel
theorem dX5_mend_61 : decode cX5_mend 61 = .ok (.invokevirtual 253, 3) := by decide +kernel
theorem dX5_mend_64 : decode cX5_mend 64 = .ok (.iconst 0, 1) := by decide +kernel
theorem dX5_mend_65 : decode cX5_mend 65 = .ok (.istore_n 3, 1) := by decide +kernel
theorem dX5_mend_66 : decode cX5_mend 66 = .ok (.iload_n 3, 1) := by decide +kernel
theorem dX5_mend_67 : decode cX5_mend 67 = .ok (.aload_n 0, 1) := by decide +kernel
theorem dX5_mend_68 : decode cX5_mend 68 = .ok (.getfield 32, 3) := by decide +kernel
theorem dX5_mend_71 : decode cX5_mend 71 = .ok (.getfield 160, 3) := by decide +kernel
theorem dX5_mend_74 : decode cX5_mend 74 = .ok (.if_icmp .ge 39, 3) := by decide +kernel
theorem dX5_mend_77 : decode cX5_mend 77 = .ok (.aload_n 0, 1) := by decide +kernel
theorem dX5_mend_78 : decode cX5_mend 78 = .ok (.getfield 32, 3) := by decide +kernel
theorem dX5_mend_81 : decode cX5_mend 81 = .ok (.getfield 180, 3) := by decide +kernel
theorem dX5_mend_84 : decode cX5_mend 84 = .ok (.iload_n 3, 1) := by decide +kernel
theorem dX5_mend_85 : decode cX5_mend 85 = .ok (.iaload, 1) := by decide +kernel
theorem dX5_mend_86 : decode cX5_mend 86 = .ok (.istore 4, 2) := by decide +kernel
theorem dX5_mend_88 : decode cX5_mend 88 = .ok (.aload_n 0, 1) := by decide +kernel
theorem dX5_mend_89 : decode cX5_mend 89 = .ok (.getfield 32, 3) := by decide +kernel
theorem dX5_mend_92 : decode cX5_mend 92 = .ok (.getfield 192, 3) := by decide +kernel
theorem dX5_mend_95 : decode cX5_mend 95 = .ok (.iload 4, 2) := by decide +kernel
theorem dX5_mend_97 : decode cX5_mend 97 = .ok (.iload_n 2, 1) := by decide +kernel
theorem dX5_mend_98 : decode cX5_mend 98 = .ok (.iconst 1, 1) := by decide +kernel
theorem dX5_mend_99 : decode cX5_mend 99 = .ok (.iload 4, 2) := by decide +kernel
theorem dX5_mend_101 : decode cX5_mend 101 = .ok (.invokestatic 195, 3) := by decide +kernel
theorem dX5_mend_104 : decode cX5_mend 104 = .ok (.ishl, 1) := by decide +kernel
theorem dX5_mend_105 : decode cX5_mend 105 = .ok (.iand, 1) := by decide +kernel
theorem dX5_mend_106 : decode cX5_mend 106 = .ok (.iastore, 1) := by decide +kernel
theorem dX5_mend_107 : decode cX5_mend 107 = .ok (.iinc 3 1, 3) := by decide +kernel
theorem dX5_mend_110 : decode cX5_mend 110 = .ok (.goto (-44), 3) := by decide +kernel
theorem dX5_mend_113 : decode cX5_mend 113 = .ok (.iconst 0, 1) := by decide +kernel
theorem dX5_mend_114 : decode cX5_mend 114 = .ok (.istore_n 3, 1) := by decide +kernel
theorem dX5_mend_115 : decode cX5_mend 115 = .ok (.iload_n 3, 1) := by decide +kernel
theorem dX5_mend_116 : decode cX5_mend 116 = .ok (.bipush 20, 2) := by decide +kernel
theorem dX5_mend_118 : decode cX5_mend 118 = .ok (.if_icmp .ge 19, 3) := by decide +kernel
theorem dX5_mend_121 : decode cX5_mend 121 = .ok (.aload_n 0, 1) := by decide +kernel
theorem dX5_mend_122 : decode cX5_mend 122 = .ok (.getfield 32, 3) := by decide +kernel
theorem dX5_mend_125 : decode cX5_mend 125 = .ok (.iconst 1, 1) := by decide +kernel
theorem dX5_mend_126 : decode cX5_mend 126 = .ok (.iload_n 3, 1) := by decide +kernel
theorem dX5_mend_127 : decode cX5_mend 127 = .ok (.ishl, 1) := by decide +kernel
theorem dX5_mend_128 : decode cX5_mend 128 = .ok (.invokevirtual 230, 3) := by decide +kernel
theorem dX5_mend_131 : decode cX5_mend 131 = .ok (.iinc 3 1, 3) := by decide +kernel
theorem dX5_mend_134 : decode cX5_mend 134 = .ok (.goto (-19), 3) := by decide +kernel
theorem dX5_mend_137 : decode cX5_mend 137 = .ok (.aload_n 0, 1) := by decide +kernel
theorem dX5_mend_138 : decode cX5_mend 138 = .ok (.iload_n 2, 1) := by decide +kernel
theorem dX5_mend_139 : decode cX5_mend 139 = .ok (.invokevirtual 256, 3) := by decide +kernel
theorem dX5_mend_142 : decode cX5_mend 142 = .ok (.ireturn, 1) := by decide +kernel
theorem dX5_weaveFromEachMending_0 : decode cX5_weaveFromEachMending 0 = .ok (.aload_n 0, 1) := by decide +kernel
theorem dX5_weaveFromEachMending_1 : decode cX5_weaveFromEachMending 1 = .ok (.getfield 32, 3) := by decide +kernel
theorem dX5_weaveFromEachMending_4 : decode cX5_weaveFromEachMending 4 = .ok (.invokevirtual 233, 3) := by decide +kernel
theorem dX5_weaveFromEachMending_7 : decode cX5_weaveFromEachMending 7 = .ok (.iconst 0, 1) := by decide +kernel
theorem dX5_weaveFromEachMending_8 : decode cX5_weaveFromEachMending 8 = .ok (.istore_n 1, 1) := by decide +kernel
theorem dX5_weaveFromEachMending_9 : decode cX5_weaveFromEachMending 9 = .ok (.iload_n 1, 1) := by decide +kernel
theorem dX5_weaveFromEachMending_10 : decode cX5_weaveFromEachMending 10 = .ok (.sipush 256, 3) := by decide +kernel
theorem dX5_weaveFromEachMending_13 : decode cX5_weaveFromEachMending 13 = .ok (.if_icmp .ge 25, 3) := by decide +kernel
theorem dX5_weaveFromEachMending_16 : decode cX5_weaveFromEachMending 16 = .ok (.aload_n 0, 1) := by decide +kernel
theorem dX5_weaveFromEachMending_17 : decode cX5_weaveFromEachMending 17 = .ok (.getfield 32, 3) := by decide +kernel
theorem dX5_weaveFromEachMending_20 : decode cX5_weaveFromEachMending 20 = .ok (.aload_n 0, 1) := by decide +kernel
theorem dX5_weaveFromEachMending_21 : decode cX5_weaveFromEachMending 21 = .ok (.getfield 19, 3) := by decide +kernel
theorem dX5_weaveFromEachMending_24 : decode cX5_weaveFromEachMending 24 = .ok (.iload_n 1, 1) := by decide +kernel
theorem dX5_weaveFromEachMending_25 : decode cX5_weaveFromEachMending 25 = .ok (.invokevirtual 239, 3) := by decide +kernel
theorem dX5_weaveFromEachMending_28 : decode cX5_weaveFromEachMending 28 = .ok (.iconst (-1), 1) := by decide +kernel
theorem dX5_weaveFromEachMending_29 : decode cX5_weaveFromEachMending 29 = .ok (.invokevirtual 242, 3) := by decide +kernel
theorem dX5_weaveFromEachMending_32 : decode cX5_weaveFromEachMending 32 = .ok (.iinc 1 1, 3) := by decide +kernel
theorem dX5_weaveFromEachMending_35 : decode cX5_weaveFromEachMending 35 = .ok (.goto (-26), 3) := by decide +kernel
theorem dX5_weaveFromEachMending_38 : decode cX5_weaveFromEachMending 38 = .ok (.aload_n 0, 1) := by decide +kernel
theorem dX5_weaveFromEachMending_39 : decode cX5_weaveFromEachMending 39 = .ok (.getfield 32, 3) := by decide +kernel
theorem dX5_weaveFromEachMending_42 : decode cX5_weaveFromEachMending 42 = .ok (.aload_n 0, 1) := by decide +kernel
theorem dX5_weaveFromEachMending_43 : decode cX5_weaveFromEachMending 43 = .ok (.getfield 19, 3) := by decide +kernel
theorem dX5_weaveFromEachMending_46 : decode cX5_weaveFromEachMending 46 = .ok (.aload_n 0, 1) := by decide +kernel
theorem dX5_weaveFromEachMending_47 : decode cX5_weaveFromEachMending 47 = .ok (.getfield 224, 3) := by decide +kernel
theorem dX5_weaveFromEachMending_50 : decode cX5_weaveFromEachMending 50 = .ok (.invokevirtual 246, 3) := by decide +kernel
theorem dX5_weaveFromEachMending_53 : decode cX5_weaveFromEachMending 53 = .ok (.return_, 1) := by decide +kernel
theorem dX5_leastMending_0 : decode cX5_leastMending 0 = .ok (.sipush (-1003), 3) := by decide +kernel
theorem dX5_leastMending_3 : decode cX5_leastMending 3 = .ok (.istore_n 2, 1) := by decide +kernel
theorem dX5_leastMending_4 : decode cX5_leastMending 4 = .ok (.bipush 9, 2) := by decide +kernel
theorem dX5_leastMending_6 : decode cX5_leastMending 6 = .ok (.istore_n 3, 1) := by decide +kernel
theorem dX5_leastMending_7 : decode cX5_leastMending 7 = .ok (.iconst 0, 1) := by decide +kernel
theorem dX5_leastMending_8 : decode cX5_leastMending 8 = .ok (.istore 4, 2) := by decide +kernel
theorem dX5_leastMending_10 : decode cX5_leastMending 10 = .ok (.iload 4, 2) := by decide +kernel
theorem dX5_leastMending_12 : decode cX5_leastMending 12 = .ok (.sipush 256, 3) := by decide +kernel
theorem dX5_leastMending_15 : decode cX5_leastMending 15 = .ok (.if_icmp .ge 60, 3) := by decide +kernel
theorem dX5_leastMending_18 : decode cX5_leastMending 18 = .ok (.aload_n 0, 1) := by decide +kernel
theorem dX5_leastMending_19 : decode cX5_leastMending 19 = .ok (.getfield 32, 3) := by decide +kernel
theorem dX5_leastMending_22 : decode cX5_leastMending 22 = .ok (.getfield 192, 3) := by decide +kernel
theorem dX5_leastMending_25 : decode cX5_leastMending 25 = .ok (.aload_n 0, 1) := by decide +kernel
theorem dX5_leastMending_26 : decode cX5_leastMending 26 = .ok (.getfield 19, 3) := by decide +kernel
theorem dX5_leastMending_29 : decode cX5_leastMending 29 = .ok (.iload 4, 2) := by decide +kernel
theorem dX5_leastMending_31 : decode cX5_leastMending 31 = .ok (.invokevirtual 239, 3) := by decide +kernel
theorem dX5_leastMending_34 : decode cX5_leastMending 34 = .ok (.iaload, 1) := by decide +kernel
theorem dX5_leastMending_35 : decode cX5_leastMending 35 = .ok (.iload_n 1, 1) := by decide +kernel
theorem dX5_leastMending_36 : decode cX5_leastMending 36 = .ok (.if_icmp .ne 7, 3) := by decide +kernel
theorem dX5_leastMending_39 : decode cX5_leastMending 39 = .ok (.iconst 1, 1) := by decide +kernel
theorem dX5_leastMending_40 : decode cX5_leastMending 40 = .ok (.goto 4, 3) := by decide +kernel
theorem dX5_leastMending_43 : decode cX5_leastMending 43 = .ok (.iconst 0, 1) := by decide +kernel
theorem dX5_leastMending_44 : decode cX5_leastMending 44 = .ok (.istore 5, 2) := by decide +kernel
theorem dX5_leastMending_46 : decode cX5_leastMending 46 = .ok (.iload 5, 2) := by decide +kernel
theorem dX5_leastMending_48 : decode cX5_leastMending 48 = .ok (.ifCond .eq 21, 3) := by decide +kernel
theorem dX5_leastMending_51 : decode cX5_leastMending 51 = .ok (.iload 4, 2) := by decide +kernel
theorem dX5_leastMending_53 : decode cX5_leastMending 53 = .ok (.invokestatic 259, 3) := by decide +kernel
theorem dX5_leastMending_56 : decode cX5_leastMending 56 = .ok (.iload_n 3, 1) := by decide +kernel
theorem dX5_leastMending_57 : decode cX5_leastMending 57 = .ok (.if_icmp .ge 12, 3) := by decide +kernel
theorem dX5_leastMending_60 : decode cX5_leastMending 60 = .ok (.iload 4, 2) := by decide +kernel
theorem dX5_leastMending_62 : decode cX5_leastMending 62 = .ok (.istore_n 2, 1) := by decide +kernel
theorem dX5_leastMending_63 : decode cX5_leastMending 63 = .ok (.iload 4, 2) := by decide +kernel
theorem dX5_leastMending_65 : decode cX5_leastMending 65 = .ok (.invokestatic 259, 3) := by decide +kernel
theorem dX5_leastMending_68 : decode cX5_leastMending 68 = .ok (.istore_n 3, 1) := by decide +kernel
theorem dX5_leastMending_69 : decode cX5_leastMending 69 = .ok (.iinc 4 1, 3) := by decide +kernel
theorem dX5_leastMending_72 : decode cX5_leastMending 72 = .ok (.goto (-62), 3) := by decide +kernel
theorem dX5_leastMending_75 : decode cX5_leastMending 75 = .ok (.iload_n 2, 1) := by decide +kernel
theorem dX5_leastMending_76 : decode cX5_leastMending 76 = .ok (.ireturn, 1) := by decide +kernel
theorem dX5_sheet_0 : decode cX5_sheet 0 = .ok (.iload_n 1, 1) := by decide +kernel
theorem dX5_sheet_1 : decode cX5_sheet 1 = .ok (.invokestatic 264, 3) := by decide +kernel
theorem dX5_sheet_4 : decode cX5_sheet 4 = .ok (.ifCond .eq 16, 3) := by decide +kernel
theorem dX5_sheet_7 : decode cX5_sheet 7 = .ok (.iload_n 2, 1) := by decide +kernel
theorem dX5_sheet_8 : decode cX5_sheet 8 = .ok (.invokestatic 267, 3) := by decide +kernel
theorem dX5_sheet_11 : decode cX5_sheet 11 = .ok (.ifCond .eq 9, 3) := by decide +kernel
theorem dX5_sheet_14 : decode cX5_sheet 14 = .ok (.iload_n 3, 1) := by decide +kernel
theorem dX5_sheet_15 : decode cX5_sheet 15 = .ok (.bipush 30, 2) := by decide +kernel
theorem dX5_sheet_17 : decode cX5_sheet 17 = .ok (.if_icmp .le 7, 3) := by decide +kernel
theorem dX5_sheet_20 : decode cX5_sheet 20 = .ok (.sipush (-1002), 3) := by decide +kernel
theorem dX5_sheet_23 : decode cX5_sheet 23 = .ok (.ireturn, 1) := by decide +kernel
theorem dX5_sheet_24 : decode cX5_sheet 24 = .ok (.iload_n 3, 1) := by decide +kernel
theorem dX5_sheet_25 : decode cX5_sheet 25 = .ok (.ifCond .ge 11, 3) := by decide +kernel
theorem dX5_sheet_28 : decode cX5_sheet 28 = .ok (.aload_n 0, 1) := by decide +kernel
theorem dX5_sheet_29 : decode cX5_sheet 29 = .ok (.sipush (-1013), 3) := by decide +kernel
theorem dX5_sheet_32 : decode cX5_sheet 32 = .ok (.invokevirtual 111, 3) := by decide +kernel
theorem dX5_sheet_35 : decode cX5_sheet 35 = .ok (.ireturn, 1) := by decide +kernel
theorem dX5_sheet_36 : decode cX5_sheet 36 = .ok (.aload_n 0, 1) := by decide +kernel
theorem dX5_sheet_37 : decode cX5_sheet 37 = .ok (.getfield 45, 3) := by decide +kernel
theorem dX5_sheet_40 : decode cX5_sheet 40 = .ok (.iload_n 1, 1) := by decide +kernel
theorem dX5_sheet_41 : decode cX5_sheet 41 = .ok (.aaload, 1) := by decide +kernel
theorem dX5_sheet_42 : decode cX5_sheet 42 = .ok (.iload_n 2, 1) := by decide +kernel
theorem dX5_sheet_43 : decode cX5_sheet 43 = .ok (.iload_n 3, 1) := by decide +kernel
theorem dX5_sheet_44 : decode cX5_sheet 44 = .ok (.invokevirtual 270, 3) := by decide +kernel
theorem dX5_sheet_47 : decode cX5_sheet 47 = .ok (.iload_n 3, 1) := by decide +kernel
theorem dX5_sheet_48 : decode cX5_sheet 48 = .ok (.ireturn, 1) := by decide +kernel
theorem dX5_write_0 : decode cX5_write 0 = .ok (.iload_n 1, 1) := by decide +kernel
theorem dX5_write_1 : decode cX5_write 1 = .ok (.invokestatic 264, 3) := by decide +kernel
theorem dX5_write_4 : decode cX5_write 4 = .ok (.ifCond .ne 7, 3) := by decide +kernel
theorem dX5_write_7 : decode cX5_write 7 = .ok (.sipush (-1002), 3) := by decide +kernel
theorem dX5_write_10 : decode cX5_write 10 = .ok (.ireturn, 1) := by decide +kernel
theorem dX5_write_11 : decode cX5_write 11 = .ok (.aload_n 0, 1) := by decide +kernel
theorem dX5_write_12 : decode cX5_write 12 = .ok (.getfield 45, 3) := by decide +kernel
theorem dX5_write_15 : decode cX5_write 15 = .ok (.iload_n 1, 1) := by decide +kernel
theorem dX5_write_16 : decode cX5_write 16 = .ok (.aaload, 1) := by decide +kernel
theorem dX5_write_17 : decode cX5_write 17 = .ok (.astore 4, 2) := by decide +kernel
theorem dX5_write_19 : decode cX5_write 19 = .ok (.aload 4, 2) := by decide +kernel
theorem dX5_write_21 : decode cX5_write 21 = .ok (.invokevirtual 273, 3) := by decide +kernel
theorem dX5_write_24 : decode cX5_write 24 = .ok (.ifCond .eq 11, 3) := by decide +kernel
theorem dX5_write_27 : decode cX5_write 27 = .ok (.aload_n 0, 1) := by decide +kernel
theorem dX5_write_28 : decode cX5_write 28 = .ok (.sipush (-1010), 3) := by decide +kernel
theorem dX5_write_31 : decode cX5_write 31 = .ok (.invokevirtual 111, 3) := by decide +kernel
theorem dX5_write_34 : decode cX5_write 34 = .ok (.ireturn, 1) := by decide +kernel
theorem dX5_write_35 : decode cX5_write 35 = .ok (.aload 4, 2) := by decide +kernel
theorem dX5_write_37 : decode cX5_write 37 = .ok (.iload_n 2, 1) := by decide +kernel
theorem dX5_write_38 : decode cX5_write 38 = .ok (.invokevirtual 276, 3) := by decide +kernel
theorem dX5_write_41 : decode cX5_write 41 = .ok (.ifCond .ne 11, 3) := by decide +kernel
theorem dX5_write_44 : decode cX5_write 44 = .ok (.aload_n 0, 1) := by decide +kernel
theorem dX5_write_45 : decode cX5_write 45 = .ok (.sipush (-1011), 3) := by decide +kernel
theorem dX5_write_48 : decode cX5_write 48 = .ok (.invokevirtual 111, 3) := by decide +kernel
theorem dX5_write_51 : decode cX5_write 51 = .ok (.ireturn, 1) := by decide +kernel
theorem dX5_write_52 : decode cX5_write 52 = .ok (.aload 4, 2) := by decide +kernel
theorem dX5_write_54 : decode cX5_write 54 = .ok (.getfield 279, 3) := by decide +kernel
theorem dX5_write_57 : decode cX5_write 57 = .ok (.iload_n 2, 1) := by decide +kernel
theorem dX5_write_58 : decode cX5_write 58 = .ok (.iaload, 1) := by decide +kernel
theorem dX5_write_59 : decode cX5_write 59 = .ok (.istore 5, 2) := by decide +kernel
theorem dX5_write_61 : decode cX5_write 61 = .ok (.aload 4, 2) := by decide +kernel
theorem dX5_write_63 : decode cX5_write 63 = .ok (.getfield 279, 3) := by decide +kernel
theorem dX5_write_66 : decode cX5_write 66 = .ok (.iload_n 2, 1) := by decide +kernel
theorem dX5_write_67 : decode cX5_write 67 = .ok (.aload 4, 2) := by decide +kernel
theorem dX5_write_69 : decode cX5_write 69 = .ok (.iload_n 3, 1) := by decide +kernel
theorem dX5_write_70 : decode cX5_write 70 = .ok (.invokevirtual 282, 3) := by decide +kernel
theorem dX5_write_73 : decode cX5_write 73 = .ok (.iastore, 1) := by decide +kernel
theorem dX5_write_74 : decode cX5_write 74 = .ok (.iload 5, 2) := by decide +kernel
theorem dX5_write_76 : decode cX5_write 76 = .ok (.ireturn, 1) := by decide +kernel
theorem dX5_words_0 : decode cX5_words 0 = .ok (.iload_n 1, 1) := by decide +kernel
theorem dX5_words_1 : decode cX5_words 1 = .ok (.invokestatic 64, 3) := by decide +kernel
theorem dX5_words_4 : decode cX5_words 4 = .ok (.ifCond .eq 17, 3) := by decide +kernel
theorem dX5_words_7 : decode cX5_words 7 = .ok (.iload_n 2, 1) := by decide +kernel
theorem dX5_words_8 : decode cX5_words 8 = .ok (.invokestatic 264, 3) := by decide +kernel
theorem dX5_words_11 : decode cX5_words 11 = .ok (.ifCond .eq 10, 3) := by decide +kernel
theorem dX5_words_14 : decode cX5_words 14 = .ok (.iload_n 3, 1) := by decide +kernel
theorem dX5_words_15 : decode cX5_words 15 = .ok (.invokestatic 267, 3) := by decide +kernel
theorem dX5_words_18 : decode cX5_words 18 = .ok (.ifCond .ne 7, 3) := by decide +kernel
theorem dX5_words_21 : decode cX5_words 21 = .ok (.sipush (-1002), 3) := by decide +kernel
theorem dX5_words_24 : decode cX5_words 24 = .ok (.ireturn, 1) := by decide +kernel
theorem dX5_words_25 : decode cX5_words 25 = .ok (.aload_n 0, 1) := by decide +kernel
theorem dX5_words_26 : decode cX5_words 26 = .ok (.getfield 45, 3) := by decide +kernel
theorem dX5_words_29 : decode cX5_words 29 = .ok (.iload_n 2, 1) := by decide +kernel
theorem dX5_words_30 : decode cX5_words 30 = .ok (.aaload, 1) := by decide +kernel
theorem dX5_words_31 : decode cX5_words 31 = .ok (.astore 5, 2) := by decide +kernel
theorem dX5_words_33 : decode cX5_words 33 = .ok (.aload_n 0, 1) := by decide +kernel
theorem dX5_words_34 : decode cX5_words 34 = .ok (.getfield 19, 3) := by decide +kernel
theorem dX5_words_37 : decode cX5_words 37 = .ok (.iload_n 1, 1) := by decide +kernel
theorem dX5_words_38 : decode cX5_words 38 = .ok (.invokevirtual 76, 3) := by decide +kernel
theorem dX5_words_41 : decode cX5_words 41 = .ok (.invokevirtual 107, 3) := by decide +kernel
theorem dX5_words_44 : decode cX5_words 44 = .ok (.ifCond .eq 11, 3) := by decide +kernel
theorem dX5_words_47 : decode cX5_words 47 = .ok (.aload 5, 2) := by decide +kernel
theorem dX5_words_49 : decode cX5_words 49 = .ok (.invokevirtual 273, 3) := by decide +kernel
theorem dX5_words_52 : decode cX5_words 52 = .ok (.ifCond .eq 11, 3) := by decide +kernel
theorem dX5_words_55 : decode cX5_words 55 = .ok (.aload_n 0, 1) := by decide +kernel
theorem dX5_words_56 : decode cX5_words 56 = .ok (.sipush (-1010), 3) := by decide +kernel
theorem dX5_words_59 : decode cX5_words 59 = .ok (.invokevirtual 111, 3) := by decide +kernel
theorem dX5_words_62 : decode cX5_words 62 = .ok (.ireturn, 1) := by decide +kernel
theorem dX5_words_63 : decode cX5_words 63 = .ok (.aload 5, 2) := by decide +kernel
theorem dX5_words_65 : decode cX5_words 65 = .ok (.getfield 285, 3) := by decide +kernel
theorem dX5_words_68 : decode cX5_words 68 = .ok (.iload_n 3, 1) := by decide +kernel
theorem dX5_words_69 : decode cX5_words 69 = .ok (.if_icmp .eq 11, 3) := by decide +kernel
theorem dX5_words_72 : decode cX5_words 72 = .ok (.aload_n 0, 1) := by decide +kernel
theorem dX5_words_73 : decode cX5_words 73 = .ok (.sipush (-1012), 3) := by decide +kernel
theorem dX5_words_76 : decode cX5_words 76 = .ok (.invokevirtual 111, 3) := by decide +kernel
theorem dX5_words_79 : decode cX5_words 79 = .ok (.ireturn, 1) := by decide +kernel
theorem dX5_words_80 : decode cX5_words 80 = .ok (.iconst 0, 1) := by decide +kernel
theorem dX5_words_81 : decode cX5_words 81 = .ok (.istore 6, 2) := by decide +kernel
theorem dX5_words_83 : decode cX5_words 83 = .ok (.iload 6, 2) := by decide +kernel
theorem dX5_words_85 : decode cX5_words 85 = .ok (.bipush 6, 2) := by decide +kernel
theorem dX5_words_87 : decode cX5_words 87 = .ok (.if_icmp .ge 46, 3) := by decide +kernel
theorem dX5_words_90 : decode cX5_words 90 = .ok (.aload_n 0, 1) := by decide +kernel
theorem dX5_words_91 : decode cX5_words 91 = .ok (.getfield 19, 3) := by decide +kernel
theorem dX5_words_94 : decode cX5_words 94 = .ok (.iload_n 1, 1) := by decide +kernel
theorem dX5_words_95 : decode cX5_words 95 = .ok (.iload 6, 2) := by decide +kernel
theorem dX5_words_97 : decode cX5_words 97 = .ok (.invokevirtual 125, 3) := by decide +kernel
theorem dX5_words_100 : decode cX5_words 100 = .ok (.invokevirtual 107, 3) := by decide +kernel
theorem dX5_words_103 : decode cX5_words 103 = .ok (.ifCond .eq 24, 3) := by decide +kernel
theorem dX5_words_106 : decode cX5_words 106 = .ok (.aload 5, 2) := by decide +kernel
theorem dX5_words_108 : decode cX5_words 108 = .ok (.iload 4, 2) := by decide +kernel
theorem dX5_words_110 : decode cX5_words 110 = .ok (.iload 6, 2) := by decide +kernel
theorem dX5_words_112 : decode cX5_words 112 = .ok (.iadd, 1) := by decide +kernel
theorem dX5_words_113 : decode cX5_words 113 = .ok (.invokevirtual 276, 3) := by decide +kernel
theorem dX5_words_116 : decode cX5_words 116 = .ok (.ifCond .ne 11, 3) := by decide +kernel
theorem dX5_words_119 : decode cX5_words 119 = .ok (.aload_n 0, 1) := by decide +kernel
theorem dX5_words_120 : decode cX5_words 120 = .ok (.sipush (-1011), 3) := by decide +kernel
theorem dX5_words_123 : decode cX5_words 123 = .ok (.invokevirtual 111, 3) := by decide +kernel
theorem dX5_words_126 : decode cX5_words 126 = .ok (.ireturn, 1) := by decide +kernel
theorem dX5_words_127 : decode cX5_words 127 = .ok (.iinc 6 1, 3) := by decide +kernel
theorem dX5_words_130 : decode cX5_words 130 = .ok (.goto (-47), 3) := by decide +kernel
theorem dX5_words_133 : decode cX5_words 133 = .ok (.aload_n 0, 1) := by decide +kernel
theorem dX5_words_134 : decode cX5_words 134 = .ok (.iload_n 1, 1) := by decide +kernel
theorem dX5_words_135 : decode cX5_words 135 = .ok (.aload 5, 2) := by decide +kernel
theorem dX5_words_137 : decode cX5_words 137 = .ok (.iload 4, 2) := by decide +kernel
theorem dX5_words_139 : decode cX5_words 139 = .ok (.invokevirtual 288, 3) := by decide +kernel
theorem dX5_words_142 : decode cX5_words 142 = .ok (.ireturn, 1) := by decide +kernel
theorem dX5_takeWords_0 : decode cX5_takeWords 0 = .ok (.iconst 0, 1) := by decide +kernel
theorem dX5_takeWords_1 : decode cX5_takeWords 1 = .ok (.istore 4, 2) := by decide +kernel
theorem dX5_takeWords_3 : decode cX5_takeWords 3 = .ok (.iconst 0, 1) := by decide +kernel
theorem dX5_takeWords_4 : decode cX5_takeWords 4 = .ok (.istore 5, 2) := by decide +kernel
theorem dX5_takeWords_6 : decode cX5_takeWords 6 = .ok (.iload 5, 2) := by decide +kernel
theorem dX5_takeWords_8 : decode cX5_takeWords 8 = .ok (.bipush 6, 2) := by decide +kernel
theorem dX5_takeWords_10 : decode cX5_takeWords 10 = .ok (.if_icmp .ge 87, 3) := by decide +kernel
theorem dX5_takeWords_13 : decode cX5_takeWords 13 = .ok (.aload_n 0, 1) := by decide +kernel
theorem dX5_takeWords_14 : decode cX5_takeWords 14 = .ok (.getfield 19, 3) := by decide +kernel
theorem dX5_takeWords_17 : decode cX5_takeWords 17 = .ok (.iload_n 1, 1) := by decide +kernel
theorem dX5_takeWords_18 : decode cX5_takeWords 18 = .ok (.iload 5, 2) := by decide +kernel
theorem dX5_takeWords_20 : decode cX5_takeWords 20 = .ok (.invokevirtual 125, 3) := by decide +kernel
theorem dX5_takeWords_23 : decode cX5_takeWords 23 = .ok (.astore 6, 2) := by decide +kernel
theorem dX5_takeWords_25 : decode cX5_takeWords 25 = .ok (.aload 6, 2) := by decide +kernel
theorem dX5_takeWords_27 : decode cX5_takeWords 27 = .ok (.invokevirtual 107, 3) := by decide +kernel
theorem dX5_takeWords_30 : decode cX5_takeWords 30 = .ok (.ifCond .eq 61, 3) := by decide +kernel
theorem dX5_takeWords_33 : decode cX5_takeWords 33 = .ok (.aload_n 2, 1) := by decide +kernel
theorem dX5_takeWords_34 : decode cX5_takeWords 34 = .ok (.iload_n 3, 1) := by decide +kernel
theorem dX5_takeWords_35 : decode cX5_takeWords 35 = .ok (.iload 5, 2) := by decide +kernel
theorem dX5_takeWords_37 : decode cX5_takeWords 37 = .ok (.iadd, 1) := by decide +kernel
theorem dX5_takeWords_38 : decode cX5_takeWords 38 = .ok (.invokevirtual 276, 3) := by decide +kernel
theorem dX5_takeWords_41 : decode cX5_takeWords 41 = .ok (.ifCond .eq 50, 3) := by decide +kernel
theorem dX5_takeWords_44 : decode cX5_takeWords 44 = .ok (.aload_n 2, 1) := by decide +kernel
theorem dX5_takeWords_45 : decode cX5_takeWords 45 = .ok (.getfield 279, 3) := by decide +kernel
theorem dX5_takeWords_48 : decode cX5_takeWords 48 = .ok (.iload_n 3, 1) := by decide +kernel
theorem dX5_takeWords_49 : decode cX5_takeWords 49 = .ok (.iload 5, 2) := by decide +kernel
theorem dX5_takeWords_51 : decode cX5_takeWords 51 = .ok (.iadd, 1) := by decide +kernel
theorem dX5_takeWords_52 : decode cX5_takeWords 52 = .ok (.iaload, 1) := by decide +kernel
theorem dX5_takeWords_53 : decode cX5_takeWords 53 = .ok (.istore 7, 2) := by decide +kernel
theorem dX5_takeWords_55 : decode cX5_takeWords 55 = .ok (.aload 6, 2) := by decide +kernel
theorem dX5_takeWords_57 : decode cX5_takeWords 57 = .ok (.iconst 0, 1) := by decide +kernel
theorem dX5_takeWords_58 : decode cX5_takeWords 58 = .ok (.bipush 99, 2) := by decide +kernel
theorem dX5_takeWords_60 : decode cX5_takeWords 60 = .ok (.iload 7, 2) := by decide +kernel
theorem dX5_takeWords_62 : decode cX5_takeWords 62 = .ok (.invokestatic 292, 3) := by decide +kernel
theorem dX5_takeWords_65 : decode cX5_takeWords 65 = .ok (.invokestatic 297, 3) := by decide +kernel
theorem dX5_takeWords_68 : decode cX5_takeWords 68 = .ok (.putfield 135, 3) := by decide +kernel
theorem dX5_takeWords_71 : decode cX5_takeWords 71 = .ok (.iload 4, 2) := by decide +kernel
theorem dX5_takeWords_73 : decode cX5_takeWords 73 = .ok (.aload 6, 2) := by decide +kernel
theorem dX5_takeWords_75 : decode cX5_takeWords 75 = .ok (.getfield 135, 3) := by decide +kernel
theorem dX5_takeWords_78 : decode cX5_takeWords 78 = .ok (.iload 7, 2) := by decide +kernel
theorem dX5_takeWords_80 : decode cX5_takeWords 80 = .ok (.if_icmp .ne 7, 3) := by decide +kernel
theorem dX5_takeWords_83 : decode cX5_takeWords 83 = .ok (.iconst 0, 1) := by decide +kernel
theorem dX5_takeWords_84 : decode cX5_takeWords 84 = .ok (.goto 4, 3) := by decide +kernel
theorem dX5_takeWords_87 : decode cX5_takeWords 87 = .ok (.iconst 1, 1) := by decide +kernel
theorem dX5_takeWords_88 : decode cX5_takeWords 88 = .ok (.iadd, 1) := by decide +kernel
theorem dX5_takeWords_89 : decode cX5_takeWords 89 = .ok (.istore 4, 2) := by decide +kernel
theorem dX5_takeWords_91 : decode cX5_takeWords 91 = .ok (.iinc 5 1, 3) := by decide +kernel
theorem dX5_takeWords_94 : decode cX5_takeWords 94 = .ok (.goto (-88), 3) := by decide +kernel
theorem dX5_takeWords_97 : decode cX5_takeWords 97 = .ok (.iload 4, 2) := by decide +kernel
theorem dX5_takeWords_99 : decode cX5_takeWords 99 = .ok (.ireturn, 1) := by decide +kernel
theorem dX5_sessions_0 : decode cX5_sessions 0 = .ok (.iload_n 1, 1) := by decide +kernel
theorem dX5_sessions_1 : decode cX5_sessions 1 = .ok (.invokestatic 132, 3) := by decide +kernel
theorem dX5_sessions_4 : decode cX5_sessions 4 = .ok (.ifCond .eq 15, 3) := by decide +kernel
theorem dX5_sessions_7 : decode cX5_sessions 7 = .ok (.iload_n 2, 1) := by decide +kernel
theorem dX5_sessions_8 : decode cX5_sessions 8 = .ok (.iconst 1, 1) := by decide +kernel
theorem dX5_sessions_9 : decode cX5_sessions 9 = .ok (.if_icmp .lt 10, 3) := by decide +kernel
theorem dX5_sessions_12 : decode cX5_sessions 12 = .ok (.iload_n 2, 1) := by decide +kernel
theorem dX5_sessions_13 : decode cX5_sessions 13 = .ok (.sipush 1000, 3) := by decide +kernel
theorem dX5_sessions_16 : decode cX5_sessions 16 = .ok (.if_icmp .le 7, 3) := by decide +kernel
theorem dX5_sessions_19 : decode cX5_sessions 19 = .ok (.sipush (-1002), 3) := by decide +kernel
theorem dX5_sessions_22 : decode cX5_sessions 22 = .ok (.ireturn, 1) := by decide +kernel
theorem dX5_sessions_23 : decode cX5_sessions 23 = .ok (.iconst 0, 1) := by decide +kernel
theorem dX5_sessions_24 : decode cX5_sessions 24 = .ok (.istore_n 3, 1) := by decide +kernel
theorem dX5_sessions_25 : decode cX5_sessions 25 = .ok (.iconst 0, 1) := by decide +kernel
theorem dX5_sessions_26 : decode cX5_sessions 26 = .ok (.istore 4, 2) := by decide +kernel
theorem dX5_sessions_28 : decode cX5_sessions 28 = .ok (.iconst 0, 1) := by decide +kernel
theorem dX5_sessions_29 : decode cX5_sessions 29 = .ok (.istore 5, 2) := by decide +kernel
theorem dX5_sessions_31 : decode cX5_sessions 31 = .ok (.iload 5, 2) := by decide +kernel
theorem dX5_sessions_33 : decode cX5_sessions 33 = .ok (.bipush 20, 2) := by decide +kernel
theorem dX5_sessions_35 : decode cX5_sessions 35 = .ok (.if_icmp .ge 105, 3) := by decide +kernel
theorem dX5_sessions_38 : decode cX5_sessions 38 = .ok (.iconst 0, 1) := by decide +kernel
theorem dX5_sessions_39 : decode cX5_sessions 39 = .ok (.istore 6, 2) := by decide +kernel
theorem dX5_sessions_41 : decode cX5_sessions 41 = .ok (.iload 6, 2) := by decide +kernel
theorem dX5_sessions_43 : decode cX5_sessions 43 = .ok (.bipush 6, 2) := by decide +kernel
theorem dX5_sessions_45 : decode cX5_sessions 45 = .ok (.if_icmp .ge 89, 3) := by decide +kernel
theorem dX5_sessions_48 : decode cX5_sessions 48 = .ok (.aload_n 0, 1) := by decide +kernel
theorem dX5_sessions_49 : decode cX5_sessions 49 = .ok (.getfield 19, 3) := by decide +kernel
theorem dX5_sessions_52 : decode cX5_sessions 52 = .ok (.iload 5, 2) := by decide +kernel
theorem dX5_sessions_54 : decode cX5_sessions 54 = .ok (.iload 6, 2) := by decide +kernel
theorem dX5_sessions_56 : decode cX5_sessions 56 = .ok (.invokevirtual 125, 3) := by decide +kernel
theorem dX5_sessions_59 : decode cX5_sessions 59 = .ok (.astore 7, 2) := by decide +kernel
theorem dX5_sessions_61 : decode cX5_sessions 61 = .ok (.aload 7, 2) := by decide +kernel
theorem dX5_sessions_63 : decode cX5_sessions 63 = .ok (.invokevirtual 107, 3) := by decide +kernel
theorem dX5_sessions_66 : decode cX5_sessions 66 = .ok (.ifCond .eq 62, 3) := by decide +kernel
theorem dX5_sessions_69 : decode cX5_sessions 69 = .ok (.aload 7, 2) := by decide +kernel
theorem dX5_sessions_71 : decode cX5_sessions 71 = .ok (.getfield 138, 3) := by decide +kernel
theorem dX5_sessions_74 : decode cX5_sessions 74 = .ok (.iload_n 1, 1) := by decide +kernel
theorem dX5_sessions_75 : decode cX5_sessions 75 = .ok (.if_icmp .ne 53, 3) := by decide +kernel
theorem dX5_sessions_78 : decode cX5_sessions 78 = .ok (.aload 7, 2) := by decide +kernel
theorem dX5_sessions_80 : decode cX5_sessions 80 = .ok (.getfield 135, 3) := by decide +kernel
theorem dX5_sessions_83 : decode cX5_sessions 83 = .ok (.ifCond .ne 6, 3) := by decide +kernel
theorem dX5_sessions_86 : decode cX5_sessions 86 = .ok (.goto 42, 3) := by decide +kernel
theorem dX5_sessions_89 : decode cX5_sessions 89 = .ok (.aload 7, 2) := by decide +kernel
theorem dX5_sessions_91 : decode cX5_sessions 91 = .ok (.getfield 135, 3) := by decide +kernel
theorem dX5_sessions_94 : decode cX5_sessions 94 = .ok (.iload_n 2, 1) := by decide +kernel
theorem dX5_sessions_95 : decode cX5_sessions 95 = .ok (.if_icmp .le 7, 3) := by decide +kernel
theorem dX5_sessions_98 : decode cX5_sessions 98 = .ok (.sipush (-1003), 3) := by decide +kernel
theorem dX5_sessions_101 : decode cX5_sessions 101 = .ok (.ireturn, 1) := by decide +kernel
theorem dX5_sessions_102 : decode cX5_sessions 102 = .ok (.aload 7, 2) := by decide +kernel
theorem dX5_sessions_104 : decode cX5_sessions 104 = .ok (.getfield 135, 3) := by decide +kernel
theorem dX5_sessions_107 : decode cX5_sessions 107 = .ok (.iload 4, 2) := by decide +kernel
theorem dX5_sessions_109 : decode cX5_sessions 109 = .ok (.if_icmp .le 9, 3) := by decide +kernel
theorem dX5_sessions_112 : decode cX5_sessions 112 = .ok (.iinc 3 1, 3) := by decide +kernel
theorem dX5_sessions_115 : decode cX5_sessions 115 = .ok (.iload_n 2, 1) := by decide +kernel
theorem dX5_sessions_116 : decode cX5_sessions 116 = .ok (.istore 4, 2) := by decide +kernel
theorem dX5_sessions_118 : decode cX5_sessions 118 = .ok (.iload 4, 2) := by decide +kernel
theorem dX5_sessions_120 : decode cX5_sessions 120 = .ok (.aload 7, 2) := by decide +kernel
theorem dX5_sessions_122 : decode cX5_sessions 122 = .ok (.getfield 135, 3) := by decide +kernel
theorem dX5_sessions_125 : decode cX5_sessions 125 = .ok (.isub, 1) := by decide +kernel
theorem dX5_sessions_126 : decode cX5_sessions 126 = .ok (.istore 4, 2) := by decide +kernel
theorem dX5_sessions_128 : decode cX5_sessions 128 = .ok (.iinc 6 1, 3) := by decide +kernel
theorem dX5_sessions_131 : decode cX5_sessions 131 = .ok (.goto (-90), 3) := by decide +kernel
theorem dX5_sessions_134 : decode cX5_sessions 134 = .ok (.iinc 5 1, 3) := by decide +kernel
theorem dX5_sessions_137 : decode cX5_sessions 137 = .ok (.goto (-106), 3) := by decide +kernel
theorem dX5_sessions_140 : decode cX5_sessions 140 = .ok (.iload_n 3, 1) := by decide +kernel
theorem dX5_sessions_141 : decode cX5_sessions 141 = .ok (.ireturn, 1) := by decide +kernel
theorem dX5_tell_0 : decode cX5_tell 0 = .ok (.aload_n 0, 1) := by decide +kernel
theorem dX5_tell_1 : decode cX5_tell 1 = .ok (.getfield 300, 3) := by decide +kernel
theorem dX5_tell_4 : decode cX5_tell 4 = .ok (.bipush 30, 2) := by decide +kernel
theorem dX5_tell_6 : decode cX5_tell 6 = .ok (.if_icmp .lt 7, 3) := by decide +kernel
theorem dX5_tell_9 : decode cX5_tell 9 = .ok (.sipush (-1002), 3) := by decide +kernel
theorem dX5_tell_12 : decode cX5_tell 12 = .ok (.ireturn, 1) := by decide +kernel
theorem dX5_tell_13 : decode cX5_tell 13 = .ok (.aload_n 0, 1) := by decide +kernel
theorem dX5_tell_14 : decode cX5_tell 14 = .ok (.getfield 49, 3) := by decide +kernel
theorem dX5_tell_17 : decode cX5_tell 17 = .ok (.aload_n 0, 1) := by decide +kernel
theorem dX5_tell_18 : decode cX5_tell 18 = .ok (.getfield 300, 3) := by decide +kernel
theorem dX5_tell_21 : decode cX5_tell 21 = .ok (.iload_n 1, 1) := by decide +kernel
theorem dX5_tell_22 : decode cX5_tell 22 = .ok (.iastore, 1) := by decide +kernel
theorem dX5_tell_23 : decode cX5_tell 23 = .ok (.aload_n 0, 1) := by decide +kernel
theorem dX5_tell_24 : decode cX5_tell 24 = .ok (.dup, 1) := by decide +kernel
theorem dX5_tell_25 : decode cX5_tell 25 = .ok (.getfield 300, 3) := by decide +kernel
theorem dX5_tell_28 : decode cX5_tell 28 = .ok (.iconst 1, 1) := by decide +kernel
theorem dX5_tell_29 : decode cX5_tell 29 = .ok (.iadd, 1) := by decide +kernel
theorem dX5_tell_30 : decode cX5_tell 30 = .ok (.putfield 300, 3) := by decide +kernel
theorem dX5_tell_33 : decode cX5_tell 33 = .ok (.aload_n 0, 1) := by decide +kernel
theorem dX5_tell_34 : decode cX5_tell 34 = .ok (.getfield 300, 3) := by decide +kernel
theorem dX5_tell_37 : decode cX5_tell 37 = .ok (.ireturn, 1) := by decide +kernel
theorem dX5_play_0 : decode cX5_play 0 = .ok (.aload_n 0, 1) := by decide +kernel
theorem dX5_play_1 : decode cX5_play 1 = .ok (.getfield 300, 3) := by decide +kernel
theorem dX5_play_4 : decode cX5_play 4 = .ok (.istore_n 1, 1) := by decide +kernel
theorem dX5_play_5 : decode cX5_play 5 = .ok (.aload_n 0, 1) := by decide +kernel
theorem dX5_play_6 : decode cX5_play 6 = .ok (.iconst 0, 1) := by decide +kernel
theorem dX5_play_7 : decode cX5_play 7 = .ok (.putfield 300, 3) := by decide +kernel
theorem dX5_play_10 : decode cX5_play 10 = .ok (.aload_n 0, 1) := by decide +kernel
theorem dX5_play_11 : decode cX5_play 11 = .ok (.getfield 19, 3) := by decide +kernel
theorem dX5_play_14 : decode cX5_play 14 = .ok (.aload_n 0, 1) := by decide +kernel
theorem dX5_play_15 : decode cX5_play 15 = .ok (.getfield 224, 3) := by decide +kernel
theorem dX5_play_18 : decode cX5_play 18 = .ok (.invokevirtual 236, 3) := by decide +kernel
theorem dX5_play_21 : decode cX5_play 21 = .ok (.ifCond .ne 7, 3) := by decide +kernel
theorem dX5_play_24 : decode cX5_play 24 = .ok (.sipush (-1003), 3) := by decide +kernel
theorem dX5_play_27 : decode cX5_play 27 = .ok (.ireturn, 1) := by decide +kernel
theorem dX5_play_28 : decode cX5_play 28 = .ok (.aload_n 0, 1) := by decide +kernel
theorem dX5_play_29 : decode cX5_play 29 = .ok (.aload_n 0, 1) := by decide +kernel
theorem dX5_play_30 : decode cX5_play 30 = .ok (.getfield 19, 3) := by decide +kernel
theorem dX5_play_33 : decode cX5_play 33 = .ok (.iconst 0, 1) := by decide +kernel
theorem dX5_play_34 : decode cX5_play 34 = .ok (.invokevirtual 239, 3) := by decide +kernel
theorem dX5_play_37 : decode cX5_play 37 = .ok (.putfield 52, 3) := by decide +kernel
theorem dX5_play_40 : decode cX5_play 40 = .ok (.iconst 0, 1) := by decide +kernel
theorem dX5_play_41 : decode cX5_play 41 = .ok (.istore_n 2, 1) := by decide +kernel
theorem dX5_play_42 : decode cX5_play 42 = .ok (.iload_n 2, 1) := by decide +kernel
theorem dX5_play_43 : decode cX5_play 43 = .ok (.iload_n 1, 1) := by decide +kernel
theorem dX5_play_44 : decode cX5_play 44 = .ok (.if_icmp .ge 59, 3) := by decide +kernel
theorem dX5_play_47 : decode cX5_play 47 = .ok (.aload_n 0, 1) := by decide +kernel
theorem dX5_play_48 : decode cX5_play 48 = .ok (.getfield 49, 3) := by decide +kernel
theorem dX5_play_51 : decode cX5_play 51 = .ok (.iload_n 2, 1) := by decide +kernel
theorem dX5_play_52 : decode cX5_play 52 = .ok (.iaload, 1) := by decide +kernel
theorem dX5_play_53 : decode cX5_play 53 = .ok (.istore_n 3, 1) := by decide +kernel
theorem dX5_play_54 : decode cX5_play 54 = .ok (.iload_n 3, 1) := by decide +kernel
theorem dX5_play_55 : decode cX5_play 55 = .ok (.invokestatic 118, 3) := by decide +kernel
theorem dX5_play_58 : decode cX5_play 58 = .ok (.ifCond .eq 22, 3) := by decide +kernel
theorem dX5_play_61 : decode cX5_play 61 = .ok (.aload_n 0, 1) := by decide +kernel
theorem dX5_play_62 : decode cX5_play 62 = .ok (.getfield 19, 3) := by decide +kernel
theorem dX5_play_65 : decode cX5_play 65 = .ok (.aload_n 0, 1) := by decide +kernel
theorem dX5_play_66 : decode cX5_play 66 = .ok (.getfield 52, 3) := by decide +kernel
theorem dX5_play_69 : decode cX5_play 69 = .ok (.iload_n 3, 1) := by decide +kernel
theorem dX5_play_70 : decode cX5_play 70 = .ok (.aload_n 0, 1) := by decide +kernel
theorem dX5_play_71 : decode cX5_play 71 = .ok (.getfield 224, 3) := by decide +kernel
theorem dX5_play_74 : decode cX5_play 74 = .ok (.invokevirtual 303, 3) := by decide +kernel
theorem dX5_play_77 : decode cX5_play 77 = .ok (.goto 4, 3) := by decide +kernel
theorem dX5_play_80 : decode cX5_play 80 = .ok (.iconst (-1), 1) := by decide +kernel
theorem dX5_play_81 : decode cX5_play 81 = .ok (.istore 4, 2) := by decide +kernel
theorem dX5_play_83 : decode cX5_play 83 = .ok (.iload 4, 2) := by decide +kernel
theorem dX5_play_85 : decode cX5_play 85 = .ok (.iconst (-1), 1) := by decide +kernel
theorem dX5_play_86 : decode cX5_play 86 = .ok (.if_icmp .ne 5, 3) := by decide +kernel
theorem dX5_play_89 : decode cX5_play 89 = .ok (.iload_n 2, 1) := by decide +kernel
theorem dX5_play_90 : decode cX5_play 90 = .ok (.ireturn, 1) := by decide +kernel
theorem dX5_play_91 : decode cX5_play 91 = .ok (.aload_n 0, 1) := by decide +kernel
theorem dX5_play_92 : decode cX5_play 92 = .ok (.iload 4, 2) := by decide +kernel
theorem dX5_play_94 : decode cX5_play 94 = .ok (.putfield 52, 3) := by decide +kernel
theorem dX5_play_97 : decode cX5_play 97 = .ok (.iinc 2 1, 3) := by decide +kernel
theorem dX5_play_100 : decode cX5_play 100 = .ok (.goto (-58), 3) := by decide +kernel
theorem dX5_play_103 : decode cX5_play 103 = .ok (.iload_n 1, 1) := by decide +kernel
theorem dX5_play_104 : decode cX5_play 104 = .ok (.ireturn, 1) := by decide +kernel
theorem dX5_at_0 : decode cX5_at 0 = .ok (.aload_n 0, 1) := by decide +kernel
theorem dX5_at_1 : decode cX5_at 1 = .ok (.getfield 52, 3) := by decide +kernel
theorem dX5_at_4 : decode cX5_at 4 = .ok (.iconst (-1), 1) := by decide +kernel
theorem dX5_at_5 : decode cX5_at 5 = .ok (.if_icmp .ne 7, 3) := by decide +kernel
theorem dX5_at_8 : decode cX5_at 8 = .ok (.sipush (-1003), 3) := by decide +kernel
theorem dX5_at_11 : decode cX5_at 11 = .ok (.ireturn, 1) := by decide +kernel
theorem dX5_at_12 : decode cX5_at 12 = .ok (.iload_n 1, 1) := by decide +kernel
theorem dX5_at_13 : decode cX5_at 13 = .ok (.ifCond .ne 11, 3) := by decide +kernel
theorem dX5_at_16 : decode cX5_at 16 = .ok (.aload_n 0, 1) := by decide +kernel
theorem dX5_at_17 : decode cX5_at 17 = .ok (.getfield 52, 3) := by decide +kernel
theorem dX5_at_20 : decode cX5_at 20 = .ok (.invokestatic 195, 3) := by decide +kernel
theorem dX5_at_23 : decode cX5_at 23 = .ok (.ireturn, 1) := by decide +kernel
theorem dX5_at_24 : decode cX5_at 24 = .ok (.iload_n 1, 1) := by decide +kernel
theorem dX5_at_25 : decode cX5_at 25 = .ok (.iconst 1, 1) := by decide +kernel
theorem dX5_at_26 : decode cX5_at 26 = .ok (.if_icmp .ne 13, 3) := by decide +kernel
theorem dX5_at_29 : decode cX5_at 29 = .ok (.aload_n 0, 1) := by decide +kernel
theorem dX5_at_30 : decode cX5_at 30 = .ok (.getfield 52, 3) := by decide +kernel
theorem dX5_at_33 : decode cX5_at 33 = .ok (.invokestatic 306, 3) := by decide +kernel
theorem dX5_at_36 : decode cX5_at 36 = .ok (.goto 6, 3) := by decide +kernel
theorem dX5_at_39 : decode cX5_at 39 = .ok (.sipush (-1002), 3) := by decide +kernel
theorem dX5_at_42 : decode cX5_at 42 = .ok (.ireturn, 1) := by decide +kernel
theorem dX5_keep_0 : decode cX5_keep 0 = .ok (.iload_n 1, 1) := by decide +kernel
theorem dX5_keep_1 : decode cX5_keep 1 = .ok (.ifCond .eq 12, 3) := by decide +kernel
theorem dX5_keep_4 : decode cX5_keep 4 = .ok (.iload_n 1, 1) := by decide +kernel
theorem dX5_keep_5 : decode cX5_keep 5 = .ok (.iconst 1, 1) := by decide +kernel
theorem dX5_keep_6 : decode cX5_keep 6 = .ok (.if_icmp .eq 7, 3) := by decide +kernel
theorem dX5_keep_9 : decode cX5_keep 9 = .ok (.sipush (-1002), 3) := by decide +kernel
theorem dX5_keep_12 : decode cX5_keep 12 = .ok (.ireturn, 1) := by decide +kernel
theorem dX5_keep_13 : decode cX5_keep 13 = .ok (.iload_n 1, 1) := by decide +kernel
theorem dX5_keep_14 : decode cX5_keep 14 = .ok (.ifCond .ne 22, 3) := by decide +kernel
theorem dX5_keep_17 : decode cX5_keep 17 = .ok (.aload_n 0, 1) := by decide +kernel
theorem dX5_keep_18 : decode cX5_keep 18 = .ok (.getfield 23, 3) := by decide +kernel
theorem dX5_keep_21 : decode cX5_keep 21 = .ok (.aload_n 0, 1) := by decide +kernel
theorem dX5_keep_22 : decode cX5_keep 22 = .ok (.getfield 19, 3) := by decide +kernel
theorem dX5_keep_25 : decode cX5_keep 25 = .ok (.invokevirtual 309, 3) := by decide +kernel
theorem dX5_keep_28 : decode cX5_keep 28 = .ok (.aload_n 0, 1) := by decide +kernel
theorem dX5_keep_29 : decode cX5_keep 29 = .ok (.iconst 1, 1) := by decide +kernel
theorem dX5_keep_30 : decode cX5_keep 30 = .ok (.putfield 313, 3) := by decide +kernel
theorem dX5_keep_33 : decode cX5_keep 33 = .ok (.goto 19, 3) := by decide +kernel
theorem dX5_keep_36 : decode cX5_keep 36 = .ok (.aload_n 0, 1) := by decide +kernel
theorem dX5_keep_37 : decode cX5_keep 37 = .ok (.getfield 26, 3) := by decide +kernel
theorem dX5_keep_40 : decode cX5_keep 40 = .ok (.aload_n 0, 1) := by decide +kernel
theorem dX5_keep_41 : decode cX5_keep 41 = .ok (.getfield 19, 3) := by decide +kernel
theorem dX5_keep_44 : decode cX5_keep 44 = .ok (.invokevirtual 309, 3) := by decide +kernel
theorem dX5_keep_47 : decode cX5_keep 47 = .ok (.aload_n 0, 1) := by decide +kernel
theorem dX5_keep_48 : decode cX5_keep 48 = .ok (.iconst 1, 1) := by decide +kernel
theorem dX5_keep_49 : decode cX5_keep 49 = .ok (.putfield 316, 3) := by decide +kernel
theorem dX5_keep_52 : decode cX5_keep 52 = .ok (.iconst 1, 1) := by decide +kernel
theorem dX5_keep_53 : decode cX5_keep 53 = .ok (.ireturn, 1) := by decide +kernel
theorem dX5_back_0 : decode cX5_back 0 = .ok (.iload_n 1, 1) := by decide +kernel
theorem dX5_back_1 : decode cX5_back 1 = .ok (.ifCond .eq 12, 3) := by decide +kernel
theorem dX5_back_4 : decode cX5_back 4 = .ok (.iload_n 1, 1) := by decide +kernel
theorem dX5_back_5 : decode cX5_back 5 = .ok (.iconst 1, 1) := by decide +kernel
theorem dX5_back_6 : decode cX5_back 6 = .ok (.if_icmp .eq 7, 3) := by decide +kernel
theorem dX5_back_9 : decode cX5_back 9 = .ok (.sipush (-1002), 3) := by decide +kernel
theorem dX5_back_12 : decode cX5_back 12 = .ok (.ireturn, 1) := by decide +kernel
theorem dX5_back_13 : decode cX5_back 13 = .ok (.iload_n 1, 1) := by decide +kernel
theorem dX5_back_14 : decode cX5_back 14 = .ok (.ifCond .ne 13, 3) := by decide +kernel
theorem dX5_back_17 : decode cX5_back 17 = .ok (.aload_n 0, 1) := by decide +kernel
theorem dX5_back_18 : decode cX5_back 18 = .ok (.getfield 313, 3) := by decide +kernel
theorem dX5_back_21 : decode cX5_back 21 = .ok (.ifCond .eq 13, 3) := by decide +kernel
theorem dX5_back_24 : decode cX5_back 24 = .ok (.goto 18, 3) := by decide +kernel
theorem dX5_back_27 : decode cX5_back 27 = .ok (.aload_n 0, 1) := by decide +kernel
theorem dX5_back_28 : decode cX5_back 28 = .ok (.getfield 316, 3) := by decide +kernel
theorem dX5_back_31 : decode cX5_back 31 = .ok (.ifCond .ne 11, 3) := by decide +kernel
theorem dX5_back_34 : decode cX5_back 34 = .ok (.aload_n 0, 1) := by decide +kernel
theorem dX5_back_35 : decode cX5_back 35 = .ok (.sipush (-1010), 3) := by decide +kernel
theorem dX5_back_38 : decode cX5_back 38 = .ok (.invokevirtual 111, 3) := by decide +kernel
theorem dX5_back_41 : decode cX5_back 41 = .ok (.ireturn, 1) := by decide +kernel
theorem dX5_back_42 : decode cX5_back 42 = .ok (.aload_n 0, 1) := by decide +kernel
theorem dX5_back_43 : decode cX5_back 43 = .ok (.getfield 19, 3) := by decide +kernel
theorem dX5_back_46 : decode cX5_back 46 = .ok (.iload_n 1, 1) := by decide +kernel
theorem dX5_back_47 : decode cX5_back 47 = .ok (.ifCond .ne 10, 3) := by decide +kernel
theorem dX5_back_50 : decode cX5_back 50 = .ok (.aload_n 0, 1) := by decide +kernel
theorem dX5_back_51 : decode cX5_back 51 = .ok (.getfield 23, 3) := by decide +kernel
theorem dX5_back_54 : decode cX5_back 54 = .ok (.goto 7, 3) := by decide +kernel
theorem dX5_back_57 : decode cX5_back 57 = .ok (.aload_n 0, 1) := by decide +kernel
theorem dX5_back_58 : decode cX5_back 58 = .ok (.getfield 26, 3) := by decide +kernel
theorem dX5_back_61 : decode cX5_back 61 = .ok (.invokevirtual 309, 3) := by decide +kernel
theorem dX5_back_64 : decode cX5_back 64 = .ok (.aload_n 0, 1) := by decide +kernel
theorem dX5_back_65 : decode cX5_back 65 = .ok (.iconst 0, 1) := by decide +kernel
theorem dX5_back_66 : decode cX5_back 66 = .ok (.putfield 100, 3) := by decide +kernel
theorem dX5_back_69 : decode cX5_back 69 = .ok (.iconst 1, 1) := by decide +kernel
theorem dX5_back_70 : decode cX5_back 70 = .ok (.ireturn, 1) := by decide +kernel
theorem dX5_melt_0 : decode cX5_melt 0 = .ok (.aload_n 0, 1) := by decide +kernel
theorem dX5_melt_1 : decode cX5_melt 1 = .ok (.getfield 313, 3) := by decide +kernel
theorem dX5_melt_4 : decode cX5_melt 4 = .ok (.ifCond .eq 10, 3) := by decide +kernel
theorem dX5_melt_7 : decode cX5_melt 7 = .ok (.aload_n 0, 1) := by decide +kernel
theorem dX5_melt_8 : decode cX5_melt 8 = .ok (.getfield 316, 3) := by decide +kernel
theorem dX5_melt_11 : decode cX5_melt 11 = .ok (.ifCond .ne 11, 3) := by decide +kernel
theorem dX5_melt_14 : decode cX5_melt 14 = .ok (.aload_n 0, 1) := by decide +kernel
theorem dX5_melt_15 : decode cX5_melt 15 = .ok (.sipush (-1010), 3) := by decide +kernel
theorem dX5_melt_18 : decode cX5_melt 18 = .ok (.invokevirtual 111, 3) := by decide +kernel
theorem dX5_melt_21 : decode cX5_melt 21 = .ok (.ireturn, 1) := by decide +kernel
theorem dX5_melt_22 : decode cX5_melt 22 = .ok (.aload_n 0, 1) := by decide +kernel
theorem dX5_melt_23 : decode cX5_melt 23 = .ok (.iconst 0, 1) := by decide +kernel
theorem dX5_melt_24 : decode cX5_melt 24 = .ok (.invokevirtual 319, 3) := by decide +kernel
theorem dX5_melt_27 : decode cX5_melt 27 = .ok (.sipush (-1003), 3) := by decide +kernel
theorem dX5_melt_30 : decode cX5_melt 30 = .ok (.if_icmp .eq 7, 3) := by decide +kernel
theorem dX5_melt_33 : decode cX5_melt 33 = .ok (.sipush (-1004), 3) := by decide +kernel
theorem dX5_melt_36 : decode cX5_melt 36 = .ok (.ireturn, 1) := by decide +kernel
theorem dX5_melt_37 : decode cX5_melt 37 = .ok (.iconst 0, 1) := by decide +kernel
theorem dX5_melt_38 : decode cX5_melt 38 = .ok (.istore_n 1, 1) := by decide +kernel
theorem dX5_melt_39 : decode cX5_melt 39 = .ok (.iconst 0, 1) := by decide +kernel
theorem dX5_melt_40 : decode cX5_melt 40 = .ok (.istore_n 2, 1) := by decide +kernel
theorem dX5_melt_41 : decode cX5_melt 41 = .ok (.iload_n 2, 1) := by decide +kernel
theorem dX5_melt_42 : decode cX5_melt 42 = .ok (.sipush 141, 3) := by decide +kernel
theorem dX5_melt_45 : decode cX5_melt 45 = .ok (.if_icmp .ge 67, 3) := by decide +kernel
theorem dX5_melt_48 : decode cX5_melt 48 = .ok (.aload_n 0, 1) := by decide +kernel
theorem dX5_melt_49 : decode cX5_melt 49 = .ok (.getfield 26, 3) := by decide +kernel
theorem dX5_melt_52 : decode cX5_melt 52 = .ok (.getfield 322, 3) := by decide +kernel
theorem dX5_melt_55 : decode cX5_melt 55 = .ok (.iload_n 2, 1) := by decide +kernel
theorem dX5_melt_56 : decode cX5_melt 56 = .ok (.aaload, 1) := by decide +kernel
theorem dX5_melt_57 : decode cX5_melt 57 = .ok (.astore_n 3, 1) := by decide +kernel
theorem dX5_melt_58 : decode cX5_melt 58 = .ok (.aload_n 3, 1) := by decide +kernel
theorem dX5_melt_59 : decode cX5_melt 59 = .ok (.aload_n 0, 1) := by decide +kernel
theorem dX5_melt_60 : decode cX5_melt 60 = .ok (.getfield 23, 3) := by decide +kernel
theorem dX5_melt_63 : decode cX5_melt 63 = .ok (.getfield 322, 3) := by decide +kernel
theorem dX5_melt_66 : decode cX5_melt 66 = .ok (.iload_n 2, 1) := by decide +kernel
theorem dX5_melt_67 : decode cX5_melt 67 = .ok (.aaload, 1) := by decide +kernel
theorem dX5_melt_68 : decode cX5_melt 68 = .ok (.invokevirtual 326, 3) := by decide +kernel
theorem dX5_melt_71 : decode cX5_melt 71 = .ok (.ifCond .ne 35, 3) := by decide +kernel
theorem dX5_melt_74 : decode cX5_melt 74 = .ok (.aload_n 3, 1) := by decide +kernel
theorem dX5_melt_75 : decode cX5_melt 75 = .ok (.aload_n 0, 1) := by decide +kernel
theorem dX5_melt_76 : decode cX5_melt 76 = .ok (.getfield 19, 3) := by decide +kernel
theorem dX5_melt_79 : decode cX5_melt 79 = .ok (.getfield 322, 3) := by decide +kernel
theorem dX5_melt_82 : decode cX5_melt 82 = .ok (.iload_n 2, 1) := by decide +kernel
theorem dX5_melt_83 : decode cX5_melt 83 = .ok (.aaload, 1) := by decide +kernel
theorem dX5_melt_84 : decode cX5_melt 84 = .ok (.invokevirtual 326, 3) := by decide +kernel
theorem dX5_melt_87 : decode cX5_melt 87 = .ok (.ifCond .ne 19, 3) := by decide +kernel
theorem dX5_melt_90 : decode cX5_melt 90 = .ok (.aload_n 0, 1) := by decide +kernel
theorem dX5_melt_91 : decode cX5_melt 91 = .ok (.getfield 19, 3) := by decide +kernel
theorem dX5_melt_94 : decode cX5_melt 94 = .ok (.getfield 322, 3) := by decide +kernel
theorem dX5_melt_97 : decode cX5_melt 97 = .ok (.iload_n 2, 1) := by decide +kernel
theorem dX5_melt_98 : decode cX5_melt 98 = .ok (.aaload, 1) := by decide +kernel
theorem dX5_melt_99 : decode cX5_melt 99 = .ok (.aload_n 3, 1) := by decide +kernel
theorem dX5_melt_100 : decode cX5_melt 100 = .ok (.invokevirtual 330, 3) := by decide +kernel
theorem dX5_melt_103 : decode cX5_melt 103 = .ok (.iinc 1 1, 3) := by decide +kernel
theorem dX5_melt_106 : decode cX5_melt 106 = .ok (.iinc 2 1, 3) := by decide +kernel
theorem dX5_melt_109 : decode cX5_melt 109 = .ok (.goto (-68), 3) := by decide +kernel
theorem dX5_melt_112 : decode cX5_melt 112 = .ok (.aload_n 0, 1) := by decide +kernel
theorem dX5_melt_113 : decode cX5_melt 113 = .ok (.getfield 19, 3) := by decide +kernel
theorem dX5_melt_116 : decode cX5_melt 116 = .ok (.invokevirtual 333, 3) := by decide +kernel
theorem dX5_melt_119 : decode cX5_melt 119 = .ok (.aload_n 0, 1) := by decide +kernel
theorem dX5_melt_120 : decode cX5_melt 120 = .ok (.iconst 0, 1) := by decide +kernel
theorem dX5_melt_121 : decode cX5_melt 121 = .ok (.putfield 100, 3) := by decide +kernel
theorem dX5_melt_124 : decode cX5_melt 124 = .ok (.iload_n 1, 1) := by decide +kernel
theorem dX5_melt_125 : decode cX5_melt 125 = .ok (.ireturn, 1) := by decide +kernel
theorem dX5_clash_0 : decode cX5_clash 0 = .ok (.aload_n 0, 1) := by decide +kernel
theorem dX5_clash_1 : decode cX5_clash 1 = .ok (.getfield 313, 3) := by decide +kernel
theorem dX5_clash_4 : decode cX5_clash 4 = .ok (.ifCond .eq 10, 3) := by decide +kernel
theorem dX5_clash_7 : decode cX5_clash 7 = .ok (.aload_n 0, 1) := by decide +kernel
theorem dX5_clash_8 : decode cX5_clash 8 = .ok (.getfield 316, 3) := by decide +kernel
theorem dX5_clash_11 : decode cX5_clash 11 = .ok (.ifCond .ne 11, 3) := by decide +kernel
theorem dX5_clash_14 : decode cX5_clash 14 = .ok (.aload_n 0, 1) := by decide +kernel
theorem dX5_clash_15 : decode cX5_clash 15 = .ok (.sipush (-1010), 3) := by decide +kernel
theorem dX5_clash_18 : decode cX5_clash 18 = .ok (.invokevirtual 111, 3) := by decide +kernel
theorem dX5_clash_21 : decode cX5_clash 21 = .ok (.ireturn, 1) := by decide +kernel
theorem dX5_clash_22 : decode cX5_clash 22 = .ok (.iload_n 1, 1) := by decide +kernel
theorem dX5_clash_23 : decode cX5_clash 23 = .ok (.ifCond .ge 9, 3) := by decide +kernel
theorem dX5_clash_26 : decode cX5_clash 26 = .ok (.sipush (-1003), 3) := by decide +kernel
theorem dX5_clash_29 : decode cX5_clash 29 = .ok (.goto 8, 3) := by decide +kernel
theorem dX5_clash_32 : decode cX5_clash 32 = .ok (.aload_n 0, 1) := by decide +kernel
theorem dX5_clash_33 : decode cX5_clash 33 = .ok (.iload_n 1, 1) := by decide +kernel
theorem dX5_clash_34 : decode cX5_clash 34 = .ok (.invokevirtual 319, 3) := by decide +kernel
theorem dX5_clash_37 : decode cX5_clash 37 = .ok (.ireturn, 1) := by decide +kernel
theorem dX5_clashingItem_0 : decode cX5_clashingItem 0 = .ok (.iload_n 1, 1) := by decide +kernel
theorem dX5_clashingItem_1 : decode cX5_clashingItem 1 = .ok (.istore_n 2, 1) := by decide +kernel
theorem dX5_clashingItem_2 : decode cX5_clashingItem 2 = .ok (.iconst 0, 1) := by decide +kernel
theorem dX5_clashingItem_3 : decode cX5_clashingItem 3 = .ok (.istore_n 3, 1) := by decide +kernel
theorem dX5_clashingItem_4 : decode cX5_clashingItem 4 = .ok (.iload_n 3, 1) := by decide +kernel
theorem dX5_clashingItem_5 : decode cX5_clashingItem 5 = .ok (.sipush 141, 3) := by decide +kernel
theorem dX5_clashingItem_8 : decode cX5_clashingItem 8 = .ok (.if_icmp .ge 54, 3) := by decide +kernel
theorem dX5_clashingItem_11 : decode cX5_clashingItem 11 = .ok (.aload_n 0, 1) := by decide +kernel
theorem dX5_clashingItem_12 : decode cX5_clashingItem 12 = .ok (.getfield 19, 3) := by decide +kernel
theorem dX5_clashingItem_15 : decode cX5_clashingItem 15 = .ok (.getfield 322, 3) := by decide +kernel
theorem dX5_clashingItem_18 : decode cX5_clashingItem 18 = .ok (.iload_n 3, 1) := by decide +kernel
theorem dX5_clashingItem_19 : decode cX5_clashingItem 19 = .ok (.aaload, 1) := by decide +kernel
theorem dX5_clashingItem_20 : decode cX5_clashingItem 20 = .ok (.aload_n 0, 1) := by decide +kernel
theorem dX5_clashingItem_21 : decode cX5_clashingItem 21 = .ok (.getfield 26, 3) := by decide +kernel
theorem dX5_clashingItem_24 : decode cX5_clashingItem 24 = .ok (.getfield 322, 3) := by decide +kernel
theorem dX5_clashingItem_27 : decode cX5_clashingItem 27 = .ok (.iload_n 3, 1) := by decide +kernel
theorem dX5_clashingItem_28 : decode cX5_clashingItem 28 = .ok (.aaload, 1) := by decide +kernel
theorem dX5_clashingItem_29 : decode cX5_clashingItem 29 = .ok (.aload_n 0, 1) := by decide +kernel
theorem dX5_clashingItem_30 : decode cX5_clashingItem 30 = .ok (.getfield 23, 3) := by decide +kernel
theorem dX5_clashingItem_33 : decode cX5_clashingItem 33 = .ok (.getfield 322, 3) := by decide +kernel
theorem dX5_clashingItem_36 : decode cX5_clashingItem 36 = .ok (.iload_n 3, 1) := by decide +kernel
theorem dX5_clashingItem_37 : decode cX5_clashingItem 37 = .ok (.aaload, 1) := by decide +kernel
theorem dX5_clashingItem_38 : decode cX5_clashingItem 38 = .ok (.invokestatic 336, 3) := by decide +kernel
theorem dX5_clashingItem_41 : decode cX5_clashingItem 41 = .ok (.ifCond .ne 6, 3) := by decide +kernel
theorem dX5_clashingItem_44 : decode cX5_clashingItem 44 = .ok (.goto 12, 3) := by decide +kernel
theorem dX5_clashingItem_47 : decode cX5_clashingItem 47 = .ok (.iload_n 2, 1) := by decide +kernel
theorem dX5_clashingItem_48 : decode cX5_clashingItem 48 = .ok (.ifCond .ne 5, 3) := by decide +kernel
theorem dX5_clashingItem_51 : decode cX5_clashingItem 51 = .ok (.iload_n 3, 1) := by decide +kernel
theorem dX5_clashingItem_52 : decode cX5_clashingItem 52 = .ok (.ireturn, 1) := by decide +kernel
theorem dX5_clashingItem_53 : decode cX5_clashingItem 53 = .ok (.iinc 2 (-1), 3) := by decide +kernel
theorem dX5_clashingItem_56 : decode cX5_clashingItem 56 = .ok (.iinc 3 1, 3) := by decide +kernel
theorem dX5_clashingItem_59 : decode cX5_clashingItem 59 = .ok (.goto (-55), 3) := by decide +kernel
theorem dX5_clashingItem_62 : decode cX5_clashingItem 62 = .ok (.sipush (-1003), 3) := by decide +kernel
theorem dX5_clashingItem_65 : decode cX5_clashingItem 65 = .ok (.ireturn, 1) := by decide +kernel
theorem dX5_isClashing_0 : decode cX5_isClashing 0 = .ok (.aload_n 0, 1) := by decide +kernel
theorem dX5_isClashing_1 : decode cX5_isClashing 1 = .ok (.aload_n 1, 1) := by decide +kernel
theorem dX5_isClashing_2 : decode cX5_isClashing 2 = .ok (.invokevirtual 326, 3) := by decide +kernel
theorem dX5_isClashing_5 : decode cX5_isClashing 5 = .ok (.ifCond .ne 23, 3) := by decide +kernel
theorem dX5_isClashing_8 : decode cX5_isClashing 8 = .ok (.aload_n 0, 1) := by decide +kernel
theorem dX5_isClashing_9 : decode cX5_isClashing 9 = .ok (.aload_n 2, 1) := by decide +kernel
theorem dX5_isClashing_10 : decode cX5_isClashing 10 = .ok (.invokevirtual 326, 3) := by decide +kernel
theorem dX5_isClashing_13 : decode cX5_isClashing 13 = .ok (.ifCond .ne 15, 3) := by decide +kernel
theorem dX5_isClashing_16 : decode cX5_isClashing 16 = .ok (.aload_n 1, 1) := by decide +kernel
theorem dX5_isClashing_17 : decode cX5_isClashing 17 = .ok (.aload_n 2, 1) := by decide +kernel
theorem dX5_isClashing_18 : decode cX5_isClashing 18 = .ok (.invokevirtual 326, 3) := by decide +kernel
theorem dX5_isClashing_21 : decode cX5_isClashing 21 = .ok (.ifCond .ne 7, 3) := by decide +kernel
theorem dX5_isClashing_24 : decode cX5_isClashing 24 = .ok (.iconst 1, 1) := by decide +kernel
theorem dX5_isClashing_25 : decode cX5_isClashing 25 = .ok (.goto 4, 3) := by decide +kernel
theorem dX5_isClashing_28 : decode cX5_isClashing 28 = .ok (.iconst 0, 1) := by decide +kernel
theorem dX5_isClashing_29 : decode cX5_isClashing 29 = .ok (.ireturn, 1) := by decide +kernel
theorem dX5_count_0 : decode cX5_count 0 = .ok (.iload_n 1, 1) := by decide +kernel
theorem dX5_count_1 : decode cX5_count 1 = .ok (.tableswitch 84 0 5 #[39, 47, 55, 63, 68, 73], 39) := by decide +kernel
theorem dX5_count_40 : decode cX5_count 40 = .ok (.aload_n 0, 1) := by decide +kernel
theorem dX5_count_41 : decode cX5_count 41 = .ok (.getfield 19, 3) := by decide +kernel
theorem dX5_count_44 : decode cX5_count 44 = .ok (.invokevirtual 340, 3) := by decide +kernel
theorem dX5_count_47 : decode cX5_count 47 = .ok (.ireturn, 1) := by decide +kernel
theorem dX5_count_48 : decode cX5_count 48 = .ok (.aload_n 0, 1) := by decide +kernel
theorem dX5_count_49 : decode cX5_count 49 = .ok (.getfield 19, 3) := by decide +kernel
theorem dX5_count_52 : decode cX5_count 52 = .ok (.invokevirtual 343, 3) := by decide +kernel
theorem dX5_count_55 : decode cX5_count 55 = .ok (.ireturn, 1) := by decide +kernel
theorem dX5_count_56 : decode cX5_count 56 = .ok (.aload_n 0, 1) := by decide +kernel
theorem dX5_count_57 : decode cX5_count 57 = .ok (.getfield 12, 3) := by decide +kernel
theorem dX5_count_60 : decode cX5_count 60 = .ok (.getfield 57, 3) := by decide +kernel
theorem dX5_count_63 : decode cX5_count 63 = .ok (.ireturn, 1) := by decide +kernel
theorem dX5_count_64 : decode cX5_count 64 = .ok (.aload_n 0, 1) := by decide +kernel
theorem dX5_count_65 : decode cX5_count 65 = .ok (.getfield 300, 3) := by decide +kernel
theorem dX5_count_68 : decode cX5_count 68 = .ok (.ireturn, 1) := by decide +kernel
theorem dX5_count_69 : decode cX5_count 69 = .ok (.aload_n 0, 1) := by decide +kernel
theorem dX5_count_70 : decode cX5_count 70 = .ok (.getfield 346, 3) := by decide +kernel
theorem dX5_count_73 : decode cX5_count 73 = .ok (.ireturn, 1) := by decide +kernel
theorem dX5_count_74 : decode cX5_count 74 = .ok (.aload_n 0, 1) := by decide +kernel
theorem dX5_count_75 : decode cX5_count 75 = .ok (.getfield 19, 3) := by decide +kernel
theorem dX5_count_78 : decode cX5_count 78 = .ok (.invokevirtual 141, 3) := by decide +kernel
theorem dX5_count_81 : decode cX5_count 81 = .ok (.getfield 80, 3) := by decide +kernel
theorem dX5_count_84 : decode cX5_count 84 = .ok (.ireturn, 1) := by decide +kernel
theorem dX5_count_85 : decode cX5_count 85 = .ok (.sipush (-1002), 3) := by decide +kernel
theorem dX5_count_88 : decode cX5_count 88 = .ok (.ireturn, 1) := by decide +kernel
theorem dX5_hostFinding_0 : decode cX5_hostFinding 0 = .ok (.aload_n 0, 1) := by decide +kernel
theorem dX5_hostFinding_1 : decode cX5_hostFinding 1 = .ok (.dup, 1) := by decide +kernel
theorem dX5_hostFinding_2 : decode cX5_hostFinding 2 = .ok (.getfield 346, 3) := by decide +kernel
theorem dX5_hostFinding_5 : decode cX5_hostFinding 5 = .ok (.iconst 1, 1) := by decide +kernel
theorem dX5_hostFinding_6 : decode cX5_hostFinding 6 = .ok (.iadd, 1) := by decide +kernel
theorem dX5_hostFinding_7 : decode cX5_hostFinding 7 = .ok (.putfield 346, 3) := by decide +kernel
theorem dX5_hostFinding_10 : decode cX5_hostFinding 10 = .ok (.iload_n 1, 1) := by decide +kernel
theorem dX5_hostFinding_11 : decode cX5_hostFinding 11 = .ok (.ireturn, 1) := by decide +kernel
theorem dX5_isCut_0 : decode cX5_isCut 0 = .ok (.aload_n 0, 1) := by decide +kernel
theorem dX5_isCut_1 : decode cX5_isCut 1 = .ok (.getfield 224, 3) := by decide +kernel
theorem dX5_isCut_4 : decode cX5_isCut 4 = .ok (.iload_n 1, 1) := by decide +kernel
theorem dX5_isCut_5 : decode cX5_isCut 5 = .ok (.ishr, 1) := by decide +kernel
theorem dX5_isCut_6 : decode cX5_isCut 6 = .ok (.iconst 1, 1) := by decide +kernel
theorem dX5_isCut_7 : decode cX5_isCut 7 = .ok (.iand, 1) := by decide +kernel
theorem dX5_isCut_8 : decode cX5_isCut 8 = .ok (.ifCond .eq 7, 3) := by decide +kernel
theorem dX5_isCut_11 : decode cX5_isCut 11 = .ok (.iconst 1, 1) := by decide +kernel
theorem dX5_isCut_12 : decode cX5_isCut 12 = .ok (.goto 4, 3) := by decide +kernel
theorem dX5_isCut_15 : decode cX5_isCut 15 = .ok (.iconst 0, 1) := by decide +kernel
theorem dX5_isCut_16 : decode cX5_isCut 16 = .ok (.ireturn, 1) := by decide +kernel
theorem dX5_isScene_0 : decode cX5_isScene 0 = .ok (.iload_n 0, 1) := by decide +kernel
theorem dX5_isScene_1 : decode cX5_isScene 1 = .ok (.ifCond .lt 13, 3) := by decide +kernel
theorem dX5_isScene_4 : decode cX5_isScene 4 = .ok (.iload_n 0, 1) := by decide +kernel
theorem dX5_isScene_5 : decode cX5_isScene 5 = .ok (.bipush 20, 2) := by decide +kernel
theorem dX5_isScene_7 : decode cX5_isScene 7 = .ok (.if_icmp .ge 7, 3) := by decide +kernel
theorem dX5_isScene_10 : decode cX5_isScene 10 = .ok (.iconst 1, 1) := by decide +kernel
theorem dX5_isScene_11 : decode cX5_isScene 11 = .ok (.goto 4, 3) := by decide +kernel
theorem dX5_isScene_14 : decode cX5_isScene 14 = .ok (.iconst 0, 1) := by decide +kernel
theorem dX5_isScene_15 : decode cX5_isScene 15 = .ok (.ireturn, 1) := by decide +kernel
theorem dX5_isChoice_0 : decode cX5_isChoice 0 = .ok (.iload_n 0, 1) := by decide +kernel
theorem dX5_isChoice_1 : decode cX5_isChoice 1 = .ok (.ifCond .lt 13, 3) := by decide +kernel
theorem dX5_isChoice_4 : decode cX5_isChoice 4 = .ok (.iload_n 0, 1) := by decide +kernel
theorem dX5_isChoice_5 : decode cX5_isChoice 5 = .ok (.bipush 6, 2) := by decide +kernel
theorem dX5_isChoice_7 : decode cX5_isChoice 7 = .ok (.if_icmp .ge 7, 3) := by decide +kernel
theorem dX5_isChoice_10 : decode cX5_isChoice 10 = .ok (.iconst 1, 1) := by decide +kernel
theorem dX5_isChoice_11 : decode cX5_isChoice 11 = .ok (.goto 4, 3) := by decide +kernel
theorem dX5_isChoice_14 : decode cX5_isChoice 14 = .ok (.iconst 0, 1) := by decide +kernel
theorem dX5_isChoice_15 : decode cX5_isChoice 15 = .ok (.ireturn, 1) := by decide +kernel
theorem dX5_isSet_0 : decode cX5_isSet 0 = .ok (.iload_n 0, 1) := by decide +kernel
theorem dX5_isSet_1 : decode cX5_isSet 1 = .ok (.ifCond .lt 14, 3) := by decide +kernel
theorem dX5_isSet_4 : decode cX5_isSet 4 = .ok (.iload_n 0, 1) := by decide +kernel
theorem dX5_isSet_5 : decode cX5_isSet 5 = .ok (.sipush 256, 3) := by decide +kernel
theorem dX5_isSet_8 : decode cX5_isSet 8 = .ok (.if_icmp .ge 7, 3) := by decide +kernel
theorem dX5_isSet_11 : decode cX5_isSet 11 = .ok (.iconst 1, 1) := by decide +kernel
theorem dX5_isSet_12 : decode cX5_isSet 12 = .ok (.goto 4, 3) := by decide +kernel
theorem dX5_isSet_15 : decode cX5_isSet 15 = .ok (.iconst 0, 1) := by decide +kernel
theorem dX5_isSet_16 : decode cX5_isSet 16 = .ok (.ireturn, 1) := by decide +kernel
theorem dX5_isVoice_0 : decode cX5_isVoice 0 = .ok (.iload_n 0, 1) := by decide +kernel
theorem dX5_isVoice_1 : decode cX5_isVoice 1 = .ok (.ifCond .lt 12, 3) := by decide +kernel
theorem dX5_isVoice_4 : decode cX5_isVoice 4 = .ok (.iload_n 0, 1) := by decide +kernel
theorem dX5_isVoice_5 : decode cX5_isVoice 5 = .ok (.iconst 4, 1) := by decide +kernel
theorem dX5_isVoice_6 : decode cX5_isVoice 6 = .ok (.if_icmp .ge 7, 3) := by decide +kernel
theorem dX5_isVoice_9 : decode cX5_isVoice 9 = .ok (.iconst 1, 1) := by decide +kernel
theorem dX5_isVoice_10 : decode cX5_isVoice 10 = .ok (.goto 4, 3) := by decide +kernel
theorem dX5_isVoice_13 : decode cX5_isVoice 13 = .ok (.iconst 0, 1) := by decide +kernel
theorem dX5_isVoice_14 : decode cX5_isVoice 14 = .ok (.ireturn, 1) := by decide +kernel
theorem dX5_isSheet_0 : decode cX5_isSheet 0 = .ok (.iload_n 0, 1) := by decide +kernel
theorem dX5_isSheet_1 : decode cX5_isSheet 1 = .ok (.ifCond .lt 12, 3) := by decide +kernel
theorem dX5_isSheet_4 : decode cX5_isSheet 4 = .ok (.iload_n 0, 1) := by decide +kernel
theorem dX5_isSheet_5 : decode cX5_isSheet 5 = .ok (.iconst 4, 1) := by decide +kernel
theorem dX5_isSheet_6 : decode cX5_isSheet 6 = .ok (.if_icmp .ge 7, 3) := by decide +kernel
theorem dX5_isSheet_9 : decode cX5_isSheet 9 = .ok (.iconst 1, 1) := by decide +kernel
theorem dX5_isSheet_10 : decode cX5_isSheet 10 = .ok (.goto 4, 3) := by decide +kernel
theorem dX5_isSheet_13 : decode cX5_isSheet 13 = .ok (.iconst 0, 1) := by decide +kernel
theorem dX5_isSheet_14 : decode cX5_isSheet 14 = .ok (.ireturn, 1) := by decide +kernel
theorem dX5_isSort_0 : decode cX5_isSort 0 = .ok (.iload_n 0, 1) := by decide +kernel
theorem dX5_isSort_1 : decode cX5_isSort 1 = .ok (.ifCond .lt 12, 3) := by decide +kernel
theorem dX5_isSort_4 : decode cX5_isSort 4 = .ok (.iload_n 0, 1) := by decide +kernel
theorem dX5_isSort_5 : decode cX5_isSort 5 = .ok (.iconst 3, 1) := by decide +kernel
theorem dX5_isSort_6 : decode cX5_isSort 6 = .ok (.if_icmp .ge 7, 3) := by decide +kernel
theorem dX5_isSort_9 : decode cX5_isSort 9 = .ok (.iconst 1, 1) := by decide +kernel
theorem dX5_isSort_10 : decode cX5_isSort 10 = .ok (.goto 4, 3) := by decide +kernel
theorem dX5_isSort_13 : decode cX5_isSort 13 = .ok (.iconst 0, 1) := by decide +kernel
theorem dX5_isSort_14 : decode cX5_isSort 14 = .ok (.ireturn, 1) := by decide +kernel
theorem dX5_stateOf_0 : decode cX5_stateOf 0 = .ok (.iload_n 0, 1) := by decide +kernel
theorem dX5_stateOf_1 : decode cX5_stateOf 1 = .ok (.sipush 256, 3) := by decide +kernel
theorem dX5_stateOf_4 : decode cX5_stateOf 4 = .ok (.imul, 1) := by decide +kernel
theorem dX5_stateOf_5 : decode cX5_stateOf 5 = .ok (.iload_n 1, 1) := by decide +kernel
theorem dX5_stateOf_6 : decode cX5_stateOf 6 = .ok (.iadd, 1) := by decide +kernel
theorem dX5_stateOf_7 : decode cX5_stateOf 7 = .ok (.ireturn, 1) := by decide +kernel
theorem dX5_sceneOf_0 : decode cX5_sceneOf 0 = .ok (.iload_n 0, 1) := by decide +kernel
theorem dX5_sceneOf_1 : decode cX5_sceneOf 1 = .ok (.sipush 256, 3) := by decide +kernel
theorem dX5_sceneOf_4 : decode cX5_sceneOf 4 = .ok (.idiv, 1) := by decide +kernel
theorem dX5_sceneOf_5 : decode cX5_sceneOf 5 = .ok (.ireturn, 1) := by decide +kernel
theorem dX5_factsOf_0 : decode cX5_factsOf 0 = .ok (.iload_n 0, 1) := by decide +kernel
theorem dX5_factsOf_1 : decode cX5_factsOf 1 = .ok (.sipush 256, 3) := by decide +kernel
theorem dX5_factsOf_4 : decode cX5_factsOf 4 = .ok (.irem, 1) := by decide +kernel
theorem dX5_factsOf_5 : decode cX5_factsOf 5 = .ok (.ireturn, 1) := by decide +kernel
