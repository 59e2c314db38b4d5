theorem dX1_init_0 : decode cX1_init 0 = .ok (.aload_n 0, 1) := by decide +kernel
theorem dX1_init_1 : decode cX1_init 1 = .ok (.invokespecial 1, 3) := by decide +kernel
theorem dX1_init_4 : decode cX1_init 4 = .ok (.aload_n 0, 1) := by decide +kernel
theorem dX1_init_5 : decode cX1_init 5 = .ok (.new 7, 3) := by decide +kernel
theorem dX1_init_8 : decode cX1_init 8 = .ok (.dup, 1) := by decide +kernel
theorem dX1_init_9 : decode cX1_init 9 = .ok (.invokespecial 9, 3) := by decide +kernel
theorem dX1_init_12 : decode cX1_init 12 = .ok (.putfield 10, 3) := by decide +kernel
theorem dX1_init_15 : decode cX1_init 15 = .ok (.aload_n 0, 1) := by decide +kernel
theorem dX1_init_16 : decode cX1_init 16 = .ok (.new 7, 3) := by decide +kernel
theorem dX1_init_19 : decode cX1_init 19 = .ok (.dup, 1) := by decide +kernel
theorem dX1_init_20 : decode cX1_init 20 = .ok (.invokespecial 9, 3) := by decide +kernel
theorem dX1_init_23 : decode cX1_init 23 = .ok (.putfield 16, 3) := by decide +kernel
theorem dX1_init_26 : decode cX1_init 26 = .ok (.return_, 1) := by decide +kernel
theorem dX1_addWall_0 : decode cX1_addWall 0 = .ok (.iload_n 1, 1) := by decide +kernel
theorem dX1_addWall_1 : decode cX1_addWall 1 = .ok (.invokestatic 19, 3) := by decide +kernel
theorem dX1_addWall_4 : decode cX1_addWall 4 = .ok (.iload_n 2, 1) := by decide +kernel
theorem dX1_addWall_5 : decode cX1_addWall 5 = .ok (.invokestatic 23, 3) := by decide +kernel
theorem dX1_addWall_8 : decode cX1_addWall 8 = .ok (.iload_n 3, 1) := by decide +kernel
theorem dX1_addWall_9 : decode cX1_addWall 9 = .ok (.ifCond .lt 8, 3) := by decide +kernel
theorem dX1_addWall_12 : decode cX1_addWall 12 = .ok (.iload_n 3, 1) := by decide +kernel
theorem dX1_addWall_13 : decode cX1_addWall 13 = .ok (.iconst 5, 1) := by decide +kernel
theorem dX1_addWall_14 : decode cX1_addWall 14 = .ok (.if_icmp .le 13, 3) := by decide +kernel
theorem dX1_addWall_17 : decode cX1_addWall 17 = .ok (.new 26, 3) := by decide +kernel
theorem dX1_addWall_20 : decode cX1_addWall 20 = .ok (.dup, 1) := by decide +kernel
theorem dX1_addWall_21 : decode cX1_addWall 21 = .ok (.ldc 28, 2) := by decide +kernel
theorem dX1_addWall_23 : decode cX1_addWall 23 = .ok (.invokespecial 30, 3) := by decide +kernel
theorem dX1_addWall_26 : decode cX1_addWall 26 = .ok (.athrow, 1) := by decide +kernel
theorem dX1_addWall_27 : decode cX1_addWall 27 = .ok (.aload_n 0, 1) := by decide +kernel
theorem dX1_addWall_28 : decode cX1_addWall 28 = .ok (.getfield 10, 3) := by decide +kernel
theorem dX1_addWall_31 : decode cX1_addWall 31 = .ok (.getfield 33, 3) := by decide +kernel
theorem dX1_addWall_34 : decode cX1_addWall 34 = .ok (.bipush 10, 2) := by decide +kernel
theorem dX1_addWall_36 : decode cX1_addWall 36 = .ok (.if_icmp .ge 16, 3) := by decide +kernel
theorem dX1_addWall_39 : decode cX1_addWall 39 = .ok (.aload_n 0, 1) := by decide +kernel
theorem dX1_addWall_40 : decode cX1_addWall 40 = .ok (.getfield 10, 3) := by decide +kernel
theorem dX1_addWall_43 : decode cX1_addWall 43 = .ok (.getfield 37, 3) := by decide +kernel
theorem dX1_addWall_46 : decode cX1_addWall 46 = .ok (.iload_n 1, 1) := by decide +kernel
theorem dX1_addWall_47 : decode cX1_addWall 47 = .ok (.iaload, 1) := by decide +kernel
theorem dX1_addWall_48 : decode cX1_addWall 48 = .ok (.iconst (-1), 1) := by decide +kernel
theorem dX1_addWall_49 : decode cX1_addWall 49 = .ok (.if_icmp .eq 13, 3) := by decide +kernel
theorem dX1_addWall_52 : decode cX1_addWall 52 = .ok (.new 41, 3) := by decide +kernel
theorem dX1_addWall_55 : decode cX1_addWall 55 = .ok (.dup, 1) := by decide +kernel
theorem dX1_addWall_56 : decode cX1_addWall 56 = .ok (.ldc 43, 2) := by decide +kernel
theorem dX1_addWall_58 : decode cX1_addWall 58 = .ok (.invokespecial 45, 3) := by decide +kernel
theorem dX1_addWall_61 : decode cX1_addWall 61 = .ok (.athrow, 1) := by decide +kernel
theorem dX1_addWall_62 : decode cX1_addWall 62 = .ok (.aload_n 0, 1) := by decide +kernel
theorem dX1_addWall_63 : decode cX1_addWall 63 = .ok (.getfield 10, 3) := by decide +kernel
theorem dX1_addWall_66 : decode cX1_addWall 66 = .ok (.iload_n 1, 1) := by decide +kernel
theorem dX1_addWall_67 : decode cX1_addWall 67 = .ok (.iload_n 2, 1) := by decide +kernel
theorem dX1_addWall_68 : decode cX1_addWall 68 = .ok (.iload_n 3, 1) := by decide +kernel
theorem dX1_addWall_69 : decode cX1_addWall 69 = .ok (.invokevirtual 46, 3) := by decide +kernel
theorem dX1_addWall_72 : decode cX1_addWall 72 = .ok (.ireturn, 1) := by decide +kernel
theorem dX1_hand_0 : decode cX1_hand 0 = .ok (.aload_n 0, 1) := by decide +kernel
theorem dX1_hand_1 : decode cX1_hand 1 = .ok (.iload_n 1, 1) := by decide +kernel
theorem dX1_hand_2 : decode cX1_hand 2 = .ok (.invokevirtual 50, 3) := by decide +kernel
theorem dX1_hand_5 : decode cX1_hand 5 = .ok (.aload_n 0, 1) := by decide +kernel
theorem dX1_hand_6 : decode cX1_hand 6 = .ok (.getfield 10, 3) := by decide +kernel
theorem dX1_hand_9 : decode cX1_hand 9 = .ok (.getfield 53, 3) := by decide +kernel
theorem dX1_hand_12 : decode cX1_hand 12 = .ok (.iload_n 1, 1) := by decide +kernel
theorem dX1_hand_13 : decode cX1_hand 13 = .ok (.aload_n 0, 1) := by decide +kernel
theorem dX1_hand_14 : decode cX1_hand 14 = .ok (.getfield 10, 3) := by decide +kernel
theorem dX1_hand_17 : decode cX1_hand 17 = .ok (.getfield 53, 3) := by decide +kernel
theorem dX1_hand_20 : decode cX1_hand 20 = .ok (.iload_n 1, 1) := by decide +kernel
theorem dX1_hand_21 : decode cX1_hand 21 = .ok (.iaload, 1) := by decide +kernel
theorem dX1_hand_22 : decode cX1_hand 22 = .ok (.invokestatic 56, 3) := by decide +kernel
theorem dX1_hand_25 : decode cX1_hand 25 = .ok (.iastore, 1) := by decide +kernel
theorem dX1_hand_26 : decode cX1_hand 26 = .ok (.aload_n 0, 1) := by decide +kernel
theorem dX1_hand_27 : decode cX1_hand 27 = .ok (.getfield 10, 3) := by decide +kernel
theorem dX1_hand_30 : decode cX1_hand 30 = .ok (.getfield 53, 3) := by decide +kernel
theorem dX1_hand_33 : decode cX1_hand 33 = .ok (.iload_n 1, 1) := by decide +kernel
theorem dX1_hand_34 : decode cX1_hand 34 = .ok (.iaload, 1) := by decide +kernel
theorem dX1_hand_35 : decode cX1_hand 35 = .ok (.ireturn, 1) := by decide +kernel
theorem dX1_setSnow_0 : decode cX1_setSnow 0 = .ok (.iload_n 1, 1) := by decide +kernel
theorem dX1_setSnow_1 : decode cX1_setSnow 1 = .ok (.invokestatic 19, 3) := by decide +kernel
theorem dX1_setSnow_4 : decode cX1_setSnow 4 = .ok (.iload_n 2, 1) := by decide +kernel
theorem dX1_setSnow_5 : decode cX1_setSnow 5 = .ok (.ifCond .lt 8, 3) := by decide +kernel
theorem dX1_setSnow_8 : decode cX1_setSnow 8 = .ok (.iload_n 2, 1) := by decide +kernel
theorem dX1_setSnow_9 : decode cX1_setSnow 9 = .ok (.iconst 5, 1) := by decide +kernel
theorem dX1_setSnow_10 : decode cX1_setSnow 10 = .ok (.if_icmp .le 13, 3) := by decide +kernel
theorem dX1_setSnow_13 : decode cX1_setSnow 13 = .ok (.new 26, 3) := by decide +kernel
theorem dX1_setSnow_16 : decode cX1_setSnow 16 = .ok (.dup, 1) := by decide +kernel
theorem dX1_setSnow_17 : decode cX1_setSnow 17 = .ok (.ldc 60, 2) := by decide +kernel
theorem dX1_setSnow_19 : decode cX1_setSnow 19 = .ok (.invokespecial 30, 3) := by decide +kernel
theorem dX1_setSnow_22 : decode cX1_setSnow 22 = .ok (.athrow, 1) := by decide +kernel
theorem dX1_setSnow_23 : decode cX1_setSnow 23 = .ok (.aload_n 0, 1) := by decide +kernel
theorem dX1_setSnow_24 : decode cX1_setSnow 24 = .ok (.getfield 10, 3) := by decide +kernel
theorem dX1_setSnow_27 : decode cX1_setSnow 27 = .ok (.getfield 62, 3) := by decide +kernel
theorem dX1_setSnow_30 : decode cX1_setSnow 30 = .ok (.iload_n 1, 1) := by decide +kernel
theorem dX1_setSnow_31 : decode cX1_setSnow 31 = .ok (.iaload, 1) := by decide +kernel
theorem dX1_setSnow_32 : decode cX1_setSnow 32 = .ok (.istore_n 3, 1) := by decide +kernel
theorem dX1_setSnow_33 : decode cX1_setSnow 33 = .ok (.aload_n 0, 1) := by decide +kernel
theorem dX1_setSnow_34 : decode cX1_setSnow 34 = .ok (.getfield 10, 3) := by decide +kernel
theorem dX1_setSnow_37 : decode cX1_setSnow 37 = .ok (.getfield 62, 3) := by decide +kernel
theorem dX1_setSnow_40 : decode cX1_setSnow 40 = .ok (.iload_n 1, 1) := by decide +kernel
theorem dX1_setSnow_41 : decode cX1_setSnow 41 = .ok (.iload_n 2, 1) := by decide +kernel
theorem dX1_setSnow_42 : decode cX1_setSnow 42 = .ok (.iastore, 1) := by decide +kernel
theorem dX1_setSnow_43 : decode cX1_setSnow 43 = .ok (.iload_n 3, 1) := by decide +kernel
theorem dX1_setSnow_44 : decode cX1_setSnow 44 = .ok (.ireturn, 1) := by decide +kernel
theorem dX1_shout_0 : decode cX1_shout 0 = .ok (.iload_n 1, 1) := by decide +kernel
theorem dX1_shout_1 : decode cX1_shout 1 = .ok (.invokestatic 19, 3) := by decide +kernel
theorem dX1_shout_4 : decode cX1_shout 4 = .ok (.iload_n 3, 1) := by decide +kernel
theorem dX1_shout_5 : decode cX1_shout 5 = .ok (.invokestatic 65, 3) := by decide +kernel
theorem dX1_shout_8 : decode cX1_shout 8 = .ok (.aload_n 0, 1) := by decide +kernel
theorem dX1_shout_9 : decode cX1_shout 9 = .ok (.getfield 10, 3) := by decide +kernel
theorem dX1_shout_12 : decode cX1_shout 12 = .ok (.getfield 68, 3) := by decide +kernel
theorem dX1_shout_15 : decode cX1_shout 15 = .ok (.bipush 40, 2) := by decide +kernel
theorem dX1_shout_17 : decode cX1_shout 17 = .ok (.if_icmp .ge 15, 3) := by decide +kernel
theorem dX1_shout_20 : decode cX1_shout 20 = .ok (.aload_n 0, 1) := by decide +kernel
theorem dX1_shout_21 : decode cX1_shout 21 = .ok (.getfield 10, 3) := by decide +kernel
theorem dX1_shout_24 : decode cX1_shout 24 = .ok (.getfield 71, 3) := by decide +kernel
theorem dX1_shout_27 : decode cX1_shout 27 = .ok (.bipush 8, 2) := by decide +kernel
theorem dX1_shout_29 : decode cX1_shout 29 = .ok (.if_icmp .lt 13, 3) := by decide +kernel
theorem dX1_shout_32 : decode cX1_shout 32 = .ok (.new 41, 3) := by decide +kernel
theorem dX1_shout_35 : decode cX1_shout 35 = .ok (.dup, 1) := by decide +kernel
theorem dX1_shout_36 : decode cX1_shout 36 = .ok (.ldc 74, 2) := by decide +kernel
theorem dX1_shout_38 : decode cX1_shout 38 = .ok (.invokespecial 45, 3) := by decide +kernel
theorem dX1_shout_41 : decode cX1_shout 41 = .ok (.athrow, 1) := by decide +kernel
theorem dX1_shout_42 : decode cX1_shout 42 = .ok (.aload_n 0, 1) := by decide +kernel
theorem dX1_shout_43 : decode cX1_shout 43 = .ok (.getfield 10, 3) := by decide +kernel
theorem dX1_shout_46 : decode cX1_shout 46 = .ok (.getfield 76, 3) := by decide +kernel
theorem dX1_shout_49 : decode cX1_shout 49 = .ok (.iload_n 1, 1) := by decide +kernel
theorem dX1_shout_50 : decode cX1_shout 50 = .ok (.iaload, 1) := by decide +kernel
theorem dX1_shout_51 : decode cX1_shout 51 = .ok (.iconst (-1), 1) := by decide +kernel
theorem dX1_shout_52 : decode cX1_shout 52 = .ok (.if_icmp .eq 13, 3) := by decide +kernel
theorem dX1_shout_55 : decode cX1_shout 55 = .ok (.new 41, 3) := by decide +kernel
theorem dX1_shout_58 : decode cX1_shout 58 = .ok (.dup, 1) := by decide +kernel
theorem dX1_shout_59 : decode cX1_shout 59 = .ok (.ldc 79, 2) := by decide +kernel
theorem dX1_shout_61 : decode cX1_shout 61 = .ok (.invokespecial 45, 3) := by decide +kernel
theorem dX1_shout_64 : decode cX1_shout 64 = .ok (.athrow, 1) := by decide +kernel
theorem dX1_shout_65 : decode cX1_shout 65 = .ok (.aload_n 0, 1) := by decide +kernel
theorem dX1_shout_66 : decode cX1_shout 66 = .ok (.getfield 10, 3) := by decide +kernel
theorem dX1_shout_69 : decode cX1_shout 69 = .ok (.iload_n 1, 1) := by decide +kernel
theorem dX1_shout_70 : decode cX1_shout 70 = .ok (.iload_n 2, 1) := by decide +kernel
theorem dX1_shout_71 : decode cX1_shout 71 = .ok (.iload_n 3, 1) := by decide +kernel
theorem dX1_shout_72 : decode cX1_shout 72 = .ok (.invokevirtual 81, 3) := by decide +kernel
theorem dX1_shout_75 : decode cX1_shout 75 = .ok (.ireturn, 1) := by decide +kernel
theorem dX1_pass_0 : decode cX1_pass 0 = .ok (.iload_n 1, 1) := by decide +kernel
theorem dX1_pass_1 : decode cX1_pass 1 = .ok (.invokestatic 85, 3) := by decide +kernel
theorem dX1_pass_4 : decode cX1_pass 4 = .ok (.aload_n 0, 1) := by decide +kernel
theorem dX1_pass_5 : decode cX1_pass 5 = .ok (.getfield 10, 3) := by decide +kernel
theorem dX1_pass_8 : decode cX1_pass 8 = .ok (.getfield 88, 3) := by decide +kernel
theorem dX1_pass_11 : decode cX1_pass 11 = .ok (.iconst 0, 1) := by decide +kernel
theorem dX1_pass_12 : decode cX1_pass 12 = .ok (.iaload, 1) := by decide +kernel
theorem dX1_pass_13 : decode cX1_pass 13 = .ok (.aload_n 0, 1) := by decide +kernel
theorem dX1_pass_14 : decode cX1_pass 14 = .ok (.getfield 10, 3) := by decide +kernel
theorem dX1_pass_17 : decode cX1_pass 17 = .ok (.getfield 88, 3) := by decide +kernel
theorem dX1_pass_20 : decode cX1_pass 20 = .ok (.iconst 1, 1) := by decide +kernel
theorem dX1_pass_21 : decode cX1_pass 21 = .ok (.iaload, 1) := by decide +kernel
theorem dX1_pass_22 : decode cX1_pass 22 = .ok (.iadd, 1) := by decide +kernel
theorem dX1_pass_23 : decode cX1_pass 23 = .ok (.istore_n 2, 1) := by decide +kernel
theorem dX1_pass_24 : decode cX1_pass 24 = .ok (.iconst 0, 1) := by decide +kernel
theorem dX1_pass_25 : decode cX1_pass 25 = .ok (.istore_n 3, 1) := by decide +kernel
theorem dX1_pass_26 : decode cX1_pass 26 = .ok (.iload_n 3, 1) := by decide +kernel
theorem dX1_pass_27 : decode cX1_pass 27 = .ok (.iload_n 1, 1) := by decide +kernel
theorem dX1_pass_28 : decode cX1_pass 28 = .ok (.if_icmp .ge 16, 3) := by decide +kernel
theorem dX1_pass_31 : decode cX1_pass 31 = .ok (.aload_n 0, 1) := by decide +kernel
theorem dX1_pass_32 : decode cX1_pass 32 = .ok (.getfield 10, 3) := by decide +kernel
theorem dX1_pass_35 : decode cX1_pass 35 = .ok (.invokevirtual 91, 3) := by decide +kernel
theorem dX1_pass_38 : decode cX1_pass 38 = .ok (.iinc 3 1, 3) := by decide +kernel
theorem dX1_pass_41 : decode cX1_pass 41 = .ok (.goto (-15), 3) := by decide +kernel
theorem dX1_pass_44 : decode cX1_pass 44 = .ok (.aload_n 0, 1) := by decide +kernel
theorem dX1_pass_45 : decode cX1_pass 45 = .ok (.getfield 10, 3) := by decide +kernel
theorem dX1_pass_48 : decode cX1_pass 48 = .ok (.getfield 88, 3) := by decide +kernel
theorem dX1_pass_51 : decode cX1_pass 51 = .ok (.iconst 0, 1) := by decide +kernel
theorem dX1_pass_52 : decode cX1_pass 52 = .ok (.iaload, 1) := by decide +kernel
theorem dX1_pass_53 : decode cX1_pass 53 = .ok (.aload_n 0, 1) := by decide +kernel
theorem dX1_pass_54 : decode cX1_pass 54 = .ok (.getfield 10, 3) := by decide +kernel
theorem dX1_pass_57 : decode cX1_pass 57 = .ok (.getfield 88, 3) := by decide +kernel
theorem dX1_pass_60 : decode cX1_pass 60 = .ok (.iconst 1, 1) := by decide +kernel
theorem dX1_pass_61 : decode cX1_pass 61 = .ok (.iaload, 1) := by decide +kernel
theorem dX1_pass_62 : decode cX1_pass 62 = .ok (.iadd, 1) := by decide +kernel
theorem dX1_pass_63 : decode cX1_pass 63 = .ok (.iload_n 2, 1) := by decide +kernel
theorem dX1_pass_64 : decode cX1_pass 64 = .ok (.isub, 1) := by decide +kernel
theorem dX1_pass_65 : decode cX1_pass 65 = .ok (.ireturn, 1) := by decide +kernel
theorem dX1_beat_0 : decode cX1_beat 0 = .ok (.aload_n 0, 1) := by decide +kernel
theorem dX1_beat_1 : decode cX1_beat 1 = .ok (.getfield 10, 3) := by decide +kernel
theorem dX1_beat_4 : decode cX1_beat 4 = .ok (.getfield 94, 3) := by decide +kernel
theorem dX1_beat_7 : decode cX1_beat 7 = .ok (.ireturn, 1) := by decide +kernel
theorem dX1_walls_0 : decode cX1_walls 0 = .ok (.aload_n 0, 1) := by decide +kernel
theorem dX1_walls_1 : decode cX1_walls 1 = .ok (.getfield 10, 3) := by decide +kernel
theorem dX1_walls_4 : decode cX1_walls 4 = .ok (.getfield 33, 3) := by decide +kernel
theorem dX1_walls_7 : decode cX1_walls 7 = .ok (.ireturn, 1) := by decide +kernel
theorem dX1_shouts_0 : decode cX1_shouts 0 = .ok (.aload_n 0, 1) := by decide +kernel
theorem dX1_shouts_1 : decode cX1_shouts 1 = .ok (.getfield 10, 3) := by decide +kernel
theorem dX1_shouts_4 : decode cX1_shouts 4 = .ok (.getfield 68, 3) := by decide +kernel
theorem dX1_shouts_7 : decode cX1_shouts 7 = .ok (.ireturn, 1) := by decide +kernel
theorem dX1_underWay_0 : decode cX1_underWay 0 = .ok (.aload_n 0, 1) := by decide +kernel
theorem dX1_underWay_1 : decode cX1_underWay 1 = .ok (.getfield 10, 3) := by decide +kernel
theorem dX1_underWay_4 : decode cX1_underWay 4 = .ok (.getfield 71, 3) := by decide +kernel
theorem dX1_underWay_7 : decode cX1_underWay 7 = .ok (.ireturn, 1) := by decide +kernel
theorem dX1_overlaps_0 : decode cX1_overlaps 0 = .ok (.aload_n 0, 1) := by decide +kernel
theorem dX1_overlaps_1 : decode cX1_overlaps 1 = .ok (.getfield 10, 3) := by decide +kernel
theorem dX1_overlaps_4 : decode cX1_overlaps 4 = .ok (.getfield 97, 3) := by decide +kernel
theorem dX1_overlaps_7 : decode cX1_overlaps 7 = .ok (.ireturn, 1) := by decide +kernel
theorem dX1_snowOn_0 : decode cX1_snowOn 0 = .ok (.iload_n 1, 1) := by decide +kernel
theorem dX1_snowOn_1 : decode cX1_snowOn 1 = .ok (.invokestatic 19, 3) := by decide +kernel
theorem dX1_snowOn_4 : decode cX1_snowOn 4 = .ok (.aload_n 0, 1) := by decide +kernel
theorem dX1_snowOn_5 : decode cX1_snowOn 5 = .ok (.getfield 10, 3) := by decide +kernel
theorem dX1_snowOn_8 : decode cX1_snowOn 8 = .ok (.getfield 62, 3) := by decide +kernel
theorem dX1_snowOn_11 : decode cX1_snowOn 11 = .ok (.iload_n 1, 1) := by decide +kernel
theorem dX1_snowOn_12 : decode cX1_snowOn 12 = .ok (.iaload, 1) := by decide +kernel
theorem dX1_snowOn_13 : decode cX1_snowOn 13 = .ok (.ireturn, 1) := by decide +kernel
theorem dX1_wallOn_0 : decode cX1_wallOn 0 = .ok (.iload_n 1, 1) := by decide +kernel
theorem dX1_wallOn_1 : decode cX1_wallOn 1 = .ok (.invokestatic 19, 3) := by decide +kernel
theorem dX1_wallOn_4 : decode cX1_wallOn 4 = .ok (.aload_n 0, 1) := by decide +kernel
theorem dX1_wallOn_5 : decode cX1_wallOn 5 = .ok (.getfield 10, 3) := by decide +kernel
theorem dX1_wallOn_8 : decode cX1_wallOn 8 = .ok (.getfield 37, 3) := by decide +kernel
theorem dX1_wallOn_11 : decode cX1_wallOn 11 = .ok (.iload_n 1, 1) := by decide +kernel
theorem dX1_wallOn_12 : decode cX1_wallOn 12 = .ok (.iaload, 1) := by decide +kernel
theorem dX1_wallOn_13 : decode cX1_wallOn 13 = .ok (.ireturn, 1) := by decide +kernel
theorem dX1_loudOn_0 : decode cX1_loudOn 0 = .ok (.iload_n 1, 1) := by decide +kernel
theorem dX1_loudOn_1 : decode cX1_loudOn 1 = .ok (.invokestatic 19, 3) := by decide +kernel
theorem dX1_loudOn_4 : decode cX1_loudOn 4 = .ok (.aload_n 0, 1) := by decide +kernel
theorem dX1_loudOn_5 : decode cX1_loudOn 5 = .ok (.getfield 10, 3) := by decide +kernel
theorem dX1_loudOn_8 : decode cX1_loudOn 8 = .ok (.iload_n 1, 1) := by decide +kernel
theorem dX1_loudOn_9 : decode cX1_loudOn 9 = .ok (.invokevirtual 100, 3) := by decide +kernel
theorem dX1_loudOn_12 : decode cX1_loudOn 12 = .ok (.ireturn, 1) := by decide +kernel
theorem dX1_stoneOf_0 : decode cX1_stoneOf 0 = .ok (.aload_n 0, 1) := by decide +kernel
theorem dX1_stoneOf_1 : decode cX1_stoneOf 1 = .ok (.iload_n 1, 1) := by decide +kernel
theorem dX1_stoneOf_2 : decode cX1_stoneOf 2 = .ok (.invokevirtual 50, 3) := by decide +kernel
theorem dX1_stoneOf_5 : decode cX1_stoneOf 5 = .ok (.aload_n 0, 1) := by decide +kernel
theorem dX1_stoneOf_6 : decode cX1_stoneOf 6 = .ok (.getfield 10, 3) := by decide +kernel
theorem dX1_stoneOf_9 : decode cX1_stoneOf 9 = .ok (.getfield 103, 3) := by decide +kernel
theorem dX1_stoneOf_12 : decode cX1_stoneOf 12 = .ok (.iload_n 1, 1) := by decide +kernel
theorem dX1_stoneOf_13 : decode cX1_stoneOf 13 = .ok (.iaload, 1) := by decide +kernel
theorem dX1_stoneOf_14 : decode cX1_stoneOf 14 = .ok (.ireturn, 1) := by decide +kernel
theorem dX1_ownerOf_0 : decode cX1_ownerOf 0 = .ok (.aload_n 0, 1) := by decide +kernel
theorem dX1_ownerOf_1 : decode cX1_ownerOf 1 = .ok (.iload_n 1, 1) := by decide +kernel
theorem dX1_ownerOf_2 : decode cX1_ownerOf 2 = .ok (.invokevirtual 50, 3) := by decide +kernel
theorem dX1_ownerOf_5 : decode cX1_ownerOf 5 = .ok (.aload_n 0, 1) := by decide +kernel
theorem dX1_ownerOf_6 : decode cX1_ownerOf 6 = .ok (.getfield 10, 3) := by decide +kernel
theorem dX1_ownerOf_9 : decode cX1_ownerOf 9 = .ok (.getfield 53, 3) := by decide +kernel
theorem dX1_ownerOf_12 : decode cX1_ownerOf 12 = .ok (.iload_n 1, 1) := by decide +kernel
theorem dX1_ownerOf_13 : decode cX1_ownerOf 13 = .ok (.iaload, 1) := by decide +kernel
theorem dX1_ownerOf_14 : decode cX1_ownerOf 14 = .ok (.ireturn, 1) := by decide +kernel
theorem dX1_thrownBack_0 : decode cX1_thrownBack 0 = .ok (.aload_n 0, 1) := by decide +kernel
theorem dX1_thrownBack_1 : decode cX1_thrownBack 1 = .ok (.iload_n 1, 1) := by decide +kernel
theorem dX1_thrownBack_2 : decode cX1_thrownBack 2 = .ok (.invokevirtual 50, 3) := by decide +kernel
theorem dX1_thrownBack_5 : decode cX1_thrownBack 5 = .ok (.aload_n 0, 1) := by decide +kernel
theorem dX1_thrownBack_6 : decode cX1_thrownBack 6 = .ok (.getfield 10, 3) := by decide +kernel
theorem dX1_thrownBack_9 : decode cX1_thrownBack 9 = .ok (.getfield 106, 3) := by decide +kernel
theorem dX1_thrownBack_12 : decode cX1_thrownBack 12 = .ok (.iload_n 1, 1) := by decide +kernel
theorem dX1_thrownBack_13 : decode cX1_thrownBack 13 = .ok (.iaload, 1) := by decide +kernel
theorem dX1_thrownBack_14 : decode cX1_thrownBack 14 = .ok (.ireturn, 1) := by decide +kernel
theorem dX1_coinsOf_0 : decode cX1_coinsOf 0 = .ok (.iload_n 1, 1) := by decide +kernel
theorem dX1_coinsOf_1 : decode cX1_coinsOf 1 = .ok (.invokestatic 23, 3) := by decide +kernel
theorem dX1_coinsOf_4 : decode cX1_coinsOf 4 = .ok (.aload_n 0, 1) := by decide +kernel
theorem dX1_coinsOf_5 : decode cX1_coinsOf 5 = .ok (.getfield 10, 3) := by decide +kernel
theorem dX1_coinsOf_8 : decode cX1_coinsOf 8 = .ok (.getfield 88, 3) := by decide +kernel
theorem dX1_coinsOf_11 : decode cX1_coinsOf 11 = .ok (.iload_n 1, 1) := by decide +kernel
theorem dX1_coinsOf_12 : decode cX1_coinsOf 12 = .ok (.iaload, 1) := by decide +kernel
theorem dX1_coinsOf_13 : decode cX1_coinsOf 13 = .ok (.ireturn, 1) := by decide +kernel
theorem dX1_wallsOf_0 : decode cX1_wallsOf 0 = .ok (.iload_n 1, 1) := by decide +kernel
theorem dX1_wallsOf_1 : decode cX1_wallsOf 1 = .ok (.invokestatic 23, 3) := by decide +kernel
theorem dX1_wallsOf_4 : decode cX1_wallsOf 4 = .ok (.iconst 0, 1) := by decide +kernel
theorem dX1_wallsOf_5 : decode cX1_wallsOf 5 = .ok (.istore_n 2, 1) := by decide +kernel
theorem dX1_wallsOf_6 : decode cX1_wallsOf 6 = .ok (.iconst 0, 1) := by decide +kernel
theorem dX1_wallsOf_7 : decode cX1_wallsOf 7 = .ok (.istore_n 3, 1) := by decide +kernel
theorem dX1_wallsOf_8 : decode cX1_wallsOf 8 = .ok (.iload_n 3, 1) := by decide +kernel
theorem dX1_wallsOf_9 : decode cX1_wallsOf 9 = .ok (.aload_n 0, 1) := by decide +kernel
theorem dX1_wallsOf_10 : decode cX1_wallsOf 10 = .ok (.getfield 10, 3) := by decide +kernel
theorem dX1_wallsOf_13 : decode cX1_wallsOf 13 = .ok (.getfield 33, 3) := by decide +kernel
theorem dX1_wallsOf_16 : decode cX1_wallsOf 16 = .ok (.if_icmp .ge 25, 3) := by decide +kernel
theorem dX1_wallsOf_19 : decode cX1_wallsOf 19 = .ok (.aload_n 0, 1) := by decide +kernel
theorem dX1_wallsOf_20 : decode cX1_wallsOf 20 = .ok (.getfield 10, 3) := by decide +kernel
theorem dX1_wallsOf_23 : decode cX1_wallsOf 23 = .ok (.getfield 53, 3) := by decide +kernel
theorem dX1_wallsOf_26 : decode cX1_wallsOf 26 = .ok (.iload_n 3, 1) := by decide +kernel
theorem dX1_wallsOf_27 : decode cX1_wallsOf 27 = .ok (.iaload, 1) := by decide +kernel
theorem dX1_wallsOf_28 : decode cX1_wallsOf 28 = .ok (.iload_n 1, 1) := by decide +kernel
theorem dX1_wallsOf_29 : decode cX1_wallsOf 29 = .ok (.if_icmp .ne 6, 3) := by decide +kernel
theorem dX1_wallsOf_32 : decode cX1_wallsOf 32 = .ok (.iinc 2 1, 3) := by decide +kernel
theorem dX1_wallsOf_35 : decode cX1_wallsOf 35 = .ok (.iinc 3 1, 3) := by decide +kernel
theorem dX1_wallsOf_38 : decode cX1_wallsOf 38 = .ok (.goto (-30), 3) := by decide +kernel
theorem dX1_wallsOf_41 : decode cX1_wallsOf 41 = .ok (.iload_n 2, 1) := by decide +kernel
theorem dX1_wallsOf_42 : decode cX1_wallsOf 42 = .ok (.ireturn, 1) := by decide +kernel
theorem dX1_silentFor_0 : decode cX1_silentFor 0 = .ok (.iload_n 1, 1) := by decide +kernel
theorem dX1_silentFor_1 : decode cX1_silentFor 1 = .ok (.invokestatic 23, 3) := by decide +kernel
theorem dX1_silentFor_4 : decode cX1_silentFor 4 = .ok (.aload_n 0, 1) := by decide +kernel
theorem dX1_silentFor_5 : decode cX1_silentFor 5 = .ok (.getfield 10, 3) := by decide +kernel
theorem dX1_silentFor_8 : decode cX1_silentFor 8 = .ok (.getfield 109, 3) := by decide +kernel
theorem dX1_silentFor_11 : decode cX1_silentFor 11 = .ok (.iload_n 1, 1) := by decide +kernel
theorem dX1_silentFor_12 : decode cX1_silentFor 12 = .ok (.iaload, 1) := by decide +kernel
theorem dX1_silentFor_13 : decode cX1_silentFor 13 = .ok (.ireturn, 1) := by decide +kernel
theorem dX1_inherited_0 : decode cX1_inherited 0 = .ok (.aload_n 0, 1) := by decide +kernel
theorem dX1_inherited_1 : decode cX1_inherited 1 = .ok (.getfield 10, 3) := by decide +kernel
theorem dX1_inherited_4 : decode cX1_inherited 4 = .ok (.getfield 112, 3) := by decide +kernel
theorem dX1_inherited_7 : decode cX1_inherited 7 = .ok (.ireturn, 1) := by decide +kernel
theorem dX1_loudnessOf_0 : decode cX1_loudnessOf 0 = .ok (.aload_n 0, 1) := by decide +kernel
theorem dX1_loudnessOf_1 : decode cX1_loudnessOf 1 = .ok (.iload_n 1, 1) := by decide +kernel
theorem dX1_loudnessOf_2 : decode cX1_loudnessOf 2 = .ok (.invokevirtual 115, 3) := by decide +kernel
theorem dX1_loudnessOf_5 : decode cX1_loudnessOf 5 = .ok (.aload_n 0, 1) := by decide +kernel
theorem dX1_loudnessOf_6 : decode cX1_loudnessOf 6 = .ok (.getfield 10, 3) := by decide +kernel
theorem dX1_loudnessOf_9 : decode cX1_loudnessOf 9 = .ok (.getfield 118, 3) := by decide +kernel
theorem dX1_loudnessOf_12 : decode cX1_loudnessOf 12 = .ok (.iload_n 1, 1) := by decide +kernel
theorem dX1_loudnessOf_13 : decode cX1_loudnessOf 13 = .ok (.iaload, 1) := by decide +kernel
theorem dX1_loudnessOf_14 : decode cX1_loudnessOf 14 = .ok (.ireturn, 1) := by decide +kernel
theorem dX1_placeOf_0 : decode cX1_placeOf 0 = .ok (.aload_n 0, 1) := by decide +kernel
theorem dX1_placeOf_1 : decode cX1_placeOf 1 = .ok (.iload_n 1, 1) := by decide +kernel
theorem dX1_placeOf_2 : decode cX1_placeOf 2 = .ok (.invokevirtual 115, 3) := by decide +kernel
theorem dX1_placeOf_5 : decode cX1_placeOf 5 = .ok (.aload_n 0, 1) := by decide +kernel
theorem dX1_placeOf_6 : decode cX1_placeOf 6 = .ok (.getfield 10, 3) := by decide +kernel
theorem dX1_placeOf_9 : decode cX1_placeOf 9 = .ok (.getfield 121, 3) := by decide +kernel
theorem dX1_placeOf_12 : decode cX1_placeOf 12 = .ok (.iload_n 1, 1) := by decide +kernel
theorem dX1_placeOf_13 : decode cX1_placeOf 13 = .ok (.iaload, 1) := by decide +kernel
theorem dX1_placeOf_14 : decode cX1_placeOf 14 = .ok (.ireturn, 1) := by decide +kernel
theorem dX1_goesRight_0 : decode cX1_goesRight 0 = .ok (.aload_n 0, 1) := by decide +kernel
theorem dX1_goesRight_1 : decode cX1_goesRight 1 = .ok (.iload_n 1, 1) := by decide +kernel
theorem dX1_goesRight_2 : decode cX1_goesRight 2 = .ok (.invokevirtual 115, 3) := by decide +kernel
theorem dX1_goesRight_5 : decode cX1_goesRight 5 = .ok (.aload_n 0, 1) := by decide +kernel
theorem dX1_goesRight_6 : decode cX1_goesRight 6 = .ok (.getfield 10, 3) := by decide +kernel
theorem dX1_goesRight_9 : decode cX1_goesRight 9 = .ok (.getfield 124, 3) := by decide +kernel
theorem dX1_goesRight_12 : decode cX1_goesRight 12 = .ok (.iload_n 1, 1) := by decide +kernel
theorem dX1_goesRight_13 : decode cX1_goesRight 13 = .ok (.iaload, 1) := by decide +kernel
theorem dX1_goesRight_14 : decode cX1_goesRight 14 = .ok (.ifCond .le 7, 3) := by decide +kernel
theorem dX1_goesRight_17 : decode cX1_goesRight 17 = .ok (.iconst 1, 1) := by decide +kernel
theorem dX1_goesRight_18 : decode cX1_goesRight 18 = .ok (.goto 4, 3) := by decide +kernel
theorem dX1_goesRight_21 : decode cX1_goesRight 21 = .ok (.iconst 0, 1) := by decide +kernel
theorem dX1_goesRight_22 : decode cX1_goesRight 22 = .ok (.ireturn, 1) := by decide +kernel
theorem dX1_turnsOf_0 : decode cX1_turnsOf 0 = .ok (.aload_n 0, 1) := by decide +kernel
theorem dX1_turnsOf_1 : decode cX1_turnsOf 1 = .ok (.iload_n 1, 1) := by decide +kernel
theorem dX1_turnsOf_2 : decode cX1_turnsOf 2 = .ok (.invokevirtual 115, 3) := by decide +kernel
theorem dX1_turnsOf_5 : decode cX1_turnsOf 5 = .ok (.aload_n 0, 1) := by decide +kernel
theorem dX1_turnsOf_6 : decode cX1_turnsOf 6 = .ok (.getfield 10, 3) := by decide +kernel
theorem dX1_turnsOf_9 : decode cX1_turnsOf 9 = .ok (.getfield 127, 3) := by decide +kernel
theorem dX1_turnsOf_12 : decode cX1_turnsOf 12 = .ok (.iload_n 1, 1) := by decide +kernel
theorem dX1_turnsOf_13 : decode cX1_turnsOf 13 = .ok (.iaload, 1) := by decide +kernel
theorem dX1_turnsOf_14 : decode cX1_turnsOf 14 = .ok (.ireturn, 1) := by decide +kernel
theorem dX1_nextWall_0 : decode cX1_nextWall 0 = .ok (.iload_n 1, 1) := by decide +kernel
theorem dX1_nextWall_1 : decode cX1_nextWall 1 = .ok (.invokestatic 19, 3) := by decide +kernel
theorem dX1_nextWall_4 : decode cX1_nextWall 4 = .ok (.iload_n 2, 1) := by decide +kernel
theorem dX1_nextWall_5 : decode cX1_nextWall 5 = .ok (.ifCond .eq 7, 3) := by decide +kernel
theorem dX1_nextWall_8 : decode cX1_nextWall 8 = .ok (.iconst 1, 1) := by decide +kernel
theorem dX1_nextWall_9 : decode cX1_nextWall 9 = .ok (.goto 4, 3) := by decide +kernel
theorem dX1_nextWall_12 : decode cX1_nextWall 12 = .ok (.iconst (-1), 1) := by decide +kernel
theorem dX1_nextWall_13 : decode cX1_nextWall 13 = .ok (.istore_n 3, 1) := by decide +kernel
theorem dX1_nextWall_14 : decode cX1_nextWall 14 = .ok (.iload_n 1, 1) := by decide +kernel
theorem dX1_nextWall_15 : decode cX1_nextWall 15 = .ok (.iload_n 3, 1) := by decide +kernel
theorem dX1_nextWall_16 : decode cX1_nextWall 16 = .ok (.iadd, 1) := by decide +kernel
theorem dX1_nextWall_17 : decode cX1_nextWall 17 = .ok (.istore 4, 2) := by decide +kernel
theorem dX1_nextWall_19 : decode cX1_nextWall 19 = .ok (.iload 4, 2) := by decide +kernel
theorem dX1_nextWall_21 : decode cX1_nextWall 21 = .ok (.ifCond .lt 36, 3) := by decide +kernel
theorem dX1_nextWall_24 : decode cX1_nextWall 24 = .ok (.iload 4, 2) := by decide +kernel
theorem dX1_nextWall_26 : decode cX1_nextWall 26 = .ok (.bipush 32, 2) := by decide +kernel
theorem dX1_nextWall_28 : decode cX1_nextWall 28 = .ok (.if_icmp .ge 29, 3) := by decide +kernel
theorem dX1_nextWall_31 : decode cX1_nextWall 31 = .ok (.aload_n 0, 1) := by decide +kernel
theorem dX1_nextWall_32 : decode cX1_nextWall 32 = .ok (.getfield 10, 3) := by decide +kernel
theorem dX1_nextWall_35 : decode cX1_nextWall 35 = .ok (.getfield 37, 3) := by decide +kernel
theorem dX1_nextWall_38 : decode cX1_nextWall 38 = .ok (.iload 4, 2) := by decide +kernel
theorem dX1_nextWall_40 : decode cX1_nextWall 40 = .ok (.iaload, 1) := by decide +kernel
theorem dX1_nextWall_41 : decode cX1_nextWall 41 = .ok (.iconst (-1), 1) := by decide +kernel
theorem dX1_nextWall_42 : decode cX1_nextWall 42 = .ok (.if_icmp .eq 6, 3) := by decide +kernel
theorem dX1_nextWall_45 : decode cX1_nextWall 45 = .ok (.iload 4, 2) := by decide +kernel
theorem dX1_nextWall_47 : decode cX1_nextWall 47 = .ok (.ireturn, 1) := by decide +kernel
theorem dX1_nextWall_48 : decode cX1_nextWall 48 = .ok (.iload 4, 2) := by decide +kernel
theorem dX1_nextWall_50 : decode cX1_nextWall 50 = .ok (.iload_n 3, 1) := by decide +kernel
theorem dX1_nextWall_51 : decode cX1_nextWall 51 = .ok (.iadd, 1) := by decide +kernel
theorem dX1_nextWall_52 : decode cX1_nextWall 52 = .ok (.istore 4, 2) := by decide +kernel
theorem dX1_nextWall_54 : decode cX1_nextWall 54 = .ok (.goto (-35), 3) := by decide +kernel
theorem dX1_nextWall_57 : decode cX1_nextWall 57 = .ok (.iconst (-1), 1) := by decide +kernel
theorem dX1_nextWall_58 : decode cX1_nextWall 58 = .ok (.ireturn, 1) := by decide +kernel
theorem dX1_beatsUntilGone_0 : decode cX1_beatsUntilGone 0 = .ok (.aload_n 0, 1) := by decide +kernel
theorem dX1_beatsUntilGone_1 : decode cX1_beatsUntilGone 1 = .ok (.iload_n 1, 1) := by decide +kernel
theorem dX1_beatsUntilGone_2 : decode cX1_beatsUntilGone 2 = .ok (.invokevirtual 115, 3) := by decide +kernel
theorem dX1_beatsUntilGone_5 : decode cX1_beatsUntilGone 5 = .ok (.aload_n 0, 1) := by decide +kernel
theorem dX1_beatsUntilGone_6 : decode cX1_beatsUntilGone 6 = .ok (.getfield 16, 3) := by decide +kernel
theorem dX1_beatsUntilGone_9 : decode cX1_beatsUntilGone 9 = .ok (.aload_n 0, 1) := by decide +kernel
theorem dX1_beatsUntilGone_10 : decode cX1_beatsUntilGone 10 = .ok (.getfield 10, 3) := by decide +kernel
theorem dX1_beatsUntilGone_13 : decode cX1_beatsUntilGone 13 = .ok (.invokevirtual 130, 3) := by decide +kernel
theorem dX1_beatsUntilGone_16 : decode cX1_beatsUntilGone 16 = .ok (.iconst 0, 1) := by decide +kernel
theorem dX1_beatsUntilGone_17 : decode cX1_beatsUntilGone 17 = .ok (.istore_n 2, 1) := by decide +kernel
theorem dX1_beatsUntilGone_18 : decode cX1_beatsUntilGone 18 = .ok (.iload_n 2, 1) := by decide +kernel
theorem dX1_beatsUntilGone_19 : decode cX1_beatsUntilGone 19 = .ok (.bipush 99, 2) := by decide +kernel
theorem dX1_beatsUntilGone_21 : decode cX1_beatsUntilGone 21 = .ok (.if_icmp .ge 28, 3) := by decide +kernel
theorem dX1_beatsUntilGone_24 : decode cX1_beatsUntilGone 24 = .ok (.aload_n 0, 1) := by decide +kernel
theorem dX1_beatsUntilGone_25 : decode cX1_beatsUntilGone 25 = .ok (.getfield 16, 3) := by decide +kernel
theorem dX1_beatsUntilGone_28 : decode cX1_beatsUntilGone 28 = .ok (.getfield 118, 3) := by decide +kernel
theorem dX1_beatsUntilGone_31 : decode cX1_beatsUntilGone 31 = .ok (.iload_n 1, 1) := by decide +kernel
theorem dX1_beatsUntilGone_32 : decode cX1_beatsUntilGone 32 = .ok (.iaload, 1) := by decide +kernel
theorem dX1_beatsUntilGone_33 : decode cX1_beatsUntilGone 33 = .ok (.ifCond .le 16, 3) := by decide +kernel
theorem dX1_beatsUntilGone_36 : decode cX1_beatsUntilGone 36 = .ok (.aload_n 0, 1) := by decide +kernel
theorem dX1_beatsUntilGone_37 : decode cX1_beatsUntilGone 37 = .ok (.getfield 16, 3) := by decide +kernel
theorem dX1_beatsUntilGone_40 : decode cX1_beatsUntilGone 40 = .ok (.invokevirtual 91, 3) := by decide +kernel
theorem dX1_beatsUntilGone_43 : decode cX1_beatsUntilGone 43 = .ok (.iinc 2 1, 3) := by decide +kernel
theorem dX1_beatsUntilGone_46 : decode cX1_beatsUntilGone 46 = .ok (.goto (-28), 3) := by decide +kernel
theorem dX1_beatsUntilGone_49 : decode cX1_beatsUntilGone 49 = .ok (.iload_n 2, 1) := by decide +kernel
theorem dX1_beatsUntilGone_50 : decode cX1_beatsUntilGone 50 = .ok (.ireturn, 1) := by decide +kernel
theorem dX1_beatsUntilQuiet_0 : decode cX1_beatsUntilQuiet 0 = .ok (.aload_n 0, 1) := by decide +kernel
theorem dX1_beatsUntilQuiet_1 : decode cX1_beatsUntilQuiet 1 = .ok (.getfield 16, 3) := by decide +kernel
theorem dX1_beatsUntilQuiet_4 : decode cX1_beatsUntilQuiet 4 = .ok (.aload_n 0, 1) := by decide +kernel
theorem dX1_beatsUntilQuiet_5 : decode cX1_beatsUntilQuiet 5 = .ok (.getfield 10, 3) := by decide +kernel
theorem dX1_beatsUntilQuiet_8 : decode cX1_beatsUntilQuiet 8 = .ok (.invokevirtual 130, 3) := by decide +kernel
theorem dX1_beatsUntilQuiet_11 : decode cX1_beatsUntilQuiet 11 = .ok (.iconst 0, 1) := by decide +kernel
theorem dX1_beatsUntilQuiet_12 : decode cX1_beatsUntilQuiet 12 = .ok (.istore_n 1, 1) := by decide +kernel
theorem dX1_beatsUntilQuiet_13 : decode cX1_beatsUntilQuiet 13 = .ok (.iload_n 1, 1) := by decide +kernel
theorem dX1_beatsUntilQuiet_14 : decode cX1_beatsUntilQuiet 14 = .ok (.bipush 99, 2) := by decide +kernel
theorem dX1_beatsUntilQuiet_16 : decode cX1_beatsUntilQuiet 16 = .ok (.if_icmp .ge 26, 3) := by decide +kernel
theorem dX1_beatsUntilQuiet_19 : decode cX1_beatsUntilQuiet 19 = .ok (.aload_n 0, 1) := by decide +kernel
theorem dX1_beatsUntilQuiet_20 : decode cX1_beatsUntilQuiet 20 = .ok (.getfield 16, 3) := by decide +kernel
theorem dX1_beatsUntilQuiet_23 : decode cX1_beatsUntilQuiet 23 = .ok (.getfield 71, 3) := by decide +kernel
theorem dX1_beatsUntilQuiet_26 : decode cX1_beatsUntilQuiet 26 = .ok (.ifCond .le 16, 3) := by decide +kernel
theorem dX1_beatsUntilQuiet_29 : decode cX1_beatsUntilQuiet 29 = .ok (.aload_n 0, 1) := by decide +kernel
theorem dX1_beatsUntilQuiet_30 : decode cX1_beatsUntilQuiet 30 = .ok (.getfield 16, 3) := by decide +kernel
theorem dX1_beatsUntilQuiet_33 : decode cX1_beatsUntilQuiet 33 = .ok (.invokevirtual 91, 3) := by decide +kernel
theorem dX1_beatsUntilQuiet_36 : decode cX1_beatsUntilQuiet 36 = .ok (.iinc 1 1, 3) := by decide +kernel
theorem dX1_beatsUntilQuiet_39 : decode cX1_beatsUntilQuiet 39 = .ok (.goto (-26), 3) := by decide +kernel
theorem dX1_beatsUntilQuiet_42 : decode cX1_beatsUntilQuiet 42 = .ok (.iload_n 1, 1) := by decide +kernel
theorem dX1_beatsUntilQuiet_43 : decode cX1_beatsUntilQuiet 43 = .ok (.ireturn, 1) := by decide +kernel
theorem dX1_coinsIn_0 : decode cX1_coinsIn 0 = .ok (.iload_n 1, 1) := by decide +kernel
theorem dX1_coinsIn_1 : decode cX1_coinsIn 1 = .ok (.invokestatic 23, 3) := by decide +kernel
theorem dX1_coinsIn_4 : decode cX1_coinsIn 4 = .ok (.iload_n 2, 1) := by decide +kernel
theorem dX1_coinsIn_5 : decode cX1_coinsIn 5 = .ok (.invokestatic 85, 3) := by decide +kernel
theorem dX1_coinsIn_8 : decode cX1_coinsIn 8 = .ok (.aload_n 0, 1) := by decide +kernel
theorem dX1_coinsIn_9 : decode cX1_coinsIn 9 = .ok (.getfield 16, 3) := by decide +kernel
theorem dX1_coinsIn_12 : decode cX1_coinsIn 12 = .ok (.aload_n 0, 1) := by decide +kernel
theorem dX1_coinsIn_13 : decode cX1_coinsIn 13 = .ok (.getfield 10, 3) := by decide +kernel
theorem dX1_coinsIn_16 : decode cX1_coinsIn 16 = .ok (.invokevirtual 130, 3) := by decide +kernel
theorem dX1_coinsIn_19 : decode cX1_coinsIn 19 = .ok (.iconst 0, 1) := by decide +kernel
theorem dX1_coinsIn_20 : decode cX1_coinsIn 20 = .ok (.istore_n 3, 1) := by decide +kernel
theorem dX1_coinsIn_21 : decode cX1_coinsIn 21 = .ok (.iload_n 3, 1) := by decide +kernel
theorem dX1_coinsIn_22 : decode cX1_coinsIn 22 = .ok (.iload_n 2, 1) := by decide +kernel
theorem dX1_coinsIn_23 : decode cX1_coinsIn 23 = .ok (.if_icmp .ge 26, 3) := by decide +kernel
theorem dX1_coinsIn_26 : decode cX1_coinsIn 26 = .ok (.aload_n 0, 1) := by decide +kernel
theorem dX1_coinsIn_27 : decode cX1_coinsIn 27 = .ok (.getfield 16, 3) := by decide +kernel
theorem dX1_coinsIn_30 : decode cX1_coinsIn 30 = .ok (.getfield 71, 3) := by decide +kernel
theorem dX1_coinsIn_33 : decode cX1_coinsIn 33 = .ok (.ifCond .le 16, 3) := by decide +kernel
theorem dX1_coinsIn_36 : decode cX1_coinsIn 36 = .ok (.aload_n 0, 1) := by decide +kernel
theorem dX1_coinsIn_37 : decode cX1_coinsIn 37 = .ok (.getfield 16, 3) := by decide +kernel
theorem dX1_coinsIn_40 : decode cX1_coinsIn 40 = .ok (.invokevirtual 91, 3) := by decide +kernel
theorem dX1_coinsIn_43 : decode cX1_coinsIn 43 = .ok (.iinc 3 1, 3) := by decide +kernel
theorem dX1_coinsIn_46 : decode cX1_coinsIn 46 = .ok (.goto (-25), 3) := by decide +kernel
theorem dX1_coinsIn_49 : decode cX1_coinsIn 49 = .ok (.aload_n 0, 1) := by decide +kernel
theorem dX1_coinsIn_50 : decode cX1_coinsIn 50 = .ok (.getfield 16, 3) := by decide +kernel
theorem dX1_coinsIn_53 : decode cX1_coinsIn 53 = .ok (.getfield 88, 3) := by decide +kernel
theorem dX1_coinsIn_56 : decode cX1_coinsIn 56 = .ok (.iload_n 1, 1) := by decide +kernel
theorem dX1_coinsIn_57 : decode cX1_coinsIn 57 = .ok (.iaload, 1) := by decide +kernel
theorem dX1_coinsIn_58 : decode cX1_coinsIn 58 = .ok (.aload_n 0, 1) := by decide +kernel
theorem dX1_coinsIn_59 : decode cX1_coinsIn 59 = .ok (.getfield 10, 3) := by decide +kernel
theorem dX1_coinsIn_62 : decode cX1_coinsIn 62 = .ok (.getfield 88, 3) := by decide +kernel
theorem dX1_coinsIn_65 : decode cX1_coinsIn 65 = .ok (.iload_n 1, 1) := by decide +kernel
theorem dX1_coinsIn_66 : decode cX1_coinsIn 66 = .ok (.iaload, 1) := by decide +kernel
theorem dX1_coinsIn_67 : decode cX1_coinsIn 67 = .ok (.isub, 1) := by decide +kernel
theorem dX1_coinsIn_68 : decode cX1_coinsIn 68 = .ok (.ireturn, 1) := by decide +kernel
theorem dX1_loudestOn_0 : decode cX1_loudestOn 0 = .ok (.iload_n 1, 1) := by decide +kernel
theorem dX1_loudestOn_1 : decode cX1_loudestOn 1 = .ok (.invokestatic 19, 3) := by decide +kernel
theorem dX1_loudestOn_4 : decode cX1_loudestOn 4 = .ok (.iload_n 2, 1) := by decide +kernel
theorem dX1_loudestOn_5 : decode cX1_loudestOn 5 = .ok (.invokestatic 85, 3) := by decide +kernel
theorem dX1_loudestOn_8 : decode cX1_loudestOn 8 = .ok (.aload_n 0, 1) := by decide +kernel
theorem dX1_loudestOn_9 : decode cX1_loudestOn 9 = .ok (.getfield 16, 3) := by decide +kernel
theorem dX1_loudestOn_12 : decode cX1_loudestOn 12 = .ok (.aload_n 0, 1) := by decide +kernel
theorem dX1_loudestOn_13 : decode cX1_loudestOn 13 = .ok (.getfield 10, 3) := by decide +kernel
theorem dX1_loudestOn_16 : decode cX1_loudestOn 16 = .ok (.invokevirtual 130, 3) := by decide +kernel
theorem dX1_loudestOn_19 : decode cX1_loudestOn 19 = .ok (.iconst 0, 1) := by decide +kernel
theorem dX1_loudestOn_20 : decode cX1_loudestOn 20 = .ok (.istore_n 3, 1) := by decide +kernel
theorem dX1_loudestOn_21 : decode cX1_loudestOn 21 = .ok (.iconst 0, 1) := by decide +kernel
theorem dX1_loudestOn_22 : decode cX1_loudestOn 22 = .ok (.istore 4, 2) := by decide +kernel
theorem dX1_loudestOn_24 : decode cX1_loudestOn 24 = .ok (.iload 4, 2) := by decide +kernel
theorem dX1_loudestOn_26 : decode cX1_loudestOn 26 = .ok (.iload_n 2, 1) := by decide +kernel
theorem dX1_loudestOn_27 : decode cX1_loudestOn 27 = .ok (.if_icmp .ge 39, 3) := by decide +kernel
theorem dX1_loudestOn_30 : decode cX1_loudestOn 30 = .ok (.aload_n 0, 1) := by decide +kernel
theorem dX1_loudestOn_31 : decode cX1_loudestOn 31 = .ok (.getfield 16, 3) := by decide +kernel
theorem dX1_loudestOn_34 : decode cX1_loudestOn 34 = .ok (.getfield 71, 3) := by decide +kernel
theorem dX1_loudestOn_37 : decode cX1_loudestOn 37 = .ok (.ifCond .le 29, 3) := by decide +kernel
theorem dX1_loudestOn_40 : decode cX1_loudestOn 40 = .ok (.aload_n 0, 1) := by decide +kernel
theorem dX1_loudestOn_41 : decode cX1_loudestOn 41 = .ok (.getfield 16, 3) := by decide +kernel
theorem dX1_loudestOn_44 : decode cX1_loudestOn 44 = .ok (.invokevirtual 91, 3) := by decide +kernel
theorem dX1_loudestOn_47 : decode cX1_loudestOn 47 = .ok (.iload_n 3, 1) := by decide +kernel
theorem dX1_loudestOn_48 : decode cX1_loudestOn 48 = .ok (.aload_n 0, 1) := by decide +kernel
theorem dX1_loudestOn_49 : decode cX1_loudestOn 49 = .ok (.getfield 16, 3) := by decide +kernel
theorem dX1_loudestOn_52 : decode cX1_loudestOn 52 = .ok (.iload_n 1, 1) := by decide +kernel
theorem dX1_loudestOn_53 : decode cX1_loudestOn 53 = .ok (.invokevirtual 100, 3) := by decide +kernel
theorem dX1_loudestOn_56 : decode cX1_loudestOn 56 = .ok (.invokestatic 134, 3) := by decide +kernel
theorem dX1_loudestOn_59 : decode cX1_loudestOn 59 = .ok (.istore_n 3, 1) := by decide +kernel
theorem dX1_loudestOn_60 : decode cX1_loudestOn 60 = .ok (.iinc 4 1, 3) := by decide +kernel
theorem dX1_loudestOn_63 : decode cX1_loudestOn 63 = .ok (.goto (-39), 3) := by decide +kernel
theorem dX1_loudestOn_66 : decode cX1_loudestOn 66 = .ok (.iload_n 3, 1) := by decide +kernel
theorem dX1_loudestOn_67 : decode cX1_loudestOn 67 = .ok (.ireturn, 1) := by decide +kernel
theorem dX1_loudnessWanted_0 : decode cX1_loudnessWanted 0 = .ok (.iload_n 1, 1) := by decide +kernel
theorem dX1_loudnessWanted_1 : decode cX1_loudnessWanted 1 = .ok (.invokestatic 19, 3) := by decide +kernel
theorem dX1_loudnessWanted_4 : decode cX1_loudnessWanted 4 = .ok (.iload_n 3, 1) := by decide +kernel
theorem dX1_loudnessWanted_5 : decode cX1_loudnessWanted 5 = .ok (.invokestatic 19, 3) := by decide +kernel
theorem dX1_loudnessWanted_8 : decode cX1_loudnessWanted 8 = .ok (.aload_n 0, 1) := by decide +kernel
theorem dX1_loudnessWanted_9 : decode cX1_loudnessWanted 9 = .ok (.getfield 16, 3) := by decide +kernel
theorem dX1_loudnessWanted_12 : decode cX1_loudnessWanted 12 = .ok (.aload_n 0, 1) := by decide +kernel
theorem dX1_loudnessWanted_13 : decode cX1_loudnessWanted 13 = .ok (.getfield 10, 3) := by decide +kernel
theorem dX1_loudnessWanted_16 : decode cX1_loudnessWanted 16 = .ok (.invokevirtual 130, 3) := by decide +kernel
theorem dX1_loudnessWanted_19 : decode cX1_loudnessWanted 19 = .ok (.aload_n 0, 1) := by decide +kernel
theorem dX1_loudnessWanted_20 : decode cX1_loudnessWanted 20 = .ok (.getfield 16, 3) := by decide +kernel
theorem dX1_loudnessWanted_23 : decode cX1_loudnessWanted 23 = .ok (.iload_n 1, 1) := by decide +kernel
theorem dX1_loudnessWanted_24 : decode cX1_loudnessWanted 24 = .ok (.iload_n 2, 1) := by decide +kernel
theorem dX1_loudnessWanted_25 : decode cX1_loudnessWanted 25 = .ok (.bipush 99, 2) := by decide +kernel
theorem dX1_loudnessWanted_27 : decode cX1_loudnessWanted 27 = .ok (.invokevirtual 140, 3) := by decide +kernel
theorem dX1_loudnessWanted_30 : decode cX1_loudnessWanted 30 = .ok (.iconst 0, 1) := by decide +kernel
theorem dX1_loudnessWanted_31 : decode cX1_loudnessWanted 31 = .ok (.istore 4, 2) := by decide +kernel
theorem dX1_loudnessWanted_33 : decode cX1_loudnessWanted 33 = .ok (.iload 4, 2) := by decide +kernel
theorem dX1_loudnessWanted_35 : decode cX1_loudnessWanted 35 = .ok (.bipush 99, 2) := by decide +kernel
theorem dX1_loudnessWanted_37 : decode cX1_loudnessWanted 37 = .ok (.if_icmp .ge 57, 3) := by decide +kernel
theorem dX1_loudnessWanted_40 : decode cX1_loudnessWanted 40 = .ok (.aload_n 0, 1) := by decide +kernel
theorem dX1_loudnessWanted_41 : decode cX1_loudnessWanted 41 = .ok (.getfield 16, 3) := by decide +kernel
theorem dX1_loudnessWanted_44 : decode cX1_loudnessWanted 44 = .ok (.getfield 118, 3) := by decide +kernel
theorem dX1_loudnessWanted_47 : decode cX1_loudnessWanted 47 = .ok (.iconst 0, 1) := by decide +kernel
theorem dX1_loudnessWanted_48 : decode cX1_loudnessWanted 48 = .ok (.iaload, 1) := by decide +kernel
theorem dX1_loudnessWanted_49 : decode cX1_loudnessWanted 49 = .ok (.ifCond .le 45, 3) := by decide +kernel
theorem dX1_loudnessWanted_52 : decode cX1_loudnessWanted 52 = .ok (.aload_n 0, 1) := by decide +kernel
theorem dX1_loudnessWanted_53 : decode cX1_loudnessWanted 53 = .ok (.getfield 16, 3) := by decide +kernel
theorem dX1_loudnessWanted_56 : decode cX1_loudnessWanted 56 = .ok (.iconst 0, 1) := by decide +kernel
theorem dX1_loudnessWanted_57 : decode cX1_loudnessWanted 57 = .ok (.invokevirtual 144, 3) := by decide +kernel
theorem dX1_loudnessWanted_60 : decode cX1_loudnessWanted 60 = .ok (.aload_n 0, 1) := by decide +kernel
theorem dX1_loudnessWanted_61 : decode cX1_loudnessWanted 61 = .ok (.getfield 16, 3) := by decide +kernel
theorem dX1_loudnessWanted_64 : decode cX1_loudnessWanted 64 = .ok (.getfield 121, 3) := by decide +kernel
theorem dX1_loudnessWanted_67 : decode cX1_loudnessWanted 67 = .ok (.iconst 0, 1) := by decide +kernel
theorem dX1_loudnessWanted_68 : decode cX1_loudnessWanted 68 = .ok (.iaload, 1) := by decide +kernel
theorem dX1_loudnessWanted_69 : decode cX1_loudnessWanted 69 = .ok (.iload_n 3, 1) := by decide +kernel
theorem dX1_loudnessWanted_70 : decode cX1_loudnessWanted 70 = .ok (.if_icmp .ne 18, 3) := by decide +kernel
theorem dX1_loudnessWanted_73 : decode cX1_loudnessWanted 73 = .ok (.bipush 99, 2) := by decide +kernel
theorem dX1_loudnessWanted_75 : decode cX1_loudnessWanted 75 = .ok (.aload_n 0, 1) := by decide +kernel
theorem dX1_loudnessWanted_76 : decode cX1_loudnessWanted 76 = .ok (.getfield 16, 3) := by decide +kernel
theorem dX1_loudnessWanted_79 : decode cX1_loudnessWanted 79 = .ok (.getfield 118, 3) := by decide +kernel
theorem dX1_loudnessWanted_82 : decode cX1_loudnessWanted 82 = .ok (.iconst 0, 1) := by decide +kernel
theorem dX1_loudnessWanted_83 : decode cX1_loudnessWanted 83 = .ok (.iaload, 1) := by decide +kernel
theorem dX1_loudnessWanted_84 : decode cX1_loudnessWanted 84 = .ok (.isub, 1) := by decide +kernel
theorem dX1_loudnessWanted_85 : decode cX1_loudnessWanted 85 = .ok (.iconst 1, 1) := by decide +kernel
theorem dX1_loudnessWanted_86 : decode cX1_loudnessWanted 86 = .ok (.iadd, 1) := by decide +kernel
theorem dX1_loudnessWanted_87 : decode cX1_loudnessWanted 87 = .ok (.ireturn, 1) := by decide +kernel
theorem dX1_loudnessWanted_88 : decode cX1_loudnessWanted 88 = .ok (.iinc 4 1, 3) := by decide +kernel
theorem dX1_loudnessWanted_91 : decode cX1_loudnessWanted 91 = .ok (.goto (-58), 3) := by decide +kernel
theorem dX1_loudnessWanted_94 : decode cX1_loudnessWanted 94 = .ok (.iconst (-1), 1) := by decide +kernel
theorem dX1_loudnessWanted_95 : decode cX1_loudnessWanted 95 = .ok (.ireturn, 1) := by decide +kernel
theorem dX1_bestStone_0 : decode cX1_bestStone 0 = .ok (.iload_n 1, 1) := by decide +kernel
theorem dX1_bestStone_1 : decode cX1_bestStone 1 = .ok (.invokestatic 65, 3) := by decide +kernel
theorem dX1_bestStone_4 : decode cX1_bestStone 4 = .ok (.aload_n 0, 1) := by decide +kernel
theorem dX1_bestStone_5 : decode cX1_bestStone 5 = .ok (.getfield 16, 3) := by decide +kernel
theorem dX1_bestStone_8 : decode cX1_bestStone 8 = .ok (.aload_n 0, 1) := by decide +kernel
theorem dX1_bestStone_9 : decode cX1_bestStone 9 = .ok (.getfield 10, 3) := by decide +kernel
theorem dX1_bestStone_12 : decode cX1_bestStone 12 = .ok (.invokevirtual 130, 3) := by decide +kernel
theorem dX1_bestStone_15 : decode cX1_bestStone 15 = .ok (.iconst 0, 1) := by decide +kernel
theorem dX1_bestStone_16 : decode cX1_bestStone 16 = .ok (.istore_n 2, 1) := by decide +kernel
theorem dX1_bestStone_17 : decode cX1_bestStone 17 = .ok (.iconst 0, 1) := by decide +kernel
theorem dX1_bestStone_18 : decode cX1_bestStone 18 = .ok (.istore_n 3, 1) := by decide +kernel
theorem dX1_bestStone_19 : decode cX1_bestStone 19 = .ok (.iconst 0, 1) := by decide +kernel
theorem dX1_bestStone_20 : decode cX1_bestStone 20 = .ok (.istore 4, 2) := by decide +kernel
theorem dX1_bestStone_22 : decode cX1_bestStone 22 = .ok (.iload 4, 2) := by decide +kernel
theorem dX1_bestStone_24 : decode cX1_bestStone 24 = .ok (.bipush 32, 2) := by decide +kernel
theorem dX1_bestStone_26 : decode cX1_bestStone 26 = .ok (.if_icmp .ge 30, 3) := by decide +kernel
theorem dX1_bestStone_29 : decode cX1_bestStone 29 = .ok (.aload_n 0, 1) := by decide +kernel
theorem dX1_bestStone_30 : decode cX1_bestStone 30 = .ok (.iload 4, 2) := by decide +kernel
theorem dX1_bestStone_32 : decode cX1_bestStone 32 = .ok (.iload_n 1, 1) := by decide +kernel
theorem dX1_bestStone_33 : decode cX1_bestStone 33 = .ok (.invokevirtual 147, 3) := by decide +kernel
theorem dX1_bestStone_36 : decode cX1_bestStone 36 = .ok (.istore 5, 2) := by decide +kernel
theorem dX1_bestStone_38 : decode cX1_bestStone 38 = .ok (.iload 5, 2) := by decide +kernel
theorem dX1_bestStone_40 : decode cX1_bestStone 40 = .ok (.iload_n 3, 1) := by decide +kernel
theorem dX1_bestStone_41 : decode cX1_bestStone 41 = .ok (.if_icmp .le 9, 3) := by decide +kernel
theorem dX1_bestStone_44 : decode cX1_bestStone 44 = .ok (.iload 5, 2) := by decide +kernel
theorem dX1_bestStone_46 : decode cX1_bestStone 46 = .ok (.istore_n 3, 1) := by decide +kernel
theorem dX1_bestStone_47 : decode cX1_bestStone 47 = .ok (.iload 4, 2) := by decide +kernel
theorem dX1_bestStone_49 : decode cX1_bestStone 49 = .ok (.istore_n 2, 1) := by decide +kernel
theorem dX1_bestStone_50 : decode cX1_bestStone 50 = .ok (.iinc 4 1, 3) := by decide +kernel
theorem dX1_bestStone_53 : decode cX1_bestStone 53 = .ok (.goto (-31), 3) := by decide +kernel
theorem dX1_bestStone_56 : decode cX1_bestStone 56 = .ok (.iload_n 2, 1) := by decide +kernel
theorem dX1_bestStone_57 : decode cX1_bestStone 57 = .ok (.ireturn, 1) := by decide +kernel
theorem dX1_meanLoudness_0 : decode cX1_meanLoudness 0 = .ok (.iconst 0, 1) := by decide +kernel
theorem dX1_meanLoudness_1 : decode cX1_meanLoudness 1 = .ok (.istore_n 1, 1) := by decide +kernel
theorem dX1_meanLoudness_2 : decode cX1_meanLoudness 2 = .ok (.iconst 0, 1) := by decide +kernel
theorem dX1_meanLoudness_3 : decode cX1_meanLoudness 3 = .ok (.istore_n 2, 1) := by decide +kernel
theorem dX1_meanLoudness_4 : decode cX1_meanLoudness 4 = .ok (.iload_n 2, 1) := by decide +kernel
theorem dX1_meanLoudness_5 : decode cX1_meanLoudness 5 = .ok (.aload_n 0, 1) := by decide +kernel
theorem dX1_meanLoudness_6 : decode cX1_meanLoudness 6 = .ok (.getfield 10, 3) := by decide +kernel
theorem dX1_meanLoudness_9 : decode cX1_meanLoudness 9 = .ok (.getfield 68, 3) := by decide +kernel
theorem dX1_meanLoudness_12 : decode cX1_meanLoudness 12 = .ok (.if_icmp .ge 21, 3) := by decide +kernel
theorem dX1_meanLoudness_15 : decode cX1_meanLoudness 15 = .ok (.iload_n 1, 1) := by decide +kernel
theorem dX1_meanLoudness_16 : decode cX1_meanLoudness 16 = .ok (.aload_n 0, 1) := by decide +kernel
theorem dX1_meanLoudness_17 : decode cX1_meanLoudness 17 = .ok (.getfield 10, 3) := by decide +kernel
theorem dX1_meanLoudness_20 : decode cX1_meanLoudness 20 = .ok (.getfield 118, 3) := by decide +kernel
theorem dX1_meanLoudness_23 : decode cX1_meanLoudness 23 = .ok (.iload_n 2, 1) := by decide +kernel
theorem dX1_meanLoudness_24 : decode cX1_meanLoudness 24 = .ok (.iaload, 1) := by decide +kernel
theorem dX1_meanLoudness_25 : decode cX1_meanLoudness 25 = .ok (.iadd, 1) := by decide +kernel
theorem dX1_meanLoudness_26 : decode cX1_meanLoudness 26 = .ok (.istore_n 1, 1) := by decide +kernel
theorem dX1_meanLoudness_27 : decode cX1_meanLoudness 27 = .ok (.iinc 2 1, 3) := by decide +kernel
theorem dX1_meanLoudness_30 : decode cX1_meanLoudness 30 = .ok (.goto (-26), 3) := by decide +kernel
theorem dX1_meanLoudness_33 : decode cX1_meanLoudness 33 = .ok (.aload_n 0, 1) := by decide +kernel
theorem dX1_meanLoudness_34 : decode cX1_meanLoudness 34 = .ok (.getfield 10, 3) := by decide +kernel
theorem dX1_meanLoudness_37 : decode cX1_meanLoudness 37 = .ok (.getfield 71, 3) := by decide +kernel
theorem dX1_meanLoudness_40 : decode cX1_meanLoudness 40 = .ok (.ifCond .ne 7, 3) := by decide +kernel
theorem dX1_meanLoudness_43 : decode cX1_meanLoudness 43 = .ok (.dconst 0, 1) := by decide +kernel
theorem dX1_meanLoudness_44 : decode cX1_meanLoudness 44 = .ok (.goto 14, 3) := by decide +kernel
theorem dX1_meanLoudness_47 : decode cX1_meanLoudness 47 = .ok (.iload_n 1, 1) := by decide +kernel
theorem dX1_meanLoudness_48 : decode cX1_meanLoudness 48 = .ok (.i2d, 1) := by decide +kernel
theorem dX1_meanLoudness_49 : decode cX1_meanLoudness 49 = .ok (.aload_n 0, 1) := by decide +kernel
theorem dX1_meanLoudness_50 : decode cX1_meanLoudness 50 = .ok (.getfield 10, 3) := by decide +kernel
theorem dX1_meanLoudness_53 : decode cX1_meanLoudness 53 = .ok (.getfield 71, 3) := by decide +kernel
theorem dX1_meanLoudness_56 : decode cX1_meanLoudness 56 = .ok (.i2d, 1) := by decide +kernel
theorem dX1_meanLoudness_57 : decode cX1_meanLoudness 57 = .ok (.ddiv, 1) := by decide +kernel
theorem dX1_meanLoudness_58 : decode cX1_meanLoudness 58 = .ok (.dreturn, 1) := by decide +kernel
theorem dX1_digest_0 : decode cX1_digest 0 = .ok (.aload_n 0, 1) := by decide +kernel
theorem dX1_digest_1 : decode cX1_digest 1 = .ok (.ldc2_w 150, 3) := by decide +kernel
theorem dX1_digest_4 : decode cX1_digest 4 = .ok (.invokevirtual 152, 3) := by decide +kernel
theorem dX1_digest_7 : decode cX1_digest 7 = .ok (.lstore_n 1, 1) := by decide +kernel
theorem dX1_digest_8 : decode cX1_digest 8 = .ok (.aload_n 0, 1) := by decide +kernel
theorem dX1_digest_9 : decode cX1_digest 9 = .ok (.lload_n 1, 1) := by decide +kernel
theorem dX1_digest_10 : decode cX1_digest 10 = .ok (.invokevirtual 156, 3) := by decide +kernel
theorem dX1_digest_13 : decode cX1_digest 13 = .ok (.lstore_n 1, 1) := by decide +kernel
theorem dX1_digest_14 : decode cX1_digest 14 = .ok (.aload_n 0, 1) := by decide +kernel
theorem dX1_digest_15 : decode cX1_digest 15 = .ok (.lload_n 1, 1) := by decide +kernel
theorem dX1_digest_16 : decode cX1_digest 16 = .ok (.invokevirtual 159, 3) := by decide +kernel
theorem dX1_digest_19 : decode cX1_digest 19 = .ok (.lstore_n 1, 1) := by decide +kernel
theorem dX1_digest_20 : decode cX1_digest 20 = .ok (.aload_n 0, 1) := by decide +kernel
theorem dX1_digest_21 : decode cX1_digest 21 = .ok (.lload_n 1, 1) := by decide +kernel
theorem dX1_digest_22 : decode cX1_digest 22 = .ok (.invokevirtual 162, 3) := by decide +kernel
theorem dX1_digest_25 : decode cX1_digest 25 = .ok (.lstore_n 1, 1) := by decide +kernel
theorem dX1_digest_26 : decode cX1_digest 26 = .ok (.aload_n 0, 1) := by decide +kernel
theorem dX1_digest_27 : decode cX1_digest 27 = .ok (.lload_n 1, 1) := by decide +kernel
theorem dX1_digest_28 : decode cX1_digest 28 = .ok (.invokevirtual 165, 3) := by decide +kernel
theorem dX1_digest_31 : decode cX1_digest 31 = .ok (.lreturn, 1) := by decide +kernel
theorem dX1_digestCounts_0 : decode cX1_digestCounts 0 = .ok (.lload_n 1, 1) := by decide +kernel
theorem dX1_digestCounts_1 : decode cX1_digestCounts 1 = .ok (.aload_n 0, 1) := by decide +kernel
theorem dX1_digestCounts_2 : decode cX1_digestCounts 2 = .ok (.invokevirtual 168, 3) := by decide +kernel
theorem dX1_digestCounts_5 : decode cX1_digestCounts 5 = .ok (.invokestatic 172, 3) := by decide +kernel
theorem dX1_digestCounts_8 : decode cX1_digestCounts 8 = .ok (.lstore_n 3, 1) := by decide +kernel
theorem dX1_digestCounts_9 : decode cX1_digestCounts 9 = .ok (.lload_n 3, 1) := by decide +kernel
theorem dX1_digestCounts_10 : decode cX1_digestCounts 10 = .ok (.aload_n 0, 1) := by decide +kernel
theorem dX1_digestCounts_11 : decode cX1_digestCounts 11 = .ok (.invokevirtual 176, 3) := by decide +kernel
theorem dX1_digestCounts_14 : decode cX1_digestCounts 14 = .ok (.invokestatic 172, 3) := by decide +kernel
theorem dX1_digestCounts_17 : decode cX1_digestCounts 17 = .ok (.lstore_n 3, 1) := by decide +kernel
theorem dX1_digestCounts_18 : decode cX1_digestCounts 18 = .ok (.lload_n 3, 1) := by decide +kernel
theorem dX1_digestCounts_19 : decode cX1_digestCounts 19 = .ok (.aload_n 0, 1) := by decide +kernel
theorem dX1_digestCounts_20 : decode cX1_digestCounts 20 = .ok (.invokevirtual 179, 3) := by decide +kernel
theorem dX1_digestCounts_23 : decode cX1_digestCounts 23 = .ok (.invokestatic 172, 3) := by decide +kernel
theorem dX1_digestCounts_26 : decode cX1_digestCounts 26 = .ok (.lstore_n 3, 1) := by decide +kernel
theorem dX1_digestCounts_27 : decode cX1_digestCounts 27 = .ok (.lload_n 3, 1) := by decide +kernel
theorem dX1_digestCounts_28 : decode cX1_digestCounts 28 = .ok (.aload_n 0, 1) := by decide +kernel
theorem dX1_digestCounts_29 : decode cX1_digestCounts 29 = .ok (.invokevirtual 182, 3) := by decide +kernel
theorem dX1_digestCounts_32 : decode cX1_digestCounts 32 = .ok (.invokestatic 172, 3) := by decide +kernel
theorem dX1_digestCounts_35 : decode cX1_digestCounts 35 = .ok (.lstore_n 3, 1) := by decide +kernel
theorem dX1_digestCounts_36 : decode cX1_digestCounts 36 = .ok (.lload_n 3, 1) := by decide +kernel
theorem dX1_digestCounts_37 : decode cX1_digestCounts 37 = .ok (.aload_n 0, 1) := by decide +kernel
theorem dX1_digestCounts_38 : decode cX1_digestCounts 38 = .ok (.invokevirtual 185, 3) := by decide +kernel
theorem dX1_digestCounts_41 : decode cX1_digestCounts 41 = .ok (.invokestatic 172, 3) := by decide +kernel
theorem dX1_digestCounts_44 : decode cX1_digestCounts 44 = .ok (.lstore_n 3, 1) := by decide +kernel
theorem dX1_digestCounts_45 : decode cX1_digestCounts 45 = .ok (.lload_n 3, 1) := by decide +kernel
theorem dX1_digestCounts_46 : decode cX1_digestCounts 46 = .ok (.aload_n 0, 1) := by decide +kernel
theorem dX1_digestCounts_47 : decode cX1_digestCounts 47 = .ok (.invokevirtual 188, 3) := by decide +kernel
theorem dX1_digestCounts_50 : decode cX1_digestCounts 50 = .ok (.invokestatic 172, 3) := by decide +kernel
theorem dX1_digestCounts_53 : decode cX1_digestCounts 53 = .ok (.lstore_n 3, 1) := by decide +kernel
theorem dX1_digestCounts_54 : decode cX1_digestCounts 54 = .ok (.lload_n 3, 1) := by decide +kernel
theorem dX1_digestCounts_55 : decode cX1_digestCounts 55 = .ok (.aload_n 0, 1) := by decide +kernel
theorem dX1_digestCounts_56 : decode cX1_digestCounts 56 = .ok (.invokevirtual 191, 3) := by decide +kernel
theorem dX1_digestCounts_59 : decode cX1_digestCounts 59 = .ok (.invokestatic 172, 3) := by decide +kernel
theorem dX1_digestCounts_62 : decode cX1_digestCounts 62 = .ok (.lstore_n 3, 1) := by decide +kernel
theorem dX1_digestCounts_63 : decode cX1_digestCounts 63 = .ok (.lload_n 3, 1) := by decide +kernel
theorem dX1_digestCounts_64 : decode cX1_digestCounts 64 = .ok (.aload_n 0, 1) := by decide +kernel
theorem dX1_digestCounts_65 : decode cX1_digestCounts 65 = .ok (.bipush 30, 2) := by decide +kernel
theorem dX1_digestCounts_67 : decode cX1_digestCounts 67 = .ok (.invokevirtual 194, 3) := by decide +kernel
theorem dX1_digestCounts_70 : decode cX1_digestCounts 70 = .ok (.invokestatic 172, 3) := by decide +kernel
theorem dX1_digestCounts_73 : decode cX1_digestCounts 73 = .ok (.lreturn, 1) := by decide +kernel
theorem dX1_digestEchoes_0 : decode cX1_digestEchoes 0 = .ok (.lload_n 1, 1) := by decide +kernel
theorem dX1_digestEchoes_1 : decode cX1_digestEchoes 1 = .ok (.lstore_n 3, 1) := by decide +kernel
theorem dX1_digestEchoes_2 : decode cX1_digestEchoes 2 = .ok (.iconst 0, 1) := by decide +kernel
theorem dX1_digestEchoes_3 : decode cX1_digestEchoes 3 = .ok (.istore 5, 2) := by decide +kernel
theorem dX1_digestEchoes_5 : decode cX1_digestEchoes 5 = .ok (.iload 5, 2) := by decide +kernel
theorem dX1_digestEchoes_7 : decode cX1_digestEchoes 7 = .ok (.iconst 2, 1) := by decide +kernel
theorem dX1_digestEchoes_8 : decode cX1_digestEchoes 8 = .ok (.if_icmp .ge 55, 3) := by decide +kernel
theorem dX1_digestEchoes_11 : decode cX1_digestEchoes 11 = .ok (.lload_n 3, 1) := by decide +kernel
theorem dX1_digestEchoes_12 : decode cX1_digestEchoes 12 = .ok (.aload_n 0, 1) := by decide +kernel
theorem dX1_digestEchoes_13 : decode cX1_digestEchoes 13 = .ok (.iload 5, 2) := by decide +kernel
theorem dX1_digestEchoes_15 : decode cX1_digestEchoes 15 = .ok (.invokevirtual 197, 3) := by decide +kernel
theorem dX1_digestEchoes_18 : decode cX1_digestEchoes 18 = .ok (.invokestatic 172, 3) := by decide +kernel
theorem dX1_digestEchoes_21 : decode cX1_digestEchoes 21 = .ok (.lstore_n 3, 1) := by decide +kernel
theorem dX1_digestEchoes_22 : decode cX1_digestEchoes 22 = .ok (.lload_n 3, 1) := by decide +kernel
theorem dX1_digestEchoes_23 : decode cX1_digestEchoes 23 = .ok (.aload_n 0, 1) := by decide +kernel
theorem dX1_digestEchoes_24 : decode cX1_digestEchoes 24 = .ok (.iload 5, 2) := by decide +kernel
theorem dX1_digestEchoes_26 : decode cX1_digestEchoes 26 = .ok (.invokevirtual 200, 3) := by decide +kernel
theorem dX1_digestEchoes_29 : decode cX1_digestEchoes 29 = .ok (.invokestatic 172, 3) := by decide +kernel
theorem dX1_digestEchoes_32 : decode cX1_digestEchoes 32 = .ok (.lstore_n 3, 1) := by decide +kernel
theorem dX1_digestEchoes_33 : decode cX1_digestEchoes 33 = .ok (.lload_n 3, 1) := by decide +kernel
theorem dX1_digestEchoes_34 : decode cX1_digestEchoes 34 = .ok (.aload_n 0, 1) := by decide +kernel
theorem dX1_digestEchoes_35 : decode cX1_digestEchoes 35 = .ok (.iload 5, 2) := by decide +kernel
theorem dX1_digestEchoes_37 : decode cX1_digestEchoes 37 = .ok (.invokevirtual 203, 3) := by decide +kernel
theorem dX1_digestEchoes_40 : decode cX1_digestEchoes 40 = .ok (.invokestatic 172, 3) := by decide +kernel
theorem dX1_digestEchoes_43 : decode cX1_digestEchoes 43 = .ok (.lstore_n 3, 1) := by decide +kernel
theorem dX1_digestEchoes_44 : decode cX1_digestEchoes 44 = .ok (.lload_n 3, 1) := by decide +kernel
theorem dX1_digestEchoes_45 : decode cX1_digestEchoes 45 = .ok (.aload_n 0, 1) := by decide +kernel
theorem dX1_digestEchoes_46 : decode cX1_digestEchoes 46 = .ok (.iload 5, 2) := by decide +kernel
theorem dX1_digestEchoes_48 : decode cX1_digestEchoes 48 = .ok (.bipush 20, 2) := by decide +kernel
theorem dX1_digestEchoes_50 : decode cX1_digestEchoes 50 = .ok (.invokevirtual 206, 3) := by decide +kernel
theorem dX1_digestEchoes_53 : decode cX1_digestEchoes 53 = .ok (.invokestatic 172, 3) := by decide +kernel
theorem dX1_digestEchoes_56 : decode cX1_digestEchoes 56 = .ok (.lstore_n 3, 1) := by decide +kernel
theorem dX1_digestEchoes_57 : decode cX1_digestEchoes 57 = .ok (.iinc 5 1, 3) := by decide +kernel
theorem dX1_digestEchoes_60 : decode cX1_digestEchoes 60 = .ok (.goto (-55), 3) := by decide +kernel
theorem dX1_digestEchoes_63 : decode cX1_digestEchoes 63 = .ok (.lload_n 3, 1) := by decide +kernel
theorem dX1_digestEchoes_64 : decode cX1_digestEchoes 64 = .ok (.lreturn, 1) := by decide +kernel
theorem dX1_digestWalls_0 : decode cX1_digestWalls 0 = .ok (.lload_n 1, 1) := by decide +kernel
theorem dX1_digestWalls_1 : decode cX1_digestWalls 1 = .ok (.lstore_n 3, 1) := by decide +kernel
theorem dX1_digestWalls_2 : decode cX1_digestWalls 2 = .ok (.iconst 0, 1) := by decide +kernel
theorem dX1_digestWalls_3 : decode cX1_digestWalls 3 = .ok (.istore 5, 2) := by decide +kernel
theorem dX1_digestWalls_5 : decode cX1_digestWalls 5 = .ok (.iload 5, 2) := by decide +kernel
theorem dX1_digestWalls_7 : decode cX1_digestWalls 7 = .ok (.aload_n 0, 1) := by decide +kernel
theorem dX1_digestWalls_8 : decode cX1_digestWalls 8 = .ok (.getfield 10, 3) := by decide +kernel
theorem dX1_digestWalls_11 : decode cX1_digestWalls 11 = .ok (.getfield 33, 3) := by decide +kernel
theorem dX1_digestWalls_14 : decode cX1_digestWalls 14 = .ok (.if_icmp .ge 42, 3) := by decide +kernel
theorem dX1_digestWalls_17 : decode cX1_digestWalls 17 = .ok (.lload_n 3, 1) := by decide +kernel
theorem dX1_digestWalls_18 : decode cX1_digestWalls 18 = .ok (.aload_n 0, 1) := by decide +kernel
theorem dX1_digestWalls_19 : decode cX1_digestWalls 19 = .ok (.iload 5, 2) := by decide +kernel
theorem dX1_digestWalls_21 : decode cX1_digestWalls 21 = .ok (.invokevirtual 209, 3) := by decide +kernel
theorem dX1_digestWalls_24 : decode cX1_digestWalls 24 = .ok (.invokestatic 172, 3) := by decide +kernel
theorem dX1_digestWalls_27 : decode cX1_digestWalls 27 = .ok (.lstore_n 3, 1) := by decide +kernel
theorem dX1_digestWalls_28 : decode cX1_digestWalls 28 = .ok (.lload_n 3, 1) := by decide +kernel
theorem dX1_digestWalls_29 : decode cX1_digestWalls 29 = .ok (.aload_n 0, 1) := by decide +kernel
theorem dX1_digestWalls_30 : decode cX1_digestWalls 30 = .ok (.iload 5, 2) := by decide +kernel
theorem dX1_digestWalls_32 : decode cX1_digestWalls 32 = .ok (.invokevirtual 212, 3) := by decide +kernel
theorem dX1_digestWalls_35 : decode cX1_digestWalls 35 = .ok (.invokestatic 172, 3) := by decide +kernel
theorem dX1_digestWalls_38 : decode cX1_digestWalls 38 = .ok (.lstore_n 3, 1) := by decide +kernel
theorem dX1_digestWalls_39 : decode cX1_digestWalls 39 = .ok (.lload_n 3, 1) := by decide +kernel
theorem dX1_digestWalls_40 : decode cX1_digestWalls 40 = .ok (.aload_n 0, 1) := by decide +kernel
theorem dX1_digestWalls_41 : decode cX1_digestWalls 41 = .ok (.iload 5, 2) := by decide +kernel
theorem dX1_digestWalls_43 : decode cX1_digestWalls 43 = .ok (.invokevirtual 215, 3) := by decide +kernel
theorem dX1_digestWalls_46 : decode cX1_digestWalls 46 = .ok (.invokestatic 172, 3) := by decide +kernel
theorem dX1_digestWalls_49 : decode cX1_digestWalls 49 = .ok (.lstore_n 3, 1) := by decide +kernel
theorem dX1_digestWalls_50 : decode cX1_digestWalls 50 = .ok (.iinc 5 1, 3) := by decide +kernel
theorem dX1_digestWalls_53 : decode cX1_digestWalls 53 = .ok (.goto (-48), 3) := by decide +kernel
theorem dX1_digestWalls_56 : decode cX1_digestWalls 56 = .ok (.lload_n 3, 1) := by decide +kernel
theorem dX1_digestWalls_57 : decode cX1_digestWalls 57 = .ok (.lreturn, 1) := by decide +kernel
theorem dX1_digestShouts_0 : decode cX1_digestShouts 0 = .ok (.lload_n 1, 1) := by decide +kernel
theorem dX1_digestShouts_1 : decode cX1_digestShouts 1 = .ok (.lstore_n 3, 1) := by decide +kernel
theorem dX1_digestShouts_2 : decode cX1_digestShouts 2 = .ok (.iconst 0, 1) := by decide +kernel
theorem dX1_digestShouts_3 : decode cX1_digestShouts 3 = .ok (.istore 5, 2) := by decide +kernel
theorem dX1_digestShouts_5 : decode cX1_digestShouts 5 = .ok (.iload 5, 2) := by decide +kernel
theorem dX1_digestShouts_7 : decode cX1_digestShouts 7 = .ok (.aload_n 0, 1) := by decide +kernel
theorem dX1_digestShouts_8 : decode cX1_digestShouts 8 = .ok (.getfield 10, 3) := by decide +kernel
theorem dX1_digestShouts_11 : decode cX1_digestShouts 11 = .ok (.getfield 68, 3) := by decide +kernel
theorem dX1_digestShouts_14 : decode cX1_digestShouts 14 = .ok (.if_icmp .ge 61, 3) := by decide +kernel
theorem dX1_digestShouts_17 : decode cX1_digestShouts 17 = .ok (.lload_n 3, 1) := by decide +kernel
theorem dX1_digestShouts_18 : decode cX1_digestShouts 18 = .ok (.aload_n 0, 1) := by decide +kernel
theorem dX1_digestShouts_19 : decode cX1_digestShouts 19 = .ok (.iload 5, 2) := by decide +kernel
theorem dX1_digestShouts_21 : decode cX1_digestShouts 21 = .ok (.invokevirtual 218, 3) := by decide +kernel
theorem dX1_digestShouts_24 : decode cX1_digestShouts 24 = .ok (.invokestatic 172, 3) := by decide +kernel
theorem dX1_digestShouts_27 : decode cX1_digestShouts 27 = .ok (.lstore_n 3, 1) := by decide +kernel
theorem dX1_digestShouts_28 : decode cX1_digestShouts 28 = .ok (.lload_n 3, 1) := by decide +kernel
theorem dX1_digestShouts_29 : decode cX1_digestShouts 29 = .ok (.aload_n 0, 1) := by decide +kernel
theorem dX1_digestShouts_30 : decode cX1_digestShouts 30 = .ok (.iload 5, 2) := by decide +kernel
theorem dX1_digestShouts_32 : decode cX1_digestShouts 32 = .ok (.invokevirtual 221, 3) := by decide +kernel
theorem dX1_digestShouts_35 : decode cX1_digestShouts 35 = .ok (.invokestatic 172, 3) := by decide +kernel
theorem dX1_digestShouts_38 : decode cX1_digestShouts 38 = .ok (.lstore_n 3, 1) := by decide +kernel
theorem dX1_digestShouts_39 : decode cX1_digestShouts 39 = .ok (.lload_n 3, 1) := by decide +kernel
theorem dX1_digestShouts_40 : decode cX1_digestShouts 40 = .ok (.aload_n 0, 1) := by decide +kernel
theorem dX1_digestShouts_41 : decode cX1_digestShouts 41 = .ok (.iload 5, 2) := by decide +kernel
theorem dX1_digestShouts_43 : decode cX1_digestShouts 43 = .ok (.invokevirtual 224, 3) := by decide +kernel
theorem dX1_digestShouts_46 : decode cX1_digestShouts 46 = .ok (.ifCond .eq 7, 3) := by decide +kernel
theorem dX1_digestShouts_49 : decode cX1_digestShouts 49 = .ok (.iconst 1, 1) := by decide +kernel
theorem dX1_digestShouts_50 : decode cX1_digestShouts 50 = .ok (.goto 4, 3) := by decide +kernel
theorem dX1_digestShouts_53 : decode cX1_digestShouts 53 = .ok (.iconst 0, 1) := by decide +kernel
theorem dX1_digestShouts_54 : decode cX1_digestShouts 54 = .ok (.invokestatic 172, 3) := by decide +kernel
theorem dX1_digestShouts_57 : decode cX1_digestShouts 57 = .ok (.lstore_n 3, 1) := by decide +kernel
theorem dX1_digestShouts_58 : decode cX1_digestShouts 58 = .ok (.lload_n 3, 1) := by decide +kernel
theorem dX1_digestShouts_59 : decode cX1_digestShouts 59 = .ok (.aload_n 0, 1) := by decide +kernel
theorem dX1_digestShouts_60 : decode cX1_digestShouts 60 = .ok (.iload 5, 2) := by decide +kernel
theorem dX1_digestShouts_62 : decode cX1_digestShouts 62 = .ok (.invokevirtual 228, 3) := by decide +kernel
theorem dX1_digestShouts_65 : decode cX1_digestShouts 65 = .ok (.invokestatic 172, 3) := by decide +kernel
theorem dX1_digestShouts_68 : decode cX1_digestShouts 68 = .ok (.lstore_n 3, 1) := by decide +kernel
theorem dX1_digestShouts_69 : decode cX1_digestShouts 69 = .ok (.iinc 5 1, 3) := by decide +kernel
theorem dX1_digestShouts_72 : decode cX1_digestShouts 72 = .ok (.goto (-67), 3) := by decide +kernel
theorem dX1_digestShouts_75 : decode cX1_digestShouts 75 = .ok (.lload_n 3, 1) := by decide +kernel
theorem dX1_digestShouts_76 : decode cX1_digestShouts 76 = .ok (.lreturn, 1) := by decide +kernel
theorem dX1_digestStones_0 : decode cX1_digestStones 0 = .ok (.lload_n 1, 1) := by decide +kernel
theorem dX1_digestStones_1 : decode cX1_digestStones 1 = .ok (.lstore_n 3, 1) := by decide +kernel
theorem dX1_digestStones_2 : decode cX1_digestStones 2 = .ok (.iconst 0, 1) := by decide +kernel
theorem dX1_digestStones_3 : decode cX1_digestStones 3 = .ok (.istore 5, 2) := by decide +kernel
theorem dX1_digestStones_5 : decode cX1_digestStones 5 = .ok (.iload 5, 2) := by decide +kernel
theorem dX1_digestStones_7 : decode cX1_digestStones 7 = .ok (.bipush 32, 2) := by decide +kernel
theorem dX1_digestStones_9 : decode cX1_digestStones 9 = .ok (.if_icmp .ge 43, 3) := by decide +kernel
theorem dX1_digestStones_12 : decode cX1_digestStones 12 = .ok (.lload_n 3, 1) := by decide +kernel
theorem dX1_digestStones_13 : decode cX1_digestStones 13 = .ok (.aload_n 0, 1) := by decide +kernel
theorem dX1_digestStones_14 : decode cX1_digestStones 14 = .ok (.iload 5, 2) := by decide +kernel
theorem dX1_digestStones_16 : decode cX1_digestStones 16 = .ok (.invokevirtual 231, 3) := by decide +kernel
theorem dX1_digestStones_19 : decode cX1_digestStones 19 = .ok (.invokestatic 172, 3) := by decide +kernel
theorem dX1_digestStones_22 : decode cX1_digestStones 22 = .ok (.lstore_n 3, 1) := by decide +kernel
theorem dX1_digestStones_23 : decode cX1_digestStones 23 = .ok (.lload_n 3, 1) := by decide +kernel
theorem dX1_digestStones_24 : decode cX1_digestStones 24 = .ok (.aload_n 0, 1) := by decide +kernel
theorem dX1_digestStones_25 : decode cX1_digestStones 25 = .ok (.iload 5, 2) := by decide +kernel
theorem dX1_digestStones_27 : decode cX1_digestStones 27 = .ok (.invokevirtual 234, 3) := by decide +kernel
theorem dX1_digestStones_30 : decode cX1_digestStones 30 = .ok (.invokestatic 172, 3) := by decide +kernel
theorem dX1_digestStones_33 : decode cX1_digestStones 33 = .ok (.lstore_n 3, 1) := by decide +kernel
theorem dX1_digestStones_34 : decode cX1_digestStones 34 = .ok (.lload_n 3, 1) := by decide +kernel
theorem dX1_digestStones_35 : decode cX1_digestStones 35 = .ok (.aload_n 0, 1) := by decide +kernel
theorem dX1_digestStones_36 : decode cX1_digestStones 36 = .ok (.iload 5, 2) := by decide +kernel
theorem dX1_digestStones_38 : decode cX1_digestStones 38 = .ok (.iconst 1, 1) := by decide +kernel
theorem dX1_digestStones_39 : decode cX1_digestStones 39 = .ok (.invokevirtual 237, 3) := by decide +kernel
theorem dX1_digestStones_42 : decode cX1_digestStones 42 = .ok (.invokestatic 172, 3) := by decide +kernel
theorem dX1_digestStones_45 : decode cX1_digestStones 45 = .ok (.lstore_n 3, 1) := by decide +kernel
theorem dX1_digestStones_46 : decode cX1_digestStones 46 = .ok (.iinc 5 1, 3) := by decide +kernel
theorem dX1_digestStones_49 : decode cX1_digestStones 49 = .ok (.goto (-44), 3) := by decide +kernel
theorem dX1_digestStones_52 : decode cX1_digestStones 52 = .ok (.lload_n 3, 1) := by decide +kernel
theorem dX1_digestStones_53 : decode cX1_digestStones 53 = .ok (.lreturn, 1) := by decide +kernel
theorem dX1_mix_0 : decode cX1_mix 0 = .ok (.lload_n 0, 1) := by decide +kernel
theorem dX1_mix_1 : decode cX1_mix 1 = .ok (.ldc2_w 241, 3) := by decide +kernel
theorem dX1_mix_4 : decode cX1_mix 4 = .ok (.lmul, 1) := by decide +kernel
theorem dX1_mix_5 : decode cX1_mix 5 = .ok (.iload_n 2, 1) := by decide +kernel
theorem dX1_mix_6 : decode cX1_mix 6 = .ok (.i2l, 1) := by decide +kernel
theorem dX1_mix_7 : decode cX1_mix 7 = .ok (.ladd, 1) := by decide +kernel
theorem dX1_mix_8 : decode cX1_mix 8 = .ok (.lreturn, 1) := by decide +kernel
theorem dX1_turnsAlone_0 : decode cX1_turnsAlone 0 = .ok (.aload_n 0, 1) := by decide +kernel
theorem dX1_turnsAlone_1 : decode cX1_turnsAlone 1 = .ok (.getfield 16, 3) := by decide +kernel
theorem dX1_turnsAlone_4 : decode cX1_turnsAlone 4 = .ok (.iload_n 1, 1) := by decide +kernel
theorem dX1_turnsAlone_5 : decode cX1_turnsAlone 5 = .ok (.iconst 1, 1) := by decide +kernel
theorem dX1_turnsAlone_6 : decode cX1_turnsAlone 6 = .ok (.iload_n 2, 1) := by decide +kernel
theorem dX1_turnsAlone_7 : decode cX1_turnsAlone 7 = .ok (.invokevirtual 140, 3) := by decide +kernel
theorem dX1_turnsAlone_10 : decode cX1_turnsAlone 10 = .ok (.iconst 0, 1) := by decide +kernel
theorem dX1_turnsAlone_11 : decode cX1_turnsAlone 11 = .ok (.istore_n 3, 1) := by decide +kernel
theorem dX1_turnsAlone_12 : decode cX1_turnsAlone 12 = .ok (.iload_n 3, 1) := by decide +kernel
theorem dX1_turnsAlone_13 : decode cX1_turnsAlone 13 = .ok (.bipush 99, 2) := by decide +kernel
theorem dX1_turnsAlone_15 : decode cX1_turnsAlone 15 = .ok (.if_icmp .ge 29, 3) := by decide +kernel
theorem dX1_turnsAlone_18 : decode cX1_turnsAlone 18 = .ok (.aload_n 0, 1) := by decide +kernel
theorem dX1_turnsAlone_19 : decode cX1_turnsAlone 19 = .ok (.getfield 16, 3) := by decide +kernel
theorem dX1_turnsAlone_22 : decode cX1_turnsAlone 22 = .ok (.getfield 118, 3) := by decide +kernel
theorem dX1_turnsAlone_25 : decode cX1_turnsAlone 25 = .ok (.iconst 0, 1) := by decide +kernel
theorem dX1_turnsAlone_26 : decode cX1_turnsAlone 26 = .ok (.iaload, 1) := by decide +kernel
theorem dX1_turnsAlone_27 : decode cX1_turnsAlone 27 = .ok (.ifCond .le 17, 3) := by decide +kernel
theorem dX1_turnsAlone_30 : decode cX1_turnsAlone 30 = .ok (.aload_n 0, 1) := by decide +kernel
theorem dX1_turnsAlone_31 : decode cX1_turnsAlone 31 = .ok (.getfield 16, 3) := by decide +kernel
theorem dX1_turnsAlone_34 : decode cX1_turnsAlone 34 = .ok (.iconst 0, 1) := by decide +kernel
theorem dX1_turnsAlone_35 : decode cX1_turnsAlone 35 = .ok (.invokevirtual 144, 3) := by decide +kernel
theorem dX1_turnsAlone_38 : decode cX1_turnsAlone 38 = .ok (.iinc 3 1, 3) := by decide +kernel
theorem dX1_turnsAlone_41 : decode cX1_turnsAlone 41 = .ok (.goto (-29), 3) := by decide +kernel
theorem dX1_turnsAlone_44 : decode cX1_turnsAlone 44 = .ok (.aload_n 0, 1) := by decide +kernel
theorem dX1_turnsAlone_45 : decode cX1_turnsAlone 45 = .ok (.getfield 16, 3) := by decide +kernel
theorem dX1_turnsAlone_48 : decode cX1_turnsAlone 48 = .ok (.getfield 127, 3) := by decide +kernel
theorem dX1_turnsAlone_51 : decode cX1_turnsAlone 51 = .ok (.iconst 0, 1) := by decide +kernel
theorem dX1_turnsAlone_52 : decode cX1_turnsAlone 52 = .ok (.iaload, 1) := by decide +kernel
theorem dX1_turnsAlone_53 : decode cX1_turnsAlone 53 = .ok (.ireturn, 1) := by decide +kernel
theorem dX1_isStone_0 : decode cX1_isStone 0 = .ok (.iload_n 0, 1) := by decide +kernel
theorem dX1_isStone_1 : decode cX1_isStone 1 = .ok (.ifCond .lt 13, 3) := by decide +kernel
theorem dX1_isStone_4 : decode cX1_isStone 4 = .ok (.iload_n 0, 1) := by decide +kernel
theorem dX1_isStone_5 : decode cX1_isStone 5 = .ok (.bipush 32, 2) := by decide +kernel
theorem dX1_isStone_7 : decode cX1_isStone 7 = .ok (.if_icmp .ge 7, 3) := by decide +kernel
theorem dX1_isStone_10 : decode cX1_isStone 10 = .ok (.iconst 1, 1) := by decide +kernel
theorem dX1_isStone_11 : decode cX1_isStone 11 = .ok (.goto 4, 3) := by decide +kernel
theorem dX1_isStone_14 : decode cX1_isStone 14 = .ok (.iconst 0, 1) := by decide +kernel
theorem dX1_isStone_15 : decode cX1_isStone 15 = .ok (.ireturn, 1) := by decide +kernel
theorem dX1_otherEcho_0 : decode cX1_otherEcho 0 = .ok (.iload_n 0, 1) := by decide +kernel
theorem dX1_otherEcho_1 : decode cX1_otherEcho 1 = .ok (.ifCond .ne 7, 3) := by decide +kernel
theorem dX1_otherEcho_4 : decode cX1_otherEcho 4 = .ok (.iconst 1, 1) := by decide +kernel
theorem dX1_otherEcho_5 : decode cX1_otherEcho 5 = .ok (.goto 4, 3) := by decide +kernel
theorem dX1_otherEcho_8 : decode cX1_otherEcho 8 = .ok (.iconst 0, 1) := by decide +kernel
theorem dX1_otherEcho_9 : decode cX1_otherEcho 9 = .ok (.ireturn, 1) := by decide +kernel
theorem dX1_needStone_0 : decode cX1_needStone 0 = .ok (.iload_n 0, 1) := by decide +kernel
theorem dX1_needStone_1 : decode cX1_needStone 1 = .ok (.invokestatic 243, 3) := by decide +kernel
theorem dX1_needStone_4 : decode cX1_needStone 4 = .ok (.ifCond .ne 13, 3) := by decide +kernel
theorem dX1_needStone_7 : decode cX1_needStone 7 = .ok (.new 246, 3) := by decide +kernel
theorem dX1_needStone_10 : decode cX1_needStone 10 = .ok (.dup, 1) := by decide +kernel
theorem dX1_needStone_11 : decode cX1_needStone 11 = .ok (.ldc 248, 2) := by decide +kernel
theorem dX1_needStone_13 : decode cX1_needStone 13 = .ok (.invokespecial 250, 3) := by decide +kernel
theorem dX1_needStone_16 : decode cX1_needStone 16 = .ok (.athrow, 1) := by decide +kernel
theorem dX1_needStone_17 : decode cX1_needStone 17 = .ok (.return_, 1) := by decide +kernel
theorem dX1_needEcho_0 : decode cX1_needEcho 0 = .ok (.iload_n 0, 1) := by decide +kernel
theorem dX1_needEcho_1 : decode cX1_needEcho 1 = .ok (.ifCond .lt 8, 3) := by decide +kernel
theorem dX1_needEcho_4 : decode cX1_needEcho 4 = .ok (.iload_n 0, 1) := by decide +kernel
theorem dX1_needEcho_5 : decode cX1_needEcho 5 = .ok (.iconst 2, 1) := by decide +kernel
theorem dX1_needEcho_6 : decode cX1_needEcho 6 = .ok (.if_icmp .lt 13, 3) := by decide +kernel
theorem dX1_needEcho_9 : decode cX1_needEcho 9 = .ok (.new 246, 3) := by decide +kernel
theorem dX1_needEcho_12 : decode cX1_needEcho 12 = .ok (.dup, 1) := by decide +kernel
theorem dX1_needEcho_13 : decode cX1_needEcho 13 = .ok (.ldc 251, 2) := by decide +kernel
theorem dX1_needEcho_15 : decode cX1_needEcho 15 = .ok (.invokespecial 250, 3) := by decide +kernel
theorem dX1_needEcho_18 : decode cX1_needEcho 18 = .ok (.athrow, 1) := by decide +kernel
theorem dX1_needEcho_19 : decode cX1_needEcho 19 = .ok (.return_, 1) := by decide +kernel
theorem dX1_needWall_0 : decode cX1_needWall 0 = .ok (.iload_n 1, 1) := by decide +kernel
theorem dX1_needWall_1 : decode cX1_needWall 1 = .ok (.ifCond .lt 14, 3) := by decide +kernel
theorem dX1_needWall_4 : decode cX1_needWall 4 = .ok (.iload_n 1, 1) := by decide +kernel
theorem dX1_needWall_5 : decode cX1_needWall 5 = .ok (.aload_n 0, 1) := by decide +kernel
theorem dX1_needWall_6 : decode cX1_needWall 6 = .ok (.getfield 10, 3) := by decide +kernel
theorem dX1_needWall_9 : decode cX1_needWall 9 = .ok (.getfield 33, 3) := by decide +kernel
theorem dX1_needWall_12 : decode cX1_needWall 12 = .ok (.if_icmp .lt 13, 3) := by decide +kernel
theorem dX1_needWall_15 : decode cX1_needWall 15 = .ok (.new 246, 3) := by decide +kernel
theorem dX1_needWall_18 : decode cX1_needWall 18 = .ok (.dup, 1) := by decide +kernel
theorem dX1_needWall_19 : decode cX1_needWall 19 = .ok (.ldc 253, 2) := by decide +kernel
theorem dX1_needWall_21 : decode cX1_needWall 21 = .ok (.invokespecial 250, 3) := by decide +kernel
theorem dX1_needWall_24 : decode cX1_needWall 24 = .ok (.athrow, 1) := by decide +kernel
theorem dX1_needWall_25 : decode cX1_needWall 25 = .ok (.return_, 1) := by decide +kernel
theorem dX1_needShout_0 : decode cX1_needShout 0 = .ok (.iload_n 1, 1) := by decide +kernel
theorem dX1_needShout_1 : decode cX1_needShout 1 = .ok (.ifCond .lt 14, 3) := by decide +kernel
theorem dX1_needShout_4 : decode cX1_needShout 4 = .ok (.iload_n 1, 1) := by decide +kernel
theorem dX1_needShout_5 : decode cX1_needShout 5 = .ok (.aload_n 0, 1) := by decide +kernel
theorem dX1_needShout_6 : decode cX1_needShout 6 = .ok (.getfield 10, 3) := by decide +kernel
theorem dX1_needShout_9 : decode cX1_needShout 9 = .ok (.getfield 68, 3) := by decide +kernel
theorem dX1_needShout_12 : decode cX1_needShout 12 = .ok (.if_icmp .lt 13, 3) := by decide +kernel
theorem dX1_needShout_15 : decode cX1_needShout 15 = .ok (.new 246, 3) := by decide +kernel
theorem dX1_needShout_18 : decode cX1_needShout 18 = .ok (.dup, 1) := by decide +kernel
theorem dX1_needShout_19 : decode cX1_needShout 19 = .ok (.ldc 255, 2) := by decide +kernel
theorem dX1_needShout_21 : decode cX1_needShout 21 = .ok (.invokespecial 250, 3) := by decide +kernel
theorem dX1_needShout_24 : decode cX1_needShout 24 = .ok (.athrow, 1) := by decide +kernel
theorem dX1_needShout_25 : decode cX1_needShout 25 = .ok (.return_, 1) := by decide +kernel
theorem dX1_needLoud_0 : decode cX1_needLoud 0 = .ok (.iload_n 0, 1) := by decide +kernel
theorem dX1_needLoud_1 : decode cX1_needLoud 1 = .ok (.iconst 1, 1) := by decide +kernel
theorem dX1_needLoud_2 : decode cX1_needLoud 2 = .ok (.if_icmp .lt 9, 3) := by decide +kernel
theorem dX1_needLoud_5 : decode cX1_needLoud 5 = .ok (.iload_n 0, 1) := by decide +kernel
theorem dX1_needLoud_6 : decode cX1_needLoud 6 = .ok (.bipush 99, 2) := by decide +kernel
theorem dX1_needLoud_8 : decode cX1_needLoud 8 = .ok (.if_icmp .le 14, 3) := by decide +kernel
theorem dX1_needLoud_11 : decode cX1_needLoud 11 = .ok (.new 26, 3) := by decide +kernel
theorem dX1_needLoud_14 : decode cX1_needLoud 14 = .ok (.dup, 1) := by decide +kernel
theorem dX1_needLoud_15 : decode cX1_needLoud 15 = .ok (.ldc_w 257, 3) := by decide +kernel
theorem dX1_needLoud_18 : decode cX1_needLoud 18 = .ok (.invokespecial 30, 3) := by decide +kernel
theorem dX1_needLoud_21 : decode cX1_needLoud 21 = .ok (.athrow, 1) := by decide +kernel
theorem dX1_needLoud_22 : decode cX1_needLoud 22 = .ok (.return_, 1) := by decide +kernel
theorem dX1_needBeats_0 : decode cX1_needBeats 0 = .ok (.iload_n 0, 1) := by decide +kernel
theorem dX1_needBeats_1 : decode cX1_needBeats 1 = .ok (.iconst 1, 1) := by decide +kernel
theorem dX1_needBeats_2 : decode cX1_needBeats 2 = .ok (.if_icmp .lt 9, 3) := by decide +kernel
theorem dX1_needBeats_5 : decode cX1_needBeats 5 = .ok (.iload_n 0, 1) := by decide +kernel
theorem dX1_needBeats_6 : decode cX1_needBeats 6 = .ok (.bipush 100, 2) := by decide +kernel
theorem dX1_needBeats_8 : decode cX1_needBeats 8 = .ok (.if_icmp .le 14, 3) := by decide +kernel
theorem dX1_needBeats_11 : decode cX1_needBeats 11 = .ok (.new 26, 3) := by decide +kernel
theorem dX1_needBeats_14 : decode cX1_needBeats 14 = .ok (.dup, 1) := by decide +kernel
theorem dX1_needBeats_15 : decode cX1_needBeats 15 = .ok (.ldc_w 259, 3) := by decide +kernel
theorem dX1_needBeats_18 : decode cX1_needBeats 18 = .ok (.invokespecial 30, 3) := by decide +kernel
theorem dX1_needBeats_21 : decode cX1_needBeats 21 = .ok (.athrow, 1) := by decide +kernel
theorem dX1_needBeats_22 : decode cX1_needBeats 22 = .ok (.return_, 1) := by decide +kernel
