theorem dX2_init_0 : decode cX2_init 0 = .ok (.aload_n 0, 1) := by decide +kernel
theorem dX2_init_1 : decode cX2_init 1 = .ok (.invokespecial 3, 3) := by decide +kernel
theorem dX2_init_4 : decode cX2_init 4 = .ok (.aload_n 0, 1) := by decide +kernel
theorem dX2_init_5 : decode cX2_init 5 = .ok (.bipush 32, 2) := by decide +kernel
theorem dX2_init_7 : decode cX2_init 7 = .ok (.newarray .int, 2) := by decide +kernel
theorem dX2_init_9 : decode cX2_init 9 = .ok (.putfield 9, 3) := by decide +kernel
theorem dX2_init_12 : decode cX2_init 12 = .ok (.aload_n 0, 1) := by decide +kernel
theorem dX2_init_13 : decode cX2_init 13 = .ok (.bipush 32, 2) := by decide +kernel
theorem dX2_init_15 : decode cX2_init 15 = .ok (.newarray .int, 2) := by decide +kernel
theorem dX2_init_17 : decode cX2_init 17 = .ok (.putfield 13, 3) := by decide +kernel
theorem dX2_init_20 : decode cX2_init 20 = .ok (.aload_n 0, 1) := by decide +kernel
theorem dX2_init_21 : decode cX2_init 21 = .ok (.bipush 10, 2) := by decide +kernel
theorem dX2_init_23 : decode cX2_init 23 = .ok (.newarray .int, 2) := by decide +kernel
theorem dX2_init_25 : decode cX2_init 25 = .ok (.putfield 16, 3) := by decide +kernel
theorem dX2_init_28 : decode cX2_init 28 = .ok (.aload_n 0, 1) := by decide +kernel
theorem dX2_init_29 : decode cX2_init 29 = .ok (.bipush 10, 2) := by decide +kernel
theorem dX2_init_31 : decode cX2_init 31 = .ok (.newarray .int, 2) := by decide +kernel
theorem dX2_init_33 : decode cX2_init 33 = .ok (.putfield 19, 3) := by decide +kernel
theorem dX2_init_36 : decode cX2_init 36 = .ok (.aload_n 0, 1) := by decide +kernel
theorem dX2_init_37 : decode cX2_init 37 = .ok (.sipush 187, 3) := by decide +kernel
theorem dX2_init_40 : decode cX2_init 40 = .ok (.newarray .int, 2) := by decide +kernel
theorem dX2_init_42 : decode cX2_init 42 = .ok (.putfield 22, 3) := by decide +kernel
theorem dX2_init_45 : decode cX2_init 45 = .ok (.aload_n 0, 1) := by decide +kernel
theorem dX2_init_46 : decode cX2_init 46 = .ok (.sipush 187, 3) := by decide +kernel
theorem dX2_init_49 : decode cX2_init 49 = .ok (.newarray .int, 2) := by decide +kernel
theorem dX2_init_51 : decode cX2_init 51 = .ok (.putfield 25, 3) := by decide +kernel
theorem dX2_init_54 : decode cX2_init 54 = .ok (.aload_n 0, 1) := by decide +kernel
theorem dX2_init_55 : decode cX2_init 55 = .ok (.iconst 2, 1) := by decide +kernel
theorem dX2_init_56 : decode cX2_init 56 = .ok (.newarray .boolean, 2) := by decide +kernel
theorem dX2_init_58 : decode cX2_init 58 = .ok (.putfield 28, 3) := by decide +kernel
theorem dX2_init_61 : decode cX2_init 61 = .ok (.iconst 0, 1) := by decide +kernel
theorem dX2_init_62 : decode cX2_init 62 = .ok (.istore_n 1, 1) := by decide +kernel
theorem dX2_init_63 : decode cX2_init 63 = .ok (.iload_n 1, 1) := by decide +kernel
theorem dX2_init_64 : decode cX2_init 64 = .ok (.bipush 32, 2) := by decide +kernel
theorem dX2_init_66 : decode cX2_init 66 = .ok (.if_icmp .ge 16, 3) := by decide +kernel
theorem dX2_init_69 : decode cX2_init 69 = .ok (.aload_n 0, 1) := by decide +kernel
theorem dX2_init_70 : decode cX2_init 70 = .ok (.getfield 13, 3) := by decide +kernel
theorem dX2_init_73 : decode cX2_init 73 = .ok (.iload_n 1, 1) := by decide +kernel
theorem dX2_init_74 : decode cX2_init 74 = .ok (.iconst (-1), 1) := by decide +kernel
theorem dX2_init_75 : decode cX2_init 75 = .ok (.iastore, 1) := by decide +kernel
theorem dX2_init_76 : decode cX2_init 76 = .ok (.iinc 1 1, 3) := by decide +kernel
theorem dX2_init_79 : decode cX2_init 79 = .ok (.goto (-16), 3) := by decide +kernel
theorem dX2_init_82 : decode cX2_init 82 = .ok (.return_, 1) := by decide +kernel
theorem dX2_thrown_0 : decode cX2_thrown 0 = .ok (.aload_n 0, 1) := by decide +kernel
theorem dX2_thrown_1 : decode cX2_thrown 1 = .ok (.getfield 32, 3) := by decide +kernel
theorem dX2_thrown_4 : decode cX2_thrown 4 = .ok (.ireturn, 1) := by decide +kernel
theorem dX2_no_0 : decode cX2_no 0 = .ok (.aload_n 0, 1) := by decide +kernel
theorem dX2_no_1 : decode cX2_no 1 = .ok (.iload_n 1, 1) := by decide +kernel
theorem dX2_no_2 : decode cX2_no 2 = .ok (.putfield 32, 3) := by decide +kernel
theorem dX2_no_5 : decode cX2_no 5 = .ok (.iconst 0, 1) := by decide +kernel
theorem dX2_no_6 : decode cX2_no 6 = .ok (.ireturn, 1) := by decide +kernel
theorem dX2_ok_0 : decode cX2_ok 0 = .ok (.aload_n 0, 1) := by decide +kernel
theorem dX2_ok_1 : decode cX2_ok 1 = .ok (.iconst 0, 1) := by decide +kernel
theorem dX2_ok_2 : decode cX2_ok 2 = .ok (.putfield 32, 3) := by decide +kernel
theorem dX2_ok_5 : decode cX2_ok 5 = .ok (.iload_n 1, 1) := by decide +kernel
theorem dX2_ok_6 : decode cX2_ok 6 = .ok (.ireturn, 1) := by decide +kernel
theorem dX2_isIn_0 : decode cX2_isIn 0 = .ok (.iload_n 0, 1) := by decide +kernel
theorem dX2_isIn_1 : decode cX2_isIn 1 = .ok (.iload_n 1, 1) := by decide +kernel
theorem dX2_isIn_2 : decode cX2_isIn 2 = .ok (.if_icmp .lt 12, 3) := by decide +kernel
theorem dX2_isIn_5 : decode cX2_isIn 5 = .ok (.iload_n 0, 1) := by decide +kernel
theorem dX2_isIn_6 : decode cX2_isIn 6 = .ok (.iload_n 2, 1) := by decide +kernel
theorem dX2_isIn_7 : decode cX2_isIn 7 = .ok (.if_icmp .gt 7, 3) := by decide +kernel
theorem dX2_isIn_10 : decode cX2_isIn 10 = .ok (.iconst 1, 1) := by decide +kernel
theorem dX2_isIn_11 : decode cX2_isIn 11 = .ok (.goto 4, 3) := by decide +kernel
theorem dX2_isIn_14 : decode cX2_isIn 14 = .ok (.iconst 0, 1) := by decide +kernel
theorem dX2_isIn_15 : decode cX2_isIn 15 = .ok (.ireturn, 1) := by decide +kernel
theorem dX2_isStone_0 : decode cX2_isStone 0 = .ok (.iload_n 0, 1) := by decide +kernel
theorem dX2_isStone_1 : decode cX2_isStone 1 = .ok (.iconst 0, 1) := by decide +kernel
theorem dX2_isStone_2 : decode cX2_isStone 2 = .ok (.bipush 31, 2) := by decide +kernel
theorem dX2_isStone_4 : decode cX2_isStone 4 = .ok (.invokestatic 36, 3) := by decide +kernel
theorem dX2_isStone_7 : decode cX2_isStone 7 = .ok (.ireturn, 1) := by decide +kernel
theorem dX2_isEcho_0 : decode cX2_isEcho 0 = .ok (.iload_n 0, 1) := by decide +kernel
theorem dX2_isEcho_1 : decode cX2_isEcho 1 = .ok (.iconst 0, 1) := by decide +kernel
theorem dX2_isEcho_2 : decode cX2_isEcho 2 = .ok (.iconst 1, 1) := by decide +kernel
theorem dX2_isEcho_3 : decode cX2_isEcho 3 = .ok (.invokestatic 36, 3) := by decide +kernel
theorem dX2_isEcho_6 : decode cX2_isEcho 6 = .ok (.ireturn, 1) := by decide +kernel
theorem dX2_isWall_0 : decode cX2_isWall 0 = .ok (.iload_n 1, 1) := by decide +kernel
theorem dX2_isWall_1 : decode cX2_isWall 1 = .ok (.iconst 0, 1) := by decide +kernel
theorem dX2_isWall_2 : decode cX2_isWall 2 = .ok (.aload_n 0, 1) := by decide +kernel
theorem dX2_isWall_3 : decode cX2_isWall 3 = .ok (.getfield 40, 3) := by decide +kernel
theorem dX2_isWall_6 : decode cX2_isWall 6 = .ok (.iconst 1, 1) := by decide +kernel
theorem dX2_isWall_7 : decode cX2_isWall 7 = .ok (.isub, 1) := by decide +kernel
theorem dX2_isWall_8 : decode cX2_isWall 8 = .ok (.invokestatic 36, 3) := by decide +kernel
theorem dX2_isWall_11 : decode cX2_isWall 11 = .ok (.ireturn, 1) := by decide +kernel
theorem dX2_isShout_0 : decode cX2_isShout 0 = .ok (.iload_n 1, 1) := by decide +kernel
theorem dX2_isShout_1 : decode cX2_isShout 1 = .ok (.iconst 0, 1) := by decide +kernel
theorem dX2_isShout_2 : decode cX2_isShout 2 = .ok (.aload_n 0, 1) := by decide +kernel
theorem dX2_isShout_3 : decode cX2_isShout 3 = .ok (.getfield 43, 3) := by decide +kernel
theorem dX2_isShout_6 : decode cX2_isShout 6 = .ok (.iconst 1, 1) := by decide +kernel
theorem dX2_isShout_7 : decode cX2_isShout 7 = .ok (.isub, 1) := by decide +kernel
theorem dX2_isShout_8 : decode cX2_isShout 8 = .ok (.invokestatic 36, 3) := by decide +kernel
theorem dX2_isShout_11 : decode cX2_isShout 11 = .ok (.ireturn, 1) := by decide +kernel
theorem dX2_keep_0 : decode cX2_keep 0 = .ok (.aload_n 0, 1) := by decide +kernel
theorem dX2_keep_1 : decode cX2_keep 1 = .ok (.getfield 22, 3) := by decide +kernel
theorem dX2_keep_4 : decode cX2_keep 4 = .ok (.iconst 0, 1) := by decide +kernel
theorem dX2_keep_5 : decode cX2_keep 5 = .ok (.aload_n 0, 1) := by decide +kernel
theorem dX2_keep_6 : decode cX2_keep 6 = .ok (.getfield 25, 3) := by decide +kernel
theorem dX2_keep_9 : decode cX2_keep 9 = .ok (.iconst 0, 1) := by decide +kernel
theorem dX2_keep_10 : decode cX2_keep 10 = .ok (.sipush 187, 3) := by decide +kernel
theorem dX2_keep_13 : decode cX2_keep 13 = .ok (.invokestatic 46, 3) := by decide +kernel
theorem dX2_keep_16 : decode cX2_keep 16 = .ok (.return_, 1) := by decide +kernel
theorem dX2_bringBack_0 : decode cX2_bringBack 0 = .ok (.aload_n 0, 1) := by decide +kernel
theorem dX2_bringBack_1 : decode cX2_bringBack 1 = .ok (.getfield 25, 3) := by decide +kernel
theorem dX2_bringBack_4 : decode cX2_bringBack 4 = .ok (.iconst 0, 1) := by decide +kernel
theorem dX2_bringBack_5 : decode cX2_bringBack 5 = .ok (.aload_n 0, 1) := by decide +kernel
theorem dX2_bringBack_6 : decode cX2_bringBack 6 = .ok (.getfield 22, 3) := by decide +kernel
theorem dX2_bringBack_9 : decode cX2_bringBack 9 = .ok (.iconst 0, 1) := by decide +kernel
theorem dX2_bringBack_10 : decode cX2_bringBack 10 = .ok (.sipush 187, 3) := by decide +kernel
theorem dX2_bringBack_13 : decode cX2_bringBack 13 = .ok (.invokestatic 46, 3) := by decide +kernel
theorem dX2_bringBack_16 : decode cX2_bringBack 16 = .ok (.return_, 1) := by decide +kernel
theorem dX2_goes_0 : decode cX2_goes 0 = .ok (.aload_n 0, 1) := by decide +kernel
theorem dX2_goes_1 : decode cX2_goes 1 = .ok (.getfield 22, 3) := by decide +kernel
theorem dX2_goes_4 : decode cX2_goes 4 = .ok (.bipush 27, 2) := by decide +kernel
theorem dX2_goes_6 : decode cX2_goes 6 = .ok (.iload_n 1, 1) := by decide +kernel
theorem dX2_goes_7 : decode cX2_goes 7 = .ok (.iadd, 1) := by decide +kernel
theorem dX2_goes_8 : decode cX2_goes 8 = .ok (.iaload, 1) := by decide +kernel
theorem dX2_goes_9 : decode cX2_goes 9 = .ok (.ifCond .le 7, 3) := by decide +kernel
theorem dX2_goes_12 : decode cX2_goes 12 = .ok (.iconst 1, 1) := by decide +kernel
theorem dX2_goes_13 : decode cX2_goes 13 = .ok (.goto 4, 3) := by decide +kernel
theorem dX2_goes_16 : decode cX2_goes 16 = .ok (.iconst 0, 1) := by decide +kernel
theorem dX2_goes_17 : decode cX2_goes 17 = .ok (.ireturn, 1) := by decide +kernel
theorem dX2_let_0 : decode cX2_let 0 = .ok (.aload_n 0, 1) := by decide +kernel
theorem dX2_let_1 : decode cX2_let 1 = .ok (.getfield 22, 3) := by decide +kernel
theorem dX2_let_4 : decode cX2_let 4 = .ok (.bipush 27, 2) := by decide +kernel
theorem dX2_let_6 : decode cX2_let 6 = .ok (.iload_n 1, 1) := by decide +kernel
theorem dX2_let_7 : decode cX2_let 7 = .ok (.iadd, 1) := by decide +kernel
theorem dX2_let_8 : decode cX2_let 8 = .ok (.iconst 0, 1) := by decide +kernel
theorem dX2_let_9 : decode cX2_let 9 = .ok (.iload_n 2, 1) := by decide +kernel
theorem dX2_let_10 : decode cX2_let 10 = .ok (.invokestatic 52, 3) := by decide +kernel
theorem dX2_let_13 : decode cX2_let 13 = .ok (.iastore, 1) := by decide +kernel
theorem dX2_let_14 : decode cX2_let 14 = .ok (.return_, 1) := by decide +kernel
theorem dX2_step_0 : decode cX2_step 0 = .ok (.aload_n 0, 1) := by decide +kernel
theorem dX2_step_1 : decode cX2_step 1 = .ok (.getfield 22, 3) := by decide +kernel
theorem dX2_step_4 : decode cX2_step 4 = .ok (.bipush 67, 2) := by decide +kernel
theorem dX2_step_6 : decode cX2_step 6 = .ok (.iload_n 1, 1) := by decide +kernel
theorem dX2_step_7 : decode cX2_step 7 = .ok (.iadd, 1) := by decide +kernel
theorem dX2_step_8 : decode cX2_step 8 = .ok (.iaload, 1) := by decide +kernel
theorem dX2_step_9 : decode cX2_step 9 = .ok (.aload_n 0, 1) := by decide +kernel
theorem dX2_step_10 : decode cX2_step 10 = .ok (.getfield 22, 3) := by decide +kernel
theorem dX2_step_13 : decode cX2_step 13 = .ok (.bipush 107, 2) := by decide +kernel
theorem dX2_step_15 : decode cX2_step 15 = .ok (.iload_n 1, 1) := by decide +kernel
theorem dX2_step_16 : decode cX2_step 16 = .ok (.iadd, 1) := by decide +kernel
theorem dX2_step_17 : decode cX2_step 17 = .ok (.iaload, 1) := by decide +kernel
theorem dX2_step_18 : decode cX2_step 18 = .ok (.iadd, 1) := by decide +kernel
theorem dX2_step_19 : decode cX2_step 19 = .ok (.istore_n 2, 1) := by decide +kernel
theorem dX2_step_20 : decode cX2_step 20 = .ok (.iload_n 2, 1) := by decide +kernel
theorem dX2_step_21 : decode cX2_step 21 = .ok (.invokestatic 58, 3) := by decide +kernel
theorem dX2_step_24 : decode cX2_step 24 = .ok (.ifCond .ne 10, 3) := by decide +kernel
theorem dX2_step_27 : decode cX2_step 27 = .ok (.aload_n 0, 1) := by decide +kernel
theorem dX2_step_28 : decode cX2_step 28 = .ok (.iload_n 1, 1) := by decide +kernel
theorem dX2_step_29 : decode cX2_step 29 = .ok (.iconst 0, 1) := by decide +kernel
theorem dX2_step_30 : decode cX2_step 30 = .ok (.invokevirtual 62, 3) := by decide +kernel
theorem dX2_step_33 : decode cX2_step 33 = .ok (.return_, 1) := by decide +kernel
theorem dX2_step_34 : decode cX2_step 34 = .ok (.aload_n 0, 1) := by decide +kernel
theorem dX2_step_35 : decode cX2_step 35 = .ok (.getfield 22, 3) := by decide +kernel
theorem dX2_step_38 : decode cX2_step 38 = .ok (.bipush 67, 2) := by decide +kernel
theorem dX2_step_40 : decode cX2_step 40 = .ok (.iload_n 1, 1) := by decide +kernel
theorem dX2_step_41 : decode cX2_step 41 = .ok (.iadd, 1) := by decide +kernel
theorem dX2_step_42 : decode cX2_step 42 = .ok (.iload_n 2, 1) := by decide +kernel
theorem dX2_step_43 : decode cX2_step 43 = .ok (.iastore, 1) := by decide +kernel
theorem dX2_step_44 : decode cX2_step 44 = .ok (.aload_n 0, 1) := by decide +kernel
theorem dX2_step_45 : decode cX2_step 45 = .ok (.iload_n 1, 1) := by decide +kernel
theorem dX2_step_46 : decode cX2_step 46 = .ok (.aload_n 0, 1) := by decide +kernel
theorem dX2_step_47 : decode cX2_step 47 = .ok (.getfield 22, 3) := by decide +kernel
theorem dX2_step_50 : decode cX2_step 50 = .ok (.bipush 27, 2) := by decide +kernel
theorem dX2_step_52 : decode cX2_step 52 = .ok (.iload_n 1, 1) := by decide +kernel
theorem dX2_step_53 : decode cX2_step 53 = .ok (.iadd, 1) := by decide +kernel
theorem dX2_step_54 : decode cX2_step 54 = .ok (.iaload, 1) := by decide +kernel
theorem dX2_step_55 : decode cX2_step 55 = .ok (.iconst 1, 1) := by decide +kernel
theorem dX2_step_56 : decode cX2_step 56 = .ok (.isub, 1) := by decide +kernel
theorem dX2_step_57 : decode cX2_step 57 = .ok (.aload_n 0, 1) := by decide +kernel
theorem dX2_step_58 : decode cX2_step 58 = .ok (.getfield 9, 3) := by decide +kernel
theorem dX2_step_61 : decode cX2_step 61 = .ok (.iload_n 2, 1) := by decide +kernel
theorem dX2_step_62 : decode cX2_step 62 = .ok (.iaload, 1) := by decide +kernel
theorem dX2_step_63 : decode cX2_step 63 = .ok (.isub, 1) := by decide +kernel
theorem dX2_step_64 : decode cX2_step 64 = .ok (.invokevirtual 62, 3) := by decide +kernel
theorem dX2_step_67 : decode cX2_step 67 = .ok (.aload_n 0, 1) := by decide +kernel
theorem dX2_step_68 : decode cX2_step 68 = .ok (.getfield 13, 3) := by decide +kernel
theorem dX2_step_71 : decode cX2_step 71 = .ok (.iload_n 2, 1) := by decide +kernel
theorem dX2_step_72 : decode cX2_step 72 = .ok (.iaload, 1) := by decide +kernel
theorem dX2_step_73 : decode cX2_step 73 = .ok (.istore_n 3, 1) := by decide +kernel
theorem dX2_step_74 : decode cX2_step 74 = .ok (.aload_n 0, 1) := by decide +kernel
theorem dX2_step_75 : decode cX2_step 75 = .ok (.iload_n 1, 1) := by decide +kernel
theorem dX2_step_76 : decode cX2_step 76 = .ok (.invokevirtual 66, 3) := by decide +kernel
theorem dX2_step_79 : decode cX2_step 79 = .ok (.ifCond .eq 8, 3) := by decide +kernel
theorem dX2_step_82 : decode cX2_step 82 = .ok (.iload_n 3, 1) := by decide +kernel
theorem dX2_step_83 : decode cX2_step 83 = .ok (.iconst (-1), 1) := by decide +kernel
theorem dX2_step_84 : decode cX2_step 84 = .ok (.if_icmp .ne 4, 3) := by decide +kernel
theorem dX2_step_87 : decode cX2_step 87 = .ok (.return_, 1) := by decide +kernel
theorem dX2_step_88 : decode cX2_step 88 = .ok (.aload_n 0, 1) := by decide +kernel
theorem dX2_step_89 : decode cX2_step 89 = .ok (.getfield 22, 3) := by decide +kernel
theorem dX2_step_92 : decode cX2_step 92 = .ok (.bipush 7, 2) := by decide +kernel
theorem dX2_step_94 : decode cX2_step 94 = .ok (.iload_n 3, 1) := by decide +kernel
theorem dX2_step_95 : decode cX2_step 95 = .ok (.iadd, 1) := by decide +kernel
theorem dX2_step_96 : decode cX2_step 96 = .ok (.iaload, 1) := by decide +kernel
theorem dX2_step_97 : decode cX2_step 97 = .ok (.istore 4, 2) := by decide +kernel
theorem dX2_step_99 : decode cX2_step 99 = .ok (.aload_n 0, 1) := by decide +kernel
theorem dX2_step_100 : decode cX2_step 100 = .ok (.getfield 22, 3) := by decide +kernel
theorem dX2_step_103 : decode cX2_step 103 = .ok (.iconst 3, 1) := by decide +kernel
theorem dX2_step_104 : decode cX2_step 104 = .ok (.iload 4, 2) := by decide +kernel
theorem dX2_step_106 : decode cX2_step 106 = .ok (.iadd, 1) := by decide +kernel
theorem dX2_step_107 : decode cX2_step 107 = .ok (.dup2, 1) := by decide +kernel
theorem dX2_step_108 : decode cX2_step 108 = .ok (.iaload, 1) := by decide +kernel
theorem dX2_step_109 : decode cX2_step 109 = .ok (.iconst 1, 1) := by decide +kernel
theorem dX2_step_110 : decode cX2_step 110 = .ok (.iadd, 1) := by decide +kernel
theorem dX2_step_111 : decode cX2_step 111 = .ok (.iastore, 1) := by decide +kernel
theorem dX2_step_112 : decode cX2_step 112 = .ok (.aload_n 0, 1) := by decide +kernel
theorem dX2_step_113 : decode cX2_step 113 = .ok (.getfield 28, 3) := by decide +kernel
theorem dX2_step_116 : decode cX2_step 116 = .ok (.iload 4, 2) := by decide +kernel
theorem dX2_step_118 : decode cX2_step 118 = .ok (.iconst 1, 1) := by decide +kernel
theorem dX2_step_119 : decode cX2_step 119 = .ok (.bastore, 1) := by decide +kernel
theorem dX2_step_120 : decode cX2_step 120 = .ok (.aload_n 0, 1) := by decide +kernel
theorem dX2_step_121 : decode cX2_step 121 = .ok (.getfield 22, 3) := by decide +kernel
theorem dX2_step_124 : decode cX2_step 124 = .ok (.bipush 17, 2) := by decide +kernel
theorem dX2_step_126 : decode cX2_step 126 = .ok (.iload_n 3, 1) := by decide +kernel
theorem dX2_step_127 : decode cX2_step 127 = .ok (.iadd, 1) := by decide +kernel
theorem dX2_step_128 : decode cX2_step 128 = .ok (.dup2, 1) := by decide +kernel
theorem dX2_step_129 : decode cX2_step 129 = .ok (.iaload, 1) := by decide +kernel
theorem dX2_step_130 : decode cX2_step 130 = .ok (.iconst 1, 1) := by decide +kernel
theorem dX2_step_131 : decode cX2_step 131 = .ok (.iadd, 1) := by decide +kernel
theorem dX2_step_132 : decode cX2_step 132 = .ok (.iastore, 1) := by decide +kernel
theorem dX2_step_133 : decode cX2_step 133 = .ok (.aload_n 0, 1) := by decide +kernel
theorem dX2_step_134 : decode cX2_step 134 = .ok (.getfield 22, 3) := by decide +kernel
theorem dX2_step_137 : decode cX2_step 137 = .ok (.sipush 147, 3) := by decide +kernel
theorem dX2_step_140 : decode cX2_step 140 = .ok (.iload_n 1, 1) := by decide +kernel
theorem dX2_step_141 : decode cX2_step 141 = .ok (.iadd, 1) := by decide +kernel
theorem dX2_step_142 : decode cX2_step 142 = .ok (.dup2, 1) := by decide +kernel
theorem dX2_step_143 : decode cX2_step 143 = .ok (.iaload, 1) := by decide +kernel
theorem dX2_step_144 : decode cX2_step 144 = .ok (.iconst 1, 1) := by decide +kernel
theorem dX2_step_145 : decode cX2_step 145 = .ok (.iadd, 1) := by decide +kernel
theorem dX2_step_146 : decode cX2_step 146 = .ok (.iastore, 1) := by decide +kernel
theorem dX2_step_147 : decode cX2_step 147 = .ok (.aload_n 0, 1) := by decide +kernel
theorem dX2_step_148 : decode cX2_step 148 = .ok (.getfield 22, 3) := by decide +kernel
theorem dX2_step_151 : decode cX2_step 151 = .ok (.bipush 107, 2) := by decide +kernel
theorem dX2_step_153 : decode cX2_step 153 = .ok (.iload_n 1, 1) := by decide +kernel
theorem dX2_step_154 : decode cX2_step 154 = .ok (.iadd, 1) := by decide +kernel
theorem dX2_step_155 : decode cX2_step 155 = .ok (.aload_n 0, 1) := by decide +kernel
theorem dX2_step_156 : decode cX2_step 156 = .ok (.getfield 22, 3) := by decide +kernel
theorem dX2_step_159 : decode cX2_step 159 = .ok (.bipush 107, 2) := by decide +kernel
theorem dX2_step_161 : decode cX2_step 161 = .ok (.iload_n 1, 1) := by decide +kernel
theorem dX2_step_162 : decode cX2_step 162 = .ok (.iadd, 1) := by decide +kernel
theorem dX2_step_163 : decode cX2_step 163 = .ok (.iaload, 1) := by decide +kernel
theorem dX2_step_164 : decode cX2_step 164 = .ok (.ineg, 1) := by decide +kernel
theorem dX2_step_165 : decode cX2_step 165 = .ok (.iastore, 1) := by decide +kernel
theorem dX2_step_166 : decode cX2_step 166 = .ok (.aload_n 0, 1) := by decide +kernel
theorem dX2_step_167 : decode cX2_step 167 = .ok (.iload_n 1, 1) := by decide +kernel
theorem dX2_step_168 : decode cX2_step 168 = .ok (.aload_n 0, 1) := by decide +kernel
theorem dX2_step_169 : decode cX2_step 169 = .ok (.getfield 22, 3) := by decide +kernel
theorem dX2_step_172 : decode cX2_step 172 = .ok (.bipush 27, 2) := by decide +kernel
theorem dX2_step_174 : decode cX2_step 174 = .ok (.iload_n 1, 1) := by decide +kernel
theorem dX2_step_175 : decode cX2_step 175 = .ok (.iadd, 1) := by decide +kernel
theorem dX2_step_176 : decode cX2_step 176 = .ok (.iaload, 1) := by decide +kernel
theorem dX2_step_177 : decode cX2_step 177 = .ok (.aload_n 0, 1) := by decide +kernel
theorem dX2_step_178 : decode cX2_step 178 = .ok (.getfield 19, 3) := by decide +kernel
theorem dX2_step_181 : decode cX2_step 181 = .ok (.iload_n 3, 1) := by decide +kernel
theorem dX2_step_182 : decode cX2_step 182 = .ok (.iaload, 1) := by decide +kernel
theorem dX2_step_183 : decode cX2_step 183 = .ok (.isub, 1) := by decide +kernel
theorem dX2_step_184 : decode cX2_step 184 = .ok (.invokevirtual 62, 3) := by decide +kernel
theorem dX2_step_187 : decode cX2_step 187 = .ok (.return_, 1) := by decide +kernel
theorem dX2_loudest_0 : decode cX2_loudest 0 = .ok (.iconst (-1), 1) := by decide +kernel
theorem dX2_loudest_1 : decode cX2_loudest 1 = .ok (.istore_n 2, 1) := by decide +kernel
theorem dX2_loudest_2 : decode cX2_loudest 2 = .ok (.iconst 0, 1) := by decide +kernel
theorem dX2_loudest_3 : decode cX2_loudest 3 = .ok (.istore_n 3, 1) := by decide +kernel
theorem dX2_loudest_4 : decode cX2_loudest 4 = .ok (.iload_n 3, 1) := by decide +kernel
theorem dX2_loudest_5 : decode cX2_loudest 5 = .ok (.aload_n 0, 1) := by decide +kernel
theorem dX2_loudest_6 : decode cX2_loudest 6 = .ok (.getfield 43, 3) := by decide +kernel
theorem dX2_loudest_9 : decode cX2_loudest 9 = .ok (.if_icmp .ge 58, 3) := by decide +kernel
theorem dX2_loudest_12 : decode cX2_loudest 12 = .ok (.aload_n 0, 1) := by decide +kernel
theorem dX2_loudest_13 : decode cX2_loudest 13 = .ok (.iload_n 3, 1) := by decide +kernel
theorem dX2_loudest_14 : decode cX2_loudest 14 = .ok (.invokevirtual 66, 3) := by decide +kernel
theorem dX2_loudest_17 : decode cX2_loudest 17 = .ok (.ifCond .eq 44, 3) := by decide +kernel
theorem dX2_loudest_20 : decode cX2_loudest 20 = .ok (.aload_n 0, 1) := by decide +kernel
theorem dX2_loudest_21 : decode cX2_loudest 21 = .ok (.getfield 22, 3) := by decide +kernel
theorem dX2_loudest_24 : decode cX2_loudest 24 = .ok (.bipush 67, 2) := by decide +kernel
theorem dX2_loudest_26 : decode cX2_loudest 26 = .ok (.iload_n 3, 1) := by decide +kernel
theorem dX2_loudest_27 : decode cX2_loudest 27 = .ok (.iadd, 1) := by decide +kernel
theorem dX2_loudest_28 : decode cX2_loudest 28 = .ok (.iaload, 1) := by decide +kernel
theorem dX2_loudest_29 : decode cX2_loudest 29 = .ok (.iload_n 1, 1) := by decide +kernel
theorem dX2_loudest_30 : decode cX2_loudest 30 = .ok (.if_icmp .ne 31, 3) := by decide +kernel
theorem dX2_loudest_33 : decode cX2_loudest 33 = .ok (.iload_n 2, 1) := by decide +kernel
theorem dX2_loudest_34 : decode cX2_loudest 34 = .ok (.iconst (-1), 1) := by decide +kernel
theorem dX2_loudest_35 : decode cX2_loudest 35 = .ok (.if_icmp .eq 24, 3) := by decide +kernel
theorem dX2_loudest_38 : decode cX2_loudest 38 = .ok (.aload_n 0, 1) := by decide +kernel
theorem dX2_loudest_39 : decode cX2_loudest 39 = .ok (.getfield 22, 3) := by decide +kernel
theorem dX2_loudest_42 : decode cX2_loudest 42 = .ok (.bipush 27, 2) := by decide +kernel
theorem dX2_loudest_44 : decode cX2_loudest 44 = .ok (.iload_n 3, 1) := by decide +kernel
theorem dX2_loudest_45 : decode cX2_loudest 45 = .ok (.iadd, 1) := by decide +kernel
theorem dX2_loudest_46 : decode cX2_loudest 46 = .ok (.iaload, 1) := by decide +kernel
theorem dX2_loudest_47 : decode cX2_loudest 47 = .ok (.aload_n 0, 1) := by decide +kernel
theorem dX2_loudest_48 : decode cX2_loudest 48 = .ok (.getfield 22, 3) := by decide +kernel
theorem dX2_loudest_51 : decode cX2_loudest 51 = .ok (.bipush 27, 2) := by decide +kernel
theorem dX2_loudest_53 : decode cX2_loudest 53 = .ok (.iload_n 2, 1) := by decide +kernel
theorem dX2_loudest_54 : decode cX2_loudest 54 = .ok (.iadd, 1) := by decide +kernel
theorem dX2_loudest_55 : decode cX2_loudest 55 = .ok (.iaload, 1) := by decide +kernel
theorem dX2_loudest_56 : decode cX2_loudest 56 = .ok (.if_icmp .le 5, 3) := by decide +kernel
theorem dX2_loudest_59 : decode cX2_loudest 59 = .ok (.iload_n 3, 1) := by decide +kernel
theorem dX2_loudest_60 : decode cX2_loudest 60 = .ok (.istore_n 2, 1) := by decide +kernel
theorem dX2_loudest_61 : decode cX2_loudest 61 = .ok (.iinc 3 1, 3) := by decide +kernel
theorem dX2_loudest_64 : decode cX2_loudest 64 = .ok (.goto (-60), 3) := by decide +kernel
theorem dX2_loudest_67 : decode cX2_loudest 67 = .ok (.iload_n 2, 1) := by decide +kernel
theorem dX2_loudest_68 : decode cX2_loudest 68 = .ok (.ireturn, 1) := by decide +kernel
theorem dX2_meet_0 : decode cX2_meet 0 = .ok (.aload_n 0, 1) := by decide +kernel
theorem dX2_meet_1 : decode cX2_meet 1 = .ok (.iload_n 1, 1) := by decide +kernel
theorem dX2_meet_2 : decode cX2_meet 2 = .ok (.invokevirtual 66, 3) := by decide +kernel
theorem dX2_meet_5 : decode cX2_meet 5 = .ok (.ifCond .eq 20, 3) := by decide +kernel
theorem dX2_meet_8 : decode cX2_meet 8 = .ok (.aload_n 0, 1) := by decide +kernel
theorem dX2_meet_9 : decode cX2_meet 9 = .ok (.aload_n 0, 1) := by decide +kernel
theorem dX2_meet_10 : decode cX2_meet 10 = .ok (.getfield 22, 3) := by decide +kernel
theorem dX2_meet_13 : decode cX2_meet 13 = .ok (.bipush 67, 2) := by decide +kernel
theorem dX2_meet_15 : decode cX2_meet 15 = .ok (.iload_n 1, 1) := by decide +kernel
theorem dX2_meet_16 : decode cX2_meet 16 = .ok (.iadd, 1) := by decide +kernel
theorem dX2_meet_17 : decode cX2_meet 17 = .ok (.iaload, 1) := by decide +kernel
theorem dX2_meet_18 : decode cX2_meet 18 = .ok (.invokevirtual 69, 3) := by decide +kernel
theorem dX2_meet_21 : decode cX2_meet 21 = .ok (.iload_n 1, 1) := by decide +kernel
theorem dX2_meet_22 : decode cX2_meet 22 = .ok (.if_icmp .ne 4, 3) := by decide +kernel
theorem dX2_meet_25 : decode cX2_meet 25 = .ok (.return_, 1) := by decide +kernel
theorem dX2_meet_26 : decode cX2_meet 26 = .ok (.aload_n 0, 1) := by decide +kernel
theorem dX2_meet_27 : decode cX2_meet 27 = .ok (.iload_n 1, 1) := by decide +kernel
theorem dX2_meet_28 : decode cX2_meet 28 = .ok (.iconst 0, 1) := by decide +kernel
theorem dX2_meet_29 : decode cX2_meet 29 = .ok (.invokevirtual 62, 3) := by decide +kernel
theorem dX2_meet_32 : decode cX2_meet 32 = .ok (.aload_n 0, 1) := by decide +kernel
theorem dX2_meet_33 : decode cX2_meet 33 = .ok (.getfield 22, 3) := by decide +kernel
theorem dX2_meet_36 : decode cX2_meet 36 = .ok (.iconst 1, 1) := by decide +kernel
theorem dX2_meet_37 : decode cX2_meet 37 = .ok (.dup2, 1) := by decide +kernel
theorem dX2_meet_38 : decode cX2_meet 38 = .ok (.iaload, 1) := by decide +kernel
theorem dX2_meet_39 : decode cX2_meet 39 = .ok (.iconst 1, 1) := by decide +kernel
theorem dX2_meet_40 : decode cX2_meet 40 = .ok (.iadd, 1) := by decide +kernel
theorem dX2_meet_41 : decode cX2_meet 41 = .ok (.iastore, 1) := by decide +kernel
theorem dX2_meet_42 : decode cX2_meet 42 = .ok (.return_, 1) := by decide +kernel
theorem dX2_firstOf_0 : decode cX2_firstOf 0 = .ok (.iconst 0, 1) := by decide +kernel
theorem dX2_firstOf_1 : decode cX2_firstOf 1 = .ok (.istore_n 2, 1) := by decide +kernel
theorem dX2_firstOf_2 : decode cX2_firstOf 2 = .ok (.iload_n 2, 1) := by decide +kernel
theorem dX2_firstOf_3 : decode cX2_firstOf 3 = .ok (.aload_n 0, 1) := by decide +kernel
theorem dX2_firstOf_4 : decode cX2_firstOf 4 = .ok (.getfield 40, 3) := by decide +kernel
theorem dX2_firstOf_7 : decode cX2_firstOf 7 = .ok (.if_icmp .ge 24, 3) := by decide +kernel
theorem dX2_firstOf_10 : decode cX2_firstOf 10 = .ok (.aload_n 0, 1) := by decide +kernel
theorem dX2_firstOf_11 : decode cX2_firstOf 11 = .ok (.getfield 22, 3) := by decide +kernel
theorem dX2_firstOf_14 : decode cX2_firstOf 14 = .ok (.bipush 7, 2) := by decide +kernel
theorem dX2_firstOf_16 : decode cX2_firstOf 16 = .ok (.iload_n 2, 1) := by decide +kernel
theorem dX2_firstOf_17 : decode cX2_firstOf 17 = .ok (.iadd, 1) := by decide +kernel
theorem dX2_firstOf_18 : decode cX2_firstOf 18 = .ok (.iaload, 1) := by decide +kernel
theorem dX2_firstOf_19 : decode cX2_firstOf 19 = .ok (.iload_n 1, 1) := by decide +kernel
theorem dX2_firstOf_20 : decode cX2_firstOf 20 = .ok (.if_icmp .ne 5, 3) := by decide +kernel
theorem dX2_firstOf_23 : decode cX2_firstOf 23 = .ok (.iload_n 2, 1) := by decide +kernel
theorem dX2_firstOf_24 : decode cX2_firstOf 24 = .ok (.ireturn, 1) := by decide +kernel
theorem dX2_firstOf_25 : decode cX2_firstOf 25 = .ok (.iinc 2 1, 3) := by decide +kernel
theorem dX2_firstOf_28 : decode cX2_firstOf 28 = .ok (.goto (-26), 3) := by decide +kernel
theorem dX2_firstOf_31 : decode cX2_firstOf 31 = .ok (.iconst (-1), 1) := by decide +kernel
theorem dX2_firstOf_32 : decode cX2_firstOf 32 = .ok (.ireturn, 1) := by decide +kernel
theorem dX2_hush_0 : decode cX2_hush 0 = .ok (.aload_n 0, 1) := by decide +kernel
theorem dX2_hush_1 : decode cX2_hush 1 = .ok (.getfield 22, 3) := by decide +kernel
theorem dX2_hush_4 : decode cX2_hush 4 = .ok (.iconst 5, 1) := by decide +kernel
theorem dX2_hush_5 : decode cX2_hush 5 = .ok (.iload_n 1, 1) := by decide +kernel
theorem dX2_hush_6 : decode cX2_hush 6 = .ok (.iadd, 1) := by decide +kernel
theorem dX2_hush_7 : decode cX2_hush 7 = .ok (.aload_n 0, 1) := by decide +kernel
theorem dX2_hush_8 : decode cX2_hush 8 = .ok (.getfield 28, 3) := by decide +kernel
theorem dX2_hush_11 : decode cX2_hush 11 = .ok (.iload_n 1, 1) := by decide +kernel
theorem dX2_hush_12 : decode cX2_hush 12 = .ok (.baload, 1) := by decide +kernel
theorem dX2_hush_13 : decode cX2_hush 13 = .ok (.ifCond .eq 7, 3) := by decide +kernel
theorem dX2_hush_16 : decode cX2_hush 16 = .ok (.iconst 0, 1) := by decide +kernel
theorem dX2_hush_17 : decode cX2_hush 17 = .ok (.goto 13, 3) := by decide +kernel
theorem dX2_hush_20 : decode cX2_hush 20 = .ok (.aload_n 0, 1) := by decide +kernel
theorem dX2_hush_21 : decode cX2_hush 21 = .ok (.getfield 22, 3) := by decide +kernel
theorem dX2_hush_24 : decode cX2_hush 24 = .ok (.iconst 5, 1) := by decide +kernel
theorem dX2_hush_25 : decode cX2_hush 25 = .ok (.iload_n 1, 1) := by decide +kernel
theorem dX2_hush_26 : decode cX2_hush 26 = .ok (.iadd, 1) := by decide +kernel
theorem dX2_hush_27 : decode cX2_hush 27 = .ok (.iaload, 1) := by decide +kernel
theorem dX2_hush_28 : decode cX2_hush 28 = .ok (.iconst 1, 1) := by decide +kernel
theorem dX2_hush_29 : decode cX2_hush 29 = .ok (.iadd, 1) := by decide +kernel
theorem dX2_hush_30 : decode cX2_hush 30 = .ok (.iastore, 1) := by decide +kernel
theorem dX2_hush_31 : decode cX2_hush 31 = .ok (.aload_n 0, 1) := by decide +kernel
theorem dX2_hush_32 : decode cX2_hush 32 = .ok (.getfield 22, 3) := by decide +kernel
theorem dX2_hush_35 : decode cX2_hush 35 = .ok (.iconst 5, 1) := by decide +kernel
theorem dX2_hush_36 : decode cX2_hush 36 = .ok (.iload_n 1, 1) := by decide +kernel
theorem dX2_hush_37 : decode cX2_hush 37 = .ok (.iadd, 1) := by decide +kernel
theorem dX2_hush_38 : decode cX2_hush 38 = .ok (.iaload, 1) := by decide +kernel
theorem dX2_hush_39 : decode cX2_hush 39 = .ok (.bipush 12, 2) := by decide +kernel
theorem dX2_hush_41 : decode cX2_hush 41 = .ok (.if_icmp .ge 4, 3) := by decide +kernel
theorem dX2_hush_44 : decode cX2_hush 44 = .ok (.return_, 1) := by decide +kernel
theorem dX2_hush_45 : decode cX2_hush 45 = .ok (.aload_n 0, 1) := by decide +kernel
theorem dX2_hush_46 : decode cX2_hush 46 = .ok (.getfield 22, 3) := by decide +kernel
theorem dX2_hush_49 : decode cX2_hush 49 = .ok (.iconst 5, 1) := by decide +kernel
theorem dX2_hush_50 : decode cX2_hush 50 = .ok (.iload_n 1, 1) := by decide +kernel
theorem dX2_hush_51 : decode cX2_hush 51 = .ok (.iadd, 1) := by decide +kernel
theorem dX2_hush_52 : decode cX2_hush 52 = .ok (.iconst 0, 1) := by decide +kernel
theorem dX2_hush_53 : decode cX2_hush 53 = .ok (.iastore, 1) := by decide +kernel
theorem dX2_hush_54 : decode cX2_hush 54 = .ok (.aload_n 0, 1) := by decide +kernel
theorem dX2_hush_55 : decode cX2_hush 55 = .ok (.iload_n 1, 1) := by decide +kernel
theorem dX2_hush_56 : decode cX2_hush 56 = .ok (.invokevirtual 73, 3) := by decide +kernel
theorem dX2_hush_59 : decode cX2_hush 59 = .ok (.istore_n 2, 1) := by decide +kernel
theorem dX2_hush_60 : decode cX2_hush 60 = .ok (.iload_n 2, 1) := by decide +kernel
theorem dX2_hush_61 : decode cX2_hush 61 = .ok (.iconst (-1), 1) := by decide +kernel
theorem dX2_hush_62 : decode cX2_hush 62 = .ok (.if_icmp .ne 4, 3) := by decide +kernel
theorem dX2_hush_65 : decode cX2_hush 65 = .ok (.return_, 1) := by decide +kernel
theorem dX2_hush_66 : decode cX2_hush 66 = .ok (.aload_n 0, 1) := by decide +kernel
theorem dX2_hush_67 : decode cX2_hush 67 = .ok (.getfield 22, 3) := by decide +kernel
theorem dX2_hush_70 : decode cX2_hush 70 = .ok (.bipush 7, 2) := by decide +kernel
theorem dX2_hush_72 : decode cX2_hush 72 = .ok (.iload_n 2, 1) := by decide +kernel
theorem dX2_hush_73 : decode cX2_hush 73 = .ok (.iadd, 1) := by decide +kernel
theorem dX2_hush_74 : decode cX2_hush 74 = .ok (.iconst 1, 1) := by decide +kernel
theorem dX2_hush_75 : decode cX2_hush 75 = .ok (.iload_n 1, 1) := by decide +kernel
theorem dX2_hush_76 : decode cX2_hush 76 = .ok (.isub, 1) := by decide +kernel
theorem dX2_hush_77 : decode cX2_hush 77 = .ok (.iastore, 1) := by decide +kernel
theorem dX2_hush_78 : decode cX2_hush 78 = .ok (.aload_n 0, 1) := by decide +kernel
theorem dX2_hush_79 : decode cX2_hush 79 = .ok (.getfield 22, 3) := by decide +kernel
theorem dX2_hush_82 : decode cX2_hush 82 = .ok (.iconst 2, 1) := by decide +kernel
theorem dX2_hush_83 : decode cX2_hush 83 = .ok (.dup2, 1) := by decide +kernel
theorem dX2_hush_84 : decode cX2_hush 84 = .ok (.iaload, 1) := by decide +kernel
theorem dX2_hush_85 : decode cX2_hush 85 = .ok (.iconst 1, 1) := by decide +kernel
theorem dX2_hush_86 : decode cX2_hush 86 = .ok (.iadd, 1) := by decide +kernel
theorem dX2_hush_87 : decode cX2_hush 87 = .ok (.iastore, 1) := by decide +kernel
theorem dX2_hush_88 : decode cX2_hush 88 = .ok (.return_, 1) := by decide +kernel
theorem dX2_beatOn_0 : decode cX2_beatOn 0 = .ok (.aload_n 0, 1) := by decide +kernel
theorem dX2_beatOn_1 : decode cX2_beatOn 1 = .ok (.getfield 28, 3) := by decide +kernel
theorem dX2_beatOn_4 : decode cX2_beatOn 4 = .ok (.iconst 0, 1) := by decide +kernel
theorem dX2_beatOn_5 : decode cX2_beatOn 5 = .ok (.iconst 0, 1) := by decide +kernel
theorem dX2_beatOn_6 : decode cX2_beatOn 6 = .ok (.bastore, 1) := by decide +kernel
theorem dX2_beatOn_7 : decode cX2_beatOn 7 = .ok (.aload_n 0, 1) := by decide +kernel
theorem dX2_beatOn_8 : decode cX2_beatOn 8 = .ok (.getfield 28, 3) := by decide +kernel
theorem dX2_beatOn_11 : decode cX2_beatOn 11 = .ok (.iconst 1, 1) := by decide +kernel
theorem dX2_beatOn_12 : decode cX2_beatOn 12 = .ok (.iconst 0, 1) := by decide +kernel
theorem dX2_beatOn_13 : decode cX2_beatOn 13 = .ok (.bastore, 1) := by decide +kernel
theorem dX2_beatOn_14 : decode cX2_beatOn 14 = .ok (.iconst 0, 1) := by decide +kernel
theorem dX2_beatOn_15 : decode cX2_beatOn 15 = .ok (.istore_n 1, 1) := by decide +kernel
theorem dX2_beatOn_16 : decode cX2_beatOn 16 = .ok (.iload_n 1, 1) := by decide +kernel
theorem dX2_beatOn_17 : decode cX2_beatOn 17 = .ok (.aload_n 0, 1) := by decide +kernel
theorem dX2_beatOn_18 : decode cX2_beatOn 18 = .ok (.getfield 43, 3) := by decide +kernel
theorem dX2_beatOn_21 : decode cX2_beatOn 21 = .ok (.if_icmp .ge 22, 3) := by decide +kernel
theorem dX2_beatOn_24 : decode cX2_beatOn 24 = .ok (.aload_n 0, 1) := by decide +kernel
theorem dX2_beatOn_25 : decode cX2_beatOn 25 = .ok (.iload_n 1, 1) := by decide +kernel
theorem dX2_beatOn_26 : decode cX2_beatOn 26 = .ok (.invokevirtual 66, 3) := by decide +kernel
theorem dX2_beatOn_29 : decode cX2_beatOn 29 = .ok (.ifCond .eq 8, 3) := by decide +kernel
theorem dX2_beatOn_32 : decode cX2_beatOn 32 = .ok (.aload_n 0, 1) := by decide +kernel
theorem dX2_beatOn_33 : decode cX2_beatOn 33 = .ok (.iload_n 1, 1) := by decide +kernel
theorem dX2_beatOn_34 : decode cX2_beatOn 34 = .ok (.invokevirtual 76, 3) := by decide +kernel
theorem dX2_beatOn_37 : decode cX2_beatOn 37 = .ok (.iinc 1 1, 3) := by decide +kernel
theorem dX2_beatOn_40 : decode cX2_beatOn 40 = .ok (.goto (-24), 3) := by decide +kernel
theorem dX2_beatOn_43 : decode cX2_beatOn 43 = .ok (.iconst 0, 1) := by decide +kernel
theorem dX2_beatOn_44 : decode cX2_beatOn 44 = .ok (.istore_n 1, 1) := by decide +kernel
theorem dX2_beatOn_45 : decode cX2_beatOn 45 = .ok (.iload_n 1, 1) := by decide +kernel
theorem dX2_beatOn_46 : decode cX2_beatOn 46 = .ok (.aload_n 0, 1) := by decide +kernel
theorem dX2_beatOn_47 : decode cX2_beatOn 47 = .ok (.getfield 43, 3) := by decide +kernel
theorem dX2_beatOn_50 : decode cX2_beatOn 50 = .ok (.if_icmp .ge 14, 3) := by decide +kernel
theorem dX2_beatOn_53 : decode cX2_beatOn 53 = .ok (.aload_n 0, 1) := by decide +kernel
theorem dX2_beatOn_54 : decode cX2_beatOn 54 = .ok (.iload_n 1, 1) := by decide +kernel
theorem dX2_beatOn_55 : decode cX2_beatOn 55 = .ok (.invokevirtual 80, 3) := by decide +kernel
theorem dX2_beatOn_58 : decode cX2_beatOn 58 = .ok (.iinc 1 1, 3) := by decide +kernel
theorem dX2_beatOn_61 : decode cX2_beatOn 61 = .ok (.goto (-16), 3) := by decide +kernel
theorem dX2_beatOn_64 : decode cX2_beatOn 64 = .ok (.aload_n 0, 1) := by decide +kernel
theorem dX2_beatOn_65 : decode cX2_beatOn 65 = .ok (.iconst 0, 1) := by decide +kernel
theorem dX2_beatOn_66 : decode cX2_beatOn 66 = .ok (.invokevirtual 83, 3) := by decide +kernel
theorem dX2_beatOn_69 : decode cX2_beatOn 69 = .ok (.aload_n 0, 1) := by decide +kernel
theorem dX2_beatOn_70 : decode cX2_beatOn 70 = .ok (.iconst 1, 1) := by decide +kernel
theorem dX2_beatOn_71 : decode cX2_beatOn 71 = .ok (.invokevirtual 83, 3) := by decide +kernel
theorem dX2_beatOn_74 : decode cX2_beatOn 74 = .ok (.aload_n 0, 1) := by decide +kernel
theorem dX2_beatOn_75 : decode cX2_beatOn 75 = .ok (.getfield 22, 3) := by decide +kernel
theorem dX2_beatOn_78 : decode cX2_beatOn 78 = .ok (.iconst 0, 1) := by decide +kernel
theorem dX2_beatOn_79 : decode cX2_beatOn 79 = .ok (.dup2, 1) := by decide +kernel
theorem dX2_beatOn_80 : decode cX2_beatOn 80 = .ok (.iaload, 1) := by decide +kernel
theorem dX2_beatOn_81 : decode cX2_beatOn 81 = .ok (.iconst 1, 1) := by decide +kernel
theorem dX2_beatOn_82 : decode cX2_beatOn 82 = .ok (.iadd, 1) := by decide +kernel
theorem dX2_beatOn_83 : decode cX2_beatOn 83 = .ok (.iastore, 1) := by decide +kernel
theorem dX2_beatOn_84 : decode cX2_beatOn 84 = .ok (.return_, 1) := by decide +kernel
theorem dX2_beatsOn_0 : decode cX2_beatsOn 0 = .ok (.iconst 0, 1) := by decide +kernel
theorem dX2_beatsOn_1 : decode cX2_beatsOn 1 = .ok (.istore_n 2, 1) := by decide +kernel
theorem dX2_beatsOn_2 : decode cX2_beatsOn 2 = .ok (.iload_n 2, 1) := by decide +kernel
theorem dX2_beatsOn_3 : decode cX2_beatsOn 3 = .ok (.iload_n 1, 1) := by decide +kernel
theorem dX2_beatsOn_4 : decode cX2_beatsOn 4 = .ok (.if_icmp .ge 13, 3) := by decide +kernel
theorem dX2_beatsOn_7 : decode cX2_beatsOn 7 = .ok (.aload_n 0, 1) := by decide +kernel
theorem dX2_beatsOn_8 : decode cX2_beatsOn 8 = .ok (.invokevirtual 86, 3) := by decide +kernel
theorem dX2_beatsOn_11 : decode cX2_beatsOn 11 = .ok (.iinc 2 1, 3) := by decide +kernel
theorem dX2_beatsOn_14 : decode cX2_beatsOn 14 = .ok (.goto (-12), 3) := by decide +kernel
theorem dX2_beatsOn_17 : decode cX2_beatsOn 17 = .ok (.return_, 1) := by decide +kernel
theorem dX2_coins_0 : decode cX2_coins 0 = .ok (.aload_n 0, 1) := by decide +kernel
theorem dX2_coins_1 : decode cX2_coins 1 = .ok (.getfield 22, 3) := by decide +kernel
theorem dX2_coins_4 : decode cX2_coins 4 = .ok (.iconst 3, 1) := by decide +kernel
theorem dX2_coins_5 : decode cX2_coins 5 = .ok (.iaload, 1) := by decide +kernel
theorem dX2_coins_6 : decode cX2_coins 6 = .ok (.aload_n 0, 1) := by decide +kernel
theorem dX2_coins_7 : decode cX2_coins 7 = .ok (.getfield 22, 3) := by decide +kernel
theorem dX2_coins_10 : decode cX2_coins 10 = .ok (.iconst 4, 1) := by decide +kernel
theorem dX2_coins_11 : decode cX2_coins 11 = .ok (.iaload, 1) := by decide +kernel
theorem dX2_coins_12 : decode cX2_coins 12 = .ok (.iadd, 1) := by decide +kernel
theorem dX2_coins_13 : decode cX2_coins 13 = .ok (.ireturn, 1) := by decide +kernel
theorem dX2_many_0 : decode cX2_many 0 = .ok (.iconst 0, 1) := by decide +kernel
theorem dX2_many_1 : decode cX2_many 1 = .ok (.istore_n 1, 1) := by decide +kernel
theorem dX2_many_2 : decode cX2_many 2 = .ok (.iconst 0, 1) := by decide +kernel
theorem dX2_many_3 : decode cX2_many 3 = .ok (.istore_n 2, 1) := by decide +kernel
theorem dX2_many_4 : decode cX2_many 4 = .ok (.iload_n 2, 1) := by decide +kernel
theorem dX2_many_5 : decode cX2_many 5 = .ok (.aload_n 0, 1) := by decide +kernel
theorem dX2_many_6 : decode cX2_many 6 = .ok (.getfield 43, 3) := by decide +kernel
theorem dX2_many_9 : decode cX2_many 9 = .ok (.if_icmp .ge 25, 3) := by decide +kernel
theorem dX2_many_12 : decode cX2_many 12 = .ok (.iload_n 1, 1) := by decide +kernel
theorem dX2_many_13 : decode cX2_many 13 = .ok (.aload_n 0, 1) := by decide +kernel
theorem dX2_many_14 : decode cX2_many 14 = .ok (.iload_n 2, 1) := by decide +kernel
theorem dX2_many_15 : decode cX2_many 15 = .ok (.invokevirtual 66, 3) := by decide +kernel
theorem dX2_many_18 : decode cX2_many 18 = .ok (.ifCond .eq 7, 3) := by decide +kernel
theorem dX2_many_21 : decode cX2_many 21 = .ok (.iconst 1, 1) := by decide +kernel
theorem dX2_many_22 : decode cX2_many 22 = .ok (.goto 4, 3) := by decide +kernel
theorem dX2_many_25 : decode cX2_many 25 = .ok (.iconst 0, 1) := by decide +kernel
theorem dX2_many_26 : decode cX2_many 26 = .ok (.iadd, 1) := by decide +kernel
theorem dX2_many_27 : decode cX2_many 27 = .ok (.istore_n 1, 1) := by decide +kernel
theorem dX2_many_28 : decode cX2_many 28 = .ok (.iinc 2 1, 3) := by decide +kernel
theorem dX2_many_31 : decode cX2_many 31 = .ok (.goto (-27), 3) := by decide +kernel
theorem dX2_many_34 : decode cX2_many 34 = .ok (.iload_n 1, 1) := by decide +kernel
theorem dX2_many_35 : decode cX2_many 35 = .ok (.ireturn, 1) := by decide +kernel
theorem dX2_addWall_0 : decode cX2_addWall 0 = .ok (.aload_n 0, 1) := by decide +kernel
theorem dX2_addWall_1 : decode cX2_addWall 1 = .ok (.iconst 0, 1) := by decide +kernel
theorem dX2_addWall_2 : decode cX2_addWall 2 = .ok (.putfield 32, 3) := by decide +kernel
theorem dX2_addWall_5 : decode cX2_addWall 5 = .ok (.iload_n 1, 1) := by decide +kernel
theorem dX2_addWall_6 : decode cX2_addWall 6 = .ok (.invokestatic 58, 3) := by decide +kernel
theorem dX2_addWall_9 : decode cX2_addWall 9 = .ok (.ifCond .eq 10, 3) := by decide +kernel
theorem dX2_addWall_12 : decode cX2_addWall 12 = .ok (.iload_n 2, 1) := by decide +kernel
theorem dX2_addWall_13 : decode cX2_addWall 13 = .ok (.invokestatic 89, 3) := by decide +kernel
theorem dX2_addWall_16 : decode cX2_addWall 16 = .ok (.ifCond .ne 9, 3) := by decide +kernel
theorem dX2_addWall_19 : decode cX2_addWall 19 = .ok (.aload_n 0, 1) := by decide +kernel
theorem dX2_addWall_20 : decode cX2_addWall 20 = .ok (.iconst 1, 1) := by decide +kernel
theorem dX2_addWall_21 : decode cX2_addWall 21 = .ok (.invokevirtual 92, 3) := by decide +kernel
theorem dX2_addWall_24 : decode cX2_addWall 24 = .ok (.ireturn, 1) := by decide +kernel
theorem dX2_addWall_25 : decode cX2_addWall 25 = .ok (.iload_n 3, 1) := by decide +kernel
theorem dX2_addWall_26 : decode cX2_addWall 26 = .ok (.iconst 0, 1) := by decide +kernel
theorem dX2_addWall_27 : decode cX2_addWall 27 = .ok (.iconst 5, 1) := by decide +kernel
theorem dX2_addWall_28 : decode cX2_addWall 28 = .ok (.invokestatic 36, 3) := by decide +kernel
theorem dX2_addWall_31 : decode cX2_addWall 31 = .ok (.ifCond .ne 9, 3) := by decide +kernel
theorem dX2_addWall_34 : decode cX2_addWall 34 = .ok (.aload_n 0, 1) := by decide +kernel
theorem dX2_addWall_35 : decode cX2_addWall 35 = .ok (.iconst 2, 1) := by decide +kernel
theorem dX2_addWall_36 : decode cX2_addWall 36 = .ok (.invokevirtual 92, 3) := by decide +kernel
theorem dX2_addWall_39 : decode cX2_addWall 39 = .ok (.ireturn, 1) := by decide +kernel
theorem dX2_addWall_40 : decode cX2_addWall 40 = .ok (.aload_n 0, 1) := by decide +kernel
theorem dX2_addWall_41 : decode cX2_addWall 41 = .ok (.getfield 40, 3) := by decide +kernel
theorem dX2_addWall_44 : decode cX2_addWall 44 = .ok (.bipush 10, 2) := by decide +kernel
theorem dX2_addWall_46 : decode cX2_addWall 46 = .ok (.if_icmp .eq 13, 3) := by decide +kernel
theorem dX2_addWall_49 : decode cX2_addWall 49 = .ok (.aload_n 0, 1) := by decide +kernel
theorem dX2_addWall_50 : decode cX2_addWall 50 = .ok (.getfield 13, 3) := by decide +kernel
theorem dX2_addWall_53 : decode cX2_addWall 53 = .ok (.iload_n 1, 1) := by decide +kernel
theorem dX2_addWall_54 : decode cX2_addWall 54 = .ok (.iaload, 1) := by decide +kernel
theorem dX2_addWall_55 : decode cX2_addWall 55 = .ok (.iconst (-1), 1) := by decide +kernel
theorem dX2_addWall_56 : decode cX2_addWall 56 = .ok (.if_icmp .eq 9, 3) := by decide +kernel
theorem dX2_addWall_59 : decode cX2_addWall 59 = .ok (.aload_n 0, 1) := by decide +kernel
theorem dX2_addWall_60 : decode cX2_addWall 60 = .ok (.iconst 3, 1) := by decide +kernel
theorem dX2_addWall_61 : decode cX2_addWall 61 = .ok (.invokevirtual 92, 3) := by decide +kernel
theorem dX2_addWall_64 : decode cX2_addWall 64 = .ok (.ireturn, 1) := by decide +kernel
theorem dX2_addWall_65 : decode cX2_addWall 65 = .ok (.aload_n 0, 1) := by decide +kernel
theorem dX2_addWall_66 : decode cX2_addWall 66 = .ok (.getfield 13, 3) := by decide +kernel
theorem dX2_addWall_69 : decode cX2_addWall 69 = .ok (.iload_n 1, 1) := by decide +kernel
theorem dX2_addWall_70 : decode cX2_addWall 70 = .ok (.aload_n 0, 1) := by decide +kernel
theorem dX2_addWall_71 : decode cX2_addWall 71 = .ok (.getfield 40, 3) := by decide +kernel
theorem dX2_addWall_74 : decode cX2_addWall 74 = .ok (.iastore, 1) := by decide +kernel
theorem dX2_addWall_75 : decode cX2_addWall 75 = .ok (.aload_n 0, 1) := by decide +kernel
theorem dX2_addWall_76 : decode cX2_addWall 76 = .ok (.getfield 16, 3) := by decide +kernel
theorem dX2_addWall_79 : decode cX2_addWall 79 = .ok (.aload_n 0, 1) := by decide +kernel
theorem dX2_addWall_80 : decode cX2_addWall 80 = .ok (.getfield 40, 3) := by decide +kernel
theorem dX2_addWall_83 : decode cX2_addWall 83 = .ok (.iload_n 1, 1) := by decide +kernel
theorem dX2_addWall_84 : decode cX2_addWall 84 = .ok (.iastore, 1) := by decide +kernel
theorem dX2_addWall_85 : decode cX2_addWall 85 = .ok (.aload_n 0, 1) := by decide +kernel
theorem dX2_addWall_86 : decode cX2_addWall 86 = .ok (.getfield 19, 3) := by decide +kernel
theorem dX2_addWall_89 : decode cX2_addWall 89 = .ok (.aload_n 0, 1) := by decide +kernel
theorem dX2_addWall_90 : decode cX2_addWall 90 = .ok (.getfield 40, 3) := by decide +kernel
theorem dX2_addWall_93 : decode cX2_addWall 93 = .ok (.iload_n 3, 1) := by decide +kernel
theorem dX2_addWall_94 : decode cX2_addWall 94 = .ok (.iastore, 1) := by decide +kernel
theorem dX2_addWall_95 : decode cX2_addWall 95 = .ok (.aload_n 0, 1) := by decide +kernel
theorem dX2_addWall_96 : decode cX2_addWall 96 = .ok (.getfield 22, 3) := by decide +kernel
theorem dX2_addWall_99 : decode cX2_addWall 99 = .ok (.bipush 7, 2) := by decide +kernel
theorem dX2_addWall_101 : decode cX2_addWall 101 = .ok (.aload_n 0, 1) := by decide +kernel
theorem dX2_addWall_102 : decode cX2_addWall 102 = .ok (.getfield 40, 3) := by decide +kernel
theorem dX2_addWall_105 : decode cX2_addWall 105 = .ok (.iadd, 1) := by decide +kernel
theorem dX2_addWall_106 : decode cX2_addWall 106 = .ok (.iload_n 2, 1) := by decide +kernel
theorem dX2_addWall_107 : decode cX2_addWall 107 = .ok (.iastore, 1) := by decide +kernel
theorem dX2_addWall_108 : decode cX2_addWall 108 = .ok (.aload_n 0, 1) := by decide +kernel
theorem dX2_addWall_109 : decode cX2_addWall 109 = .ok (.dup, 1) := by decide +kernel
theorem dX2_addWall_110 : decode cX2_addWall 110 = .ok (.getfield 40, 3) := by decide +kernel
theorem dX2_addWall_113 : decode cX2_addWall 113 = .ok (.iconst 1, 1) := by decide +kernel
theorem dX2_addWall_114 : decode cX2_addWall 114 = .ok (.iadd, 1) := by decide +kernel
theorem dX2_addWall_115 : decode cX2_addWall 115 = .ok (.putfield 40, 3) := by decide +kernel
theorem dX2_addWall_118 : decode cX2_addWall 118 = .ok (.aload_n 0, 1) := by decide +kernel
theorem dX2_addWall_119 : decode cX2_addWall 119 = .ok (.getfield 40, 3) := by decide +kernel
theorem dX2_addWall_122 : decode cX2_addWall 122 = .ok (.iconst 1, 1) := by decide +kernel
theorem dX2_addWall_123 : decode cX2_addWall 123 = .ok (.isub, 1) := by decide +kernel
theorem dX2_addWall_124 : decode cX2_addWall 124 = .ok (.ireturn, 1) := by decide +kernel
theorem dX2_hand_0 : decode cX2_hand 0 = .ok (.aload_n 0, 1) := by decide +kernel
theorem dX2_hand_1 : decode cX2_hand 1 = .ok (.iconst 0, 1) := by decide +kernel
theorem dX2_hand_2 : decode cX2_hand 2 = .ok (.putfield 32, 3) := by decide +kernel
theorem dX2_hand_5 : decode cX2_hand 5 = .ok (.aload_n 0, 1) := by decide +kernel
theorem dX2_hand_6 : decode cX2_hand 6 = .ok (.iload_n 1, 1) := by decide +kernel
theorem dX2_hand_7 : decode cX2_hand 7 = .ok (.invokevirtual 95, 3) := by decide +kernel
theorem dX2_hand_10 : decode cX2_hand 10 = .ok (.ifCond .ne 9, 3) := by decide +kernel
theorem dX2_hand_13 : decode cX2_hand 13 = .ok (.aload_n 0, 1) := by decide +kernel
theorem dX2_hand_14 : decode cX2_hand 14 = .ok (.iconst 1, 1) := by decide +kernel
theorem dX2_hand_15 : decode cX2_hand 15 = .ok (.invokevirtual 92, 3) := by decide +kernel
theorem dX2_hand_18 : decode cX2_hand 18 = .ok (.ireturn, 1) := by decide +kernel
theorem dX2_hand_19 : decode cX2_hand 19 = .ok (.aload_n 0, 1) := by decide +kernel
theorem dX2_hand_20 : decode cX2_hand 20 = .ok (.getfield 22, 3) := by decide +kernel
theorem dX2_hand_23 : decode cX2_hand 23 = .ok (.bipush 7, 2) := by decide +kernel
theorem dX2_hand_25 : decode cX2_hand 25 = .ok (.iload_n 1, 1) := by decide +kernel
theorem dX2_hand_26 : decode cX2_hand 26 = .ok (.iadd, 1) := by decide +kernel
theorem dX2_hand_27 : decode cX2_hand 27 = .ok (.iconst 1, 1) := by decide +kernel
theorem dX2_hand_28 : decode cX2_hand 28 = .ok (.aload_n 0, 1) := by decide +kernel
theorem dX2_hand_29 : decode cX2_hand 29 = .ok (.getfield 22, 3) := by decide +kernel
theorem dX2_hand_32 : decode cX2_hand 32 = .ok (.bipush 7, 2) := by decide +kernel
theorem dX2_hand_34 : decode cX2_hand 34 = .ok (.iload_n 1, 1) := by decide +kernel
theorem dX2_hand_35 : decode cX2_hand 35 = .ok (.iadd, 1) := by decide +kernel
theorem dX2_hand_36 : decode cX2_hand 36 = .ok (.iaload, 1) := by decide +kernel
theorem dX2_hand_37 : decode cX2_hand 37 = .ok (.isub, 1) := by decide +kernel
theorem dX2_hand_38 : decode cX2_hand 38 = .ok (.iastore, 1) := by decide +kernel
theorem dX2_hand_39 : decode cX2_hand 39 = .ok (.aload_n 0, 1) := by decide +kernel
theorem dX2_hand_40 : decode cX2_hand 40 = .ok (.getfield 22, 3) := by decide +kernel
theorem dX2_hand_43 : decode cX2_hand 43 = .ok (.bipush 7, 2) := by decide +kernel
theorem dX2_hand_45 : decode cX2_hand 45 = .ok (.iload_n 1, 1) := by decide +kernel
theorem dX2_hand_46 : decode cX2_hand 46 = .ok (.iadd, 1) := by decide +kernel
theorem dX2_hand_47 : decode cX2_hand 47 = .ok (.iaload, 1) := by decide +kernel
theorem dX2_hand_48 : decode cX2_hand 48 = .ok (.ireturn, 1) := by decide +kernel
theorem dX2_setSnow_0 : decode cX2_setSnow 0 = .ok (.aload_n 0, 1) := by decide +kernel
theorem dX2_setSnow_1 : decode cX2_setSnow 1 = .ok (.iconst 0, 1) := by decide +kernel
theorem dX2_setSnow_2 : decode cX2_setSnow 2 = .ok (.putfield 32, 3) := by decide +kernel
theorem dX2_setSnow_5 : decode cX2_setSnow 5 = .ok (.iload_n 1, 1) := by decide +kernel
theorem dX2_setSnow_6 : decode cX2_setSnow 6 = .ok (.invokestatic 58, 3) := by decide +kernel
theorem dX2_setSnow_9 : decode cX2_setSnow 9 = .ok (.ifCond .ne 9, 3) := by decide +kernel
theorem dX2_setSnow_12 : decode cX2_setSnow 12 = .ok (.aload_n 0, 1) := by decide +kernel
theorem dX2_setSnow_13 : decode cX2_setSnow 13 = .ok (.iconst 1, 1) := by decide +kernel
theorem dX2_setSnow_14 : decode cX2_setSnow 14 = .ok (.invokevirtual 92, 3) := by decide +kernel
theorem dX2_setSnow_17 : decode cX2_setSnow 17 = .ok (.ireturn, 1) := by decide +kernel
theorem dX2_setSnow_18 : decode cX2_setSnow 18 = .ok (.iload_n 2, 1) := by decide +kernel
theorem dX2_setSnow_19 : decode cX2_setSnow 19 = .ok (.iconst 0, 1) := by decide +kernel
theorem dX2_setSnow_20 : decode cX2_setSnow 20 = .ok (.iconst 5, 1) := by decide +kernel
theorem dX2_setSnow_21 : decode cX2_setSnow 21 = .ok (.invokestatic 36, 3) := by decide +kernel
theorem dX2_setSnow_24 : decode cX2_setSnow 24 = .ok (.ifCond .ne 9, 3) := by decide +kernel
theorem dX2_setSnow_27 : decode cX2_setSnow 27 = .ok (.aload_n 0, 1) := by decide +kernel
theorem dX2_setSnow_28 : decode cX2_setSnow 28 = .ok (.iconst 2, 1) := by decide +kernel
theorem dX2_setSnow_29 : decode cX2_setSnow 29 = .ok (.invokevirtual 92, 3) := by decide +kernel
theorem dX2_setSnow_32 : decode cX2_setSnow 32 = .ok (.ireturn, 1) := by decide +kernel
theorem dX2_setSnow_33 : decode cX2_setSnow 33 = .ok (.aload_n 0, 1) := by decide +kernel
theorem dX2_setSnow_34 : decode cX2_setSnow 34 = .ok (.getfield 9, 3) := by decide +kernel
theorem dX2_setSnow_37 : decode cX2_setSnow 37 = .ok (.iload_n 1, 1) := by decide +kernel
theorem dX2_setSnow_38 : decode cX2_setSnow 38 = .ok (.iaload, 1) := by decide +kernel
theorem dX2_setSnow_39 : decode cX2_setSnow 39 = .ok (.istore_n 3, 1) := by decide +kernel
theorem dX2_setSnow_40 : decode cX2_setSnow 40 = .ok (.aload_n 0, 1) := by decide +kernel
theorem dX2_setSnow_41 : decode cX2_setSnow 41 = .ok (.getfield 9, 3) := by decide +kernel
theorem dX2_setSnow_44 : decode cX2_setSnow 44 = .ok (.iload_n 1, 1) := by decide +kernel
theorem dX2_setSnow_45 : decode cX2_setSnow 45 = .ok (.iload_n 2, 1) := by decide +kernel
theorem dX2_setSnow_46 : decode cX2_setSnow 46 = .ok (.iastore, 1) := by decide +kernel
theorem dX2_setSnow_47 : decode cX2_setSnow 47 = .ok (.iload_n 3, 1) := by decide +kernel
theorem dX2_setSnow_48 : decode cX2_setSnow 48 = .ok (.ireturn, 1) := by decide +kernel
theorem dX2_shout_0 : decode cX2_shout 0 = .ok (.aload_n 0, 1) := by decide +kernel
theorem dX2_shout_1 : decode cX2_shout 1 = .ok (.iconst 0, 1) := by decide +kernel
theorem dX2_shout_2 : decode cX2_shout 2 = .ok (.putfield 32, 3) := by decide +kernel
theorem dX2_shout_5 : decode cX2_shout 5 = .ok (.iload_n 1, 1) := by decide +kernel
theorem dX2_shout_6 : decode cX2_shout 6 = .ok (.invokestatic 58, 3) := by decide +kernel
theorem dX2_shout_9 : decode cX2_shout 9 = .ok (.ifCond .ne 9, 3) := by decide +kernel
theorem dX2_shout_12 : decode cX2_shout 12 = .ok (.aload_n 0, 1) := by decide +kernel
theorem dX2_shout_13 : decode cX2_shout 13 = .ok (.iconst 1, 1) := by decide +kernel
theorem dX2_shout_14 : decode cX2_shout 14 = .ok (.invokevirtual 92, 3) := by decide +kernel
theorem dX2_shout_17 : decode cX2_shout 17 = .ok (.ireturn, 1) := by decide +kernel
theorem dX2_shout_18 : decode cX2_shout 18 = .ok (.iload_n 3, 1) := by decide +kernel
theorem dX2_shout_19 : decode cX2_shout 19 = .ok (.iconst 1, 1) := by decide +kernel
theorem dX2_shout_20 : decode cX2_shout 20 = .ok (.bipush 99, 2) := by decide +kernel
theorem dX2_shout_22 : decode cX2_shout 22 = .ok (.invokestatic 36, 3) := by decide +kernel
theorem dX2_shout_25 : decode cX2_shout 25 = .ok (.ifCond .ne 9, 3) := by decide +kernel
theorem dX2_shout_28 : decode cX2_shout 28 = .ok (.aload_n 0, 1) := by decide +kernel
theorem dX2_shout_29 : decode cX2_shout 29 = .ok (.iconst 2, 1) := by decide +kernel
theorem dX2_shout_30 : decode cX2_shout 30 = .ok (.invokevirtual 92, 3) := by decide +kernel
theorem dX2_shout_33 : decode cX2_shout 33 = .ok (.ireturn, 1) := by decide +kernel
theorem dX2_shout_34 : decode cX2_shout 34 = .ok (.aload_n 0, 1) := by decide +kernel
theorem dX2_shout_35 : decode cX2_shout 35 = .ok (.getfield 43, 3) := by decide +kernel
theorem dX2_shout_38 : decode cX2_shout 38 = .ok (.bipush 40, 2) := by decide +kernel
theorem dX2_shout_40 : decode cX2_shout 40 = .ok (.if_icmp .eq 21, 3) := by decide +kernel
theorem dX2_shout_43 : decode cX2_shout 43 = .ok (.aload_n 0, 1) := by decide +kernel
theorem dX2_shout_44 : decode cX2_shout 44 = .ok (.invokevirtual 98, 3) := by decide +kernel
theorem dX2_shout_47 : decode cX2_shout 47 = .ok (.bipush 8, 2) := by decide +kernel
theorem dX2_shout_49 : decode cX2_shout 49 = .ok (.if_icmp .eq 12, 3) := by decide +kernel
theorem dX2_shout_52 : decode cX2_shout 52 = .ok (.aload_n 0, 1) := by decide +kernel
theorem dX2_shout_53 : decode cX2_shout 53 = .ok (.iload_n 1, 1) := by decide +kernel
theorem dX2_shout_54 : decode cX2_shout 54 = .ok (.invokevirtual 69, 3) := by decide +kernel
theorem dX2_shout_57 : decode cX2_shout 57 = .ok (.iconst (-1), 1) := by decide +kernel
theorem dX2_shout_58 : decode cX2_shout 58 = .ok (.if_icmp .eq 9, 3) := by decide +kernel
theorem dX2_shout_61 : decode cX2_shout 61 = .ok (.aload_n 0, 1) := by decide +kernel
theorem dX2_shout_62 : decode cX2_shout 62 = .ok (.iconst 3, 1) := by decide +kernel
theorem dX2_shout_63 : decode cX2_shout 63 = .ok (.invokevirtual 92, 3) := by decide +kernel
theorem dX2_shout_66 : decode cX2_shout 66 = .ok (.ireturn, 1) := by decide +kernel
theorem dX2_shout_67 : decode cX2_shout 67 = .ok (.aload_n 0, 1) := by decide +kernel
theorem dX2_shout_68 : decode cX2_shout 68 = .ok (.getfield 22, 3) := by decide +kernel
theorem dX2_shout_71 : decode cX2_shout 71 = .ok (.bipush 27, 2) := by decide +kernel
theorem dX2_shout_73 : decode cX2_shout 73 = .ok (.aload_n 0, 1) := by decide +kernel
theorem dX2_shout_74 : decode cX2_shout 74 = .ok (.getfield 43, 3) := by decide +kernel
theorem dX2_shout_77 : decode cX2_shout 77 = .ok (.iadd, 1) := by decide +kernel
theorem dX2_shout_78 : decode cX2_shout 78 = .ok (.iload_n 3, 1) := by decide +kernel
theorem dX2_shout_79 : decode cX2_shout 79 = .ok (.iastore, 1) := by decide +kernel
theorem dX2_shout_80 : decode cX2_shout 80 = .ok (.aload_n 0, 1) := by decide +kernel
theorem dX2_shout_81 : decode cX2_shout 81 = .ok (.getfield 22, 3) := by decide +kernel
theorem dX2_shout_84 : decode cX2_shout 84 = .ok (.bipush 67, 2) := by decide +kernel
theorem dX2_shout_86 : decode cX2_shout 86 = .ok (.aload_n 0, 1) := by decide +kernel
theorem dX2_shout_87 : decode cX2_shout 87 = .ok (.getfield 43, 3) := by decide +kernel
theorem dX2_shout_90 : decode cX2_shout 90 = .ok (.iadd, 1) := by decide +kernel
theorem dX2_shout_91 : decode cX2_shout 91 = .ok (.iload_n 1, 1) := by decide +kernel
theorem dX2_shout_92 : decode cX2_shout 92 = .ok (.iastore, 1) := by decide +kernel
theorem dX2_shout_93 : decode cX2_shout 93 = .ok (.aload_n 0, 1) := by decide +kernel
theorem dX2_shout_94 : decode cX2_shout 94 = .ok (.getfield 22, 3) := by decide +kernel
theorem dX2_shout_97 : decode cX2_shout 97 = .ok (.bipush 107, 2) := by decide +kernel
theorem dX2_shout_99 : decode cX2_shout 99 = .ok (.aload_n 0, 1) := by decide +kernel
theorem dX2_shout_100 : decode cX2_shout 100 = .ok (.getfield 43, 3) := by decide +kernel
theorem dX2_shout_103 : decode cX2_shout 103 = .ok (.iadd, 1) := by decide +kernel
theorem dX2_shout_104 : decode cX2_shout 104 = .ok (.iload_n 2, 1) := by decide +kernel
theorem dX2_shout_105 : decode cX2_shout 105 = .ok (.ifCond .eq 7, 3) := by decide +kernel
theorem dX2_shout_108 : decode cX2_shout 108 = .ok (.iconst 1, 1) := by decide +kernel
theorem dX2_shout_109 : decode cX2_shout 109 = .ok (.goto 4, 3) := by decide +kernel
theorem dX2_shout_112 : decode cX2_shout 112 = .ok (.iconst (-1), 1) := by decide +kernel
theorem dX2_shout_113 : decode cX2_shout 113 = .ok (.iastore, 1) := by decide +kernel
theorem dX2_shout_114 : decode cX2_shout 114 = .ok (.aload_n 0, 1) := by decide +kernel
theorem dX2_shout_115 : decode cX2_shout 115 = .ok (.getfield 22, 3) := by decide +kernel
theorem dX2_shout_118 : decode cX2_shout 118 = .ok (.sipush 147, 3) := by decide +kernel
theorem dX2_shout_121 : decode cX2_shout 121 = .ok (.aload_n 0, 1) := by decide +kernel
theorem dX2_shout_122 : decode cX2_shout 122 = .ok (.getfield 43, 3) := by decide +kernel
theorem dX2_shout_125 : decode cX2_shout 125 = .ok (.iadd, 1) := by decide +kernel
theorem dX2_shout_126 : decode cX2_shout 126 = .ok (.iconst 0, 1) := by decide +kernel
theorem dX2_shout_127 : decode cX2_shout 127 = .ok (.iastore, 1) := by decide +kernel
theorem dX2_shout_128 : decode cX2_shout 128 = .ok (.aload_n 0, 1) := by decide +kernel
theorem dX2_shout_129 : decode cX2_shout 129 = .ok (.dup, 1) := by decide +kernel
theorem dX2_shout_130 : decode cX2_shout 130 = .ok (.getfield 43, 3) := by decide +kernel
theorem dX2_shout_133 : decode cX2_shout 133 = .ok (.iconst 1, 1) := by decide +kernel
theorem dX2_shout_134 : decode cX2_shout 134 = .ok (.iadd, 1) := by decide +kernel
theorem dX2_shout_135 : decode cX2_shout 135 = .ok (.putfield 43, 3) := by decide +kernel
theorem dX2_shout_138 : decode cX2_shout 138 = .ok (.aload_n 0, 1) := by decide +kernel
theorem dX2_shout_139 : decode cX2_shout 139 = .ok (.getfield 43, 3) := by decide +kernel
theorem dX2_shout_142 : decode cX2_shout 142 = .ok (.iconst 1, 1) := by decide +kernel
theorem dX2_shout_143 : decode cX2_shout 143 = .ok (.isub, 1) := by decide +kernel
theorem dX2_shout_144 : decode cX2_shout 144 = .ok (.ireturn, 1) := by decide +kernel
theorem dX2_pass_0 : decode cX2_pass 0 = .ok (.aload_n 0, 1) := by decide +kernel
theorem dX2_pass_1 : decode cX2_pass 1 = .ok (.iconst 0, 1) := by decide +kernel
theorem dX2_pass_2 : decode cX2_pass 2 = .ok (.putfield 32, 3) := by decide +kernel
theorem dX2_pass_5 : decode cX2_pass 5 = .ok (.iload_n 1, 1) := by decide +kernel
theorem dX2_pass_6 : decode cX2_pass 6 = .ok (.iconst 1, 1) := by decide +kernel
theorem dX2_pass_7 : decode cX2_pass 7 = .ok (.bipush 100, 2) := by decide +kernel
theorem dX2_pass_9 : decode cX2_pass 9 = .ok (.invokestatic 36, 3) := by decide +kernel
theorem dX2_pass_12 : decode cX2_pass 12 = .ok (.ifCond .ne 9, 3) := by decide +kernel
theorem dX2_pass_15 : decode cX2_pass 15 = .ok (.aload_n 0, 1) := by decide +kernel
theorem dX2_pass_16 : decode cX2_pass 16 = .ok (.iconst 1, 1) := by decide +kernel
theorem dX2_pass_17 : decode cX2_pass 17 = .ok (.invokevirtual 92, 3) := by decide +kernel
theorem dX2_pass_20 : decode cX2_pass 20 = .ok (.ireturn, 1) := by decide +kernel
theorem dX2_pass_21 : decode cX2_pass 21 = .ok (.aload_n 0, 1) := by decide +kernel
theorem dX2_pass_22 : decode cX2_pass 22 = .ok (.invokevirtual 102, 3) := by decide +kernel
theorem dX2_pass_25 : decode cX2_pass 25 = .ok (.istore_n 2, 1) := by decide +kernel
theorem dX2_pass_26 : decode cX2_pass 26 = .ok (.aload_n 0, 1) := by decide +kernel
theorem dX2_pass_27 : decode cX2_pass 27 = .ok (.iload_n 1, 1) := by decide +kernel
theorem dX2_pass_28 : decode cX2_pass 28 = .ok (.invokevirtual 105, 3) := by decide +kernel
theorem dX2_pass_31 : decode cX2_pass 31 = .ok (.aload_n 0, 1) := by decide +kernel
theorem dX2_pass_32 : decode cX2_pass 32 = .ok (.invokevirtual 102, 3) := by decide +kernel
theorem dX2_pass_35 : decode cX2_pass 35 = .ok (.iload_n 2, 1) := by decide +kernel
theorem dX2_pass_36 : decode cX2_pass 36 = .ok (.isub, 1) := by decide +kernel
theorem dX2_pass_37 : decode cX2_pass 37 = .ok (.ireturn, 1) := by decide +kernel
theorem dX2_beat_0 : decode cX2_beat 0 = .ok (.aload_n 0, 1) := by decide +kernel
theorem dX2_beat_1 : decode cX2_beat 1 = .ok (.aload_n 0, 1) := by decide +kernel
theorem dX2_beat_2 : decode cX2_beat 2 = .ok (.getfield 22, 3) := by decide +kernel
theorem dX2_beat_5 : decode cX2_beat 5 = .ok (.iconst 0, 1) := by decide +kernel
theorem dX2_beat_6 : decode cX2_beat 6 = .ok (.iaload, 1) := by decide +kernel
theorem dX2_beat_7 : decode cX2_beat 7 = .ok (.invokevirtual 108, 3) := by decide +kernel
theorem dX2_beat_10 : decode cX2_beat 10 = .ok (.ireturn, 1) := by decide +kernel
theorem dX2_walls_0 : decode cX2_walls 0 = .ok (.aload_n 0, 1) := by decide +kernel
theorem dX2_walls_1 : decode cX2_walls 1 = .ok (.aload_n 0, 1) := by decide +kernel
theorem dX2_walls_2 : decode cX2_walls 2 = .ok (.getfield 40, 3) := by decide +kernel
theorem dX2_walls_5 : decode cX2_walls 5 = .ok (.invokevirtual 108, 3) := by decide +kernel
theorem dX2_walls_8 : decode cX2_walls 8 = .ok (.ireturn, 1) := by decide +kernel
theorem dX2_shouts_0 : decode cX2_shouts 0 = .ok (.aload_n 0, 1) := by decide +kernel
theorem dX2_shouts_1 : decode cX2_shouts 1 = .ok (.aload_n 0, 1) := by decide +kernel
theorem dX2_shouts_2 : decode cX2_shouts 2 = .ok (.getfield 43, 3) := by decide +kernel
theorem dX2_shouts_5 : decode cX2_shouts 5 = .ok (.invokevirtual 108, 3) := by decide +kernel
theorem dX2_shouts_8 : decode cX2_shouts 8 = .ok (.ireturn, 1) := by decide +kernel
theorem dX2_underWay_0 : decode cX2_underWay 0 = .ok (.aload_n 0, 1) := by decide +kernel
theorem dX2_underWay_1 : decode cX2_underWay 1 = .ok (.aload_n 0, 1) := by decide +kernel
theorem dX2_underWay_2 : decode cX2_underWay 2 = .ok (.invokevirtual 98, 3) := by decide +kernel
theorem dX2_underWay_5 : decode cX2_underWay 5 = .ok (.invokevirtual 108, 3) := by decide +kernel
theorem dX2_underWay_8 : decode cX2_underWay 8 = .ok (.ireturn, 1) := by decide +kernel
theorem dX2_overlaps_0 : decode cX2_overlaps 0 = .ok (.aload_n 0, 1) := by decide +kernel
theorem dX2_overlaps_1 : decode cX2_overlaps 1 = .ok (.aload_n 0, 1) := by decide +kernel
theorem dX2_overlaps_2 : decode cX2_overlaps 2 = .ok (.getfield 22, 3) := by decide +kernel
theorem dX2_overlaps_5 : decode cX2_overlaps 5 = .ok (.iconst 1, 1) := by decide +kernel
theorem dX2_overlaps_6 : decode cX2_overlaps 6 = .ok (.iaload, 1) := by decide +kernel
theorem dX2_overlaps_7 : decode cX2_overlaps 7 = .ok (.invokevirtual 108, 3) := by decide +kernel
theorem dX2_overlaps_10 : decode cX2_overlaps 10 = .ok (.ireturn, 1) := by decide +kernel
theorem dX2_isKnown_0 : decode cX2_isKnown 0 = .ok (.aload_n 0, 1) := by decide +kernel
theorem dX2_isKnown_1 : decode cX2_isKnown 1 = .ok (.iload_n 1, 1) := by decide +kernel
theorem dX2_isKnown_2 : decode cX2_isKnown 2 = .ok (.ifCond .eq 7, 3) := by decide +kernel
theorem dX2_isKnown_5 : decode cX2_isKnown 5 = .ok (.iconst 0, 1) := by decide +kernel
theorem dX2_isKnown_6 : decode cX2_isKnown 6 = .ok (.goto 4, 3) := by decide +kernel
theorem dX2_isKnown_9 : decode cX2_isKnown 9 = .ok (.iconst 1, 1) := by decide +kernel
theorem dX2_isKnown_10 : decode cX2_isKnown 10 = .ok (.putfield 32, 3) := by decide +kernel
theorem dX2_isKnown_13 : decode cX2_isKnown 13 = .ok (.iload_n 1, 1) := by decide +kernel
theorem dX2_isKnown_14 : decode cX2_isKnown 14 = .ok (.ireturn, 1) := by decide +kernel
theorem dX2_snowOn_0 : decode cX2_snowOn 0 = .ok (.aload_n 0, 1) := by decide +kernel
theorem dX2_snowOn_1 : decode cX2_snowOn 1 = .ok (.iload_n 1, 1) := by decide +kernel
theorem dX2_snowOn_2 : decode cX2_snowOn 2 = .ok (.invokestatic 58, 3) := by decide +kernel
theorem dX2_snowOn_5 : decode cX2_snowOn 5 = .ok (.invokevirtual 111, 3) := by decide +kernel
theorem dX2_snowOn_8 : decode cX2_snowOn 8 = .ok (.ifCond .eq 12, 3) := by decide +kernel
theorem dX2_snowOn_11 : decode cX2_snowOn 11 = .ok (.aload_n 0, 1) := by decide +kernel
theorem dX2_snowOn_12 : decode cX2_snowOn 12 = .ok (.getfield 9, 3) := by decide +kernel
theorem dX2_snowOn_15 : decode cX2_snowOn 15 = .ok (.iload_n 1, 1) := by decide +kernel
theorem dX2_snowOn_16 : decode cX2_snowOn 16 = .ok (.iaload, 1) := by decide +kernel
theorem dX2_snowOn_17 : decode cX2_snowOn 17 = .ok (.goto 4, 3) := by decide +kernel
theorem dX2_snowOn_20 : decode cX2_snowOn 20 = .ok (.iconst 0, 1) := by decide +kernel
theorem dX2_snowOn_21 : decode cX2_snowOn 21 = .ok (.ireturn, 1) := by decide +kernel
theorem dX2_wallOn_0 : decode cX2_wallOn 0 = .ok (.aload_n 0, 1) := by decide +kernel
theorem dX2_wallOn_1 : decode cX2_wallOn 1 = .ok (.iload_n 1, 1) := by decide +kernel
theorem dX2_wallOn_2 : decode cX2_wallOn 2 = .ok (.invokestatic 58, 3) := by decide +kernel
theorem dX2_wallOn_5 : decode cX2_wallOn 5 = .ok (.invokevirtual 111, 3) := by decide +kernel
theorem dX2_wallOn_8 : decode cX2_wallOn 8 = .ok (.ifCond .eq 12, 3) := by decide +kernel
theorem dX2_wallOn_11 : decode cX2_wallOn 11 = .ok (.aload_n 0, 1) := by decide +kernel
theorem dX2_wallOn_12 : decode cX2_wallOn 12 = .ok (.getfield 13, 3) := by decide +kernel
theorem dX2_wallOn_15 : decode cX2_wallOn 15 = .ok (.iload_n 1, 1) := by decide +kernel
theorem dX2_wallOn_16 : decode cX2_wallOn 16 = .ok (.iaload, 1) := by decide +kernel
theorem dX2_wallOn_17 : decode cX2_wallOn 17 = .ok (.goto 4, 3) := by decide +kernel
theorem dX2_wallOn_20 : decode cX2_wallOn 20 = .ok (.iconst 0, 1) := by decide +kernel
theorem dX2_wallOn_21 : decode cX2_wallOn 21 = .ok (.ireturn, 1) := by decide +kernel
theorem dX2_loudAt_0 : decode cX2_loudAt 0 = .ok (.aload_n 0, 1) := by decide +kernel
theorem dX2_loudAt_1 : decode cX2_loudAt 1 = .ok (.iload_n 1, 1) := by decide +kernel
theorem dX2_loudAt_2 : decode cX2_loudAt 2 = .ok (.invokevirtual 69, 3) := by decide +kernel
theorem dX2_loudAt_5 : decode cX2_loudAt 5 = .ok (.iconst (-1), 1) := by decide +kernel
theorem dX2_loudAt_6 : decode cX2_loudAt 6 = .ok (.if_icmp .ne 7, 3) := by decide +kernel
theorem dX2_loudAt_9 : decode cX2_loudAt 9 = .ok (.iconst 0, 1) := by decide +kernel
theorem dX2_loudAt_10 : decode cX2_loudAt 10 = .ok (.goto 16, 3) := by decide +kernel
theorem dX2_loudAt_13 : decode cX2_loudAt 13 = .ok (.aload_n 0, 1) := by decide +kernel
theorem dX2_loudAt_14 : decode cX2_loudAt 14 = .ok (.getfield 22, 3) := by decide +kernel
theorem dX2_loudAt_17 : decode cX2_loudAt 17 = .ok (.bipush 27, 2) := by decide +kernel
theorem dX2_loudAt_19 : decode cX2_loudAt 19 = .ok (.aload_n 0, 1) := by decide +kernel
theorem dX2_loudAt_20 : decode cX2_loudAt 20 = .ok (.iload_n 1, 1) := by decide +kernel
theorem dX2_loudAt_21 : decode cX2_loudAt 21 = .ok (.invokevirtual 69, 3) := by decide +kernel
theorem dX2_loudAt_24 : decode cX2_loudAt 24 = .ok (.iadd, 1) := by decide +kernel
theorem dX2_loudAt_25 : decode cX2_loudAt 25 = .ok (.iaload, 1) := by decide +kernel
theorem dX2_loudAt_26 : decode cX2_loudAt 26 = .ok (.ireturn, 1) := by decide +kernel
theorem dX2_loudOn_0 : decode cX2_loudOn 0 = .ok (.aload_n 0, 1) := by decide +kernel
theorem dX2_loudOn_1 : decode cX2_loudOn 1 = .ok (.iload_n 1, 1) := by decide +kernel
theorem dX2_loudOn_2 : decode cX2_loudOn 2 = .ok (.invokestatic 58, 3) := by decide +kernel
theorem dX2_loudOn_5 : decode cX2_loudOn 5 = .ok (.invokevirtual 111, 3) := by decide +kernel
theorem dX2_loudOn_8 : decode cX2_loudOn 8 = .ok (.ifCond .eq 11, 3) := by decide +kernel
theorem dX2_loudOn_11 : decode cX2_loudOn 11 = .ok (.aload_n 0, 1) := by decide +kernel
theorem dX2_loudOn_12 : decode cX2_loudOn 12 = .ok (.iload_n 1, 1) := by decide +kernel
theorem dX2_loudOn_13 : decode cX2_loudOn 13 = .ok (.invokevirtual 115, 3) := by decide +kernel
theorem dX2_loudOn_16 : decode cX2_loudOn 16 = .ok (.goto 4, 3) := by decide +kernel
theorem dX2_loudOn_19 : decode cX2_loudOn 19 = .ok (.iconst 0, 1) := by decide +kernel
theorem dX2_loudOn_20 : decode cX2_loudOn 20 = .ok (.ireturn, 1) := by decide +kernel
theorem dX2_stoneOf_0 : decode cX2_stoneOf 0 = .ok (.aload_n 0, 1) := by decide +kernel
theorem dX2_stoneOf_1 : decode cX2_stoneOf 1 = .ok (.aload_n 0, 1) := by decide +kernel
theorem dX2_stoneOf_2 : decode cX2_stoneOf 2 = .ok (.iload_n 1, 1) := by decide +kernel
theorem dX2_stoneOf_3 : decode cX2_stoneOf 3 = .ok (.invokevirtual 95, 3) := by decide +kernel
theorem dX2_stoneOf_6 : decode cX2_stoneOf 6 = .ok (.invokevirtual 111, 3) := by decide +kernel
theorem dX2_stoneOf_9 : decode cX2_stoneOf 9 = .ok (.ifCond .eq 12, 3) := by decide +kernel
theorem dX2_stoneOf_12 : decode cX2_stoneOf 12 = .ok (.aload_n 0, 1) := by decide +kernel
theorem dX2_stoneOf_13 : decode cX2_stoneOf 13 = .ok (.getfield 16, 3) := by decide +kernel
theorem dX2_stoneOf_16 : decode cX2_stoneOf 16 = .ok (.iload_n 1, 1) := by decide +kernel
theorem dX2_stoneOf_17 : decode cX2_stoneOf 17 = .ok (.iaload, 1) := by decide +kernel
theorem dX2_stoneOf_18 : decode cX2_stoneOf 18 = .ok (.goto 4, 3) := by decide +kernel
theorem dX2_stoneOf_21 : decode cX2_stoneOf 21 = .ok (.iconst 0, 1) := by decide +kernel
theorem dX2_stoneOf_22 : decode cX2_stoneOf 22 = .ok (.ireturn, 1) := by decide +kernel
theorem dX2_ownerOf_0 : decode cX2_ownerOf 0 = .ok (.aload_n 0, 1) := by decide +kernel
theorem dX2_ownerOf_1 : decode cX2_ownerOf 1 = .ok (.aload_n 0, 1) := by decide +kernel
theorem dX2_ownerOf_2 : decode cX2_ownerOf 2 = .ok (.iload_n 1, 1) := by decide +kernel
theorem dX2_ownerOf_3 : decode cX2_ownerOf 3 = .ok (.invokevirtual 95, 3) := by decide +kernel
theorem dX2_ownerOf_6 : decode cX2_ownerOf 6 = .ok (.invokevirtual 111, 3) := by decide +kernel
theorem dX2_ownerOf_9 : decode cX2_ownerOf 9 = .ok (.ifCond .eq 15, 3) := by decide +kernel
theorem dX2_ownerOf_12 : decode cX2_ownerOf 12 = .ok (.aload_n 0, 1) := by decide +kernel
theorem dX2_ownerOf_13 : decode cX2_ownerOf 13 = .ok (.getfield 22, 3) := by decide +kernel
theorem dX2_ownerOf_16 : decode cX2_ownerOf 16 = .ok (.bipush 7, 2) := by decide +kernel
theorem dX2_ownerOf_18 : decode cX2_ownerOf 18 = .ok (.iload_n 1, 1) := by decide +kernel
theorem dX2_ownerOf_19 : decode cX2_ownerOf 19 = .ok (.iadd, 1) := by decide +kernel
theorem dX2_ownerOf_20 : decode cX2_ownerOf 20 = .ok (.iaload, 1) := by decide +kernel
theorem dX2_ownerOf_21 : decode cX2_ownerOf 21 = .ok (.goto 4, 3) := by decide +kernel
theorem dX2_ownerOf_24 : decode cX2_ownerOf 24 = .ok (.iconst 0, 1) := by decide +kernel
theorem dX2_ownerOf_25 : decode cX2_ownerOf 25 = .ok (.ireturn, 1) := by decide +kernel
theorem dX2_thrownBack_0 : decode cX2_thrownBack 0 = .ok (.aload_n 0, 1) := by decide +kernel
theorem dX2_thrownBack_1 : decode cX2_thrownBack 1 = .ok (.aload_n 0, 1) := by decide +kernel
theorem dX2_thrownBack_2 : decode cX2_thrownBack 2 = .ok (.iload_n 1, 1) := by decide +kernel
theorem dX2_thrownBack_3 : decode cX2_thrownBack 3 = .ok (.invokevirtual 95, 3) := by decide +kernel
theorem dX2_thrownBack_6 : decode cX2_thrownBack 6 = .ok (.invokevirtual 111, 3) := by decide +kernel
theorem dX2_thrownBack_9 : decode cX2_thrownBack 9 = .ok (.ifCond .eq 15, 3) := by decide +kernel
theorem dX2_thrownBack_12 : decode cX2_thrownBack 12 = .ok (.aload_n 0, 1) := by decide +kernel
theorem dX2_thrownBack_13 : decode cX2_thrownBack 13 = .ok (.getfield 22, 3) := by decide +kernel
theorem dX2_thrownBack_16 : decode cX2_thrownBack 16 = .ok (.bipush 17, 2) := by decide +kernel
theorem dX2_thrownBack_18 : decode cX2_thrownBack 18 = .ok (.iload_n 1, 1) := by decide +kernel
theorem dX2_thrownBack_19 : decode cX2_thrownBack 19 = .ok (.iadd, 1) := by decide +kernel
theorem dX2_thrownBack_20 : decode cX2_thrownBack 20 = .ok (.iaload, 1) := by decide +kernel
theorem dX2_thrownBack_21 : decode cX2_thrownBack 21 = .ok (.goto 4, 3) := by decide +kernel
theorem dX2_thrownBack_24 : decode cX2_thrownBack 24 = .ok (.iconst 0, 1) := by decide +kernel
theorem dX2_thrownBack_25 : decode cX2_thrownBack 25 = .ok (.ireturn, 1) := by decide +kernel
theorem dX2_coinsOf_0 : decode cX2_coinsOf 0 = .ok (.aload_n 0, 1) := by decide +kernel
theorem dX2_coinsOf_1 : decode cX2_coinsOf 1 = .ok (.iload_n 1, 1) := by decide +kernel
theorem dX2_coinsOf_2 : decode cX2_coinsOf 2 = .ok (.invokestatic 89, 3) := by decide +kernel
theorem dX2_coinsOf_5 : decode cX2_coinsOf 5 = .ok (.invokevirtual 111, 3) := by decide +kernel
theorem dX2_coinsOf_8 : decode cX2_coinsOf 8 = .ok (.ifCond .eq 14, 3) := by decide +kernel
theorem dX2_coinsOf_11 : decode cX2_coinsOf 11 = .ok (.aload_n 0, 1) := by decide +kernel
theorem dX2_coinsOf_12 : decode cX2_coinsOf 12 = .ok (.getfield 22, 3) := by decide +kernel
theorem dX2_coinsOf_15 : decode cX2_coinsOf 15 = .ok (.iconst 3, 1) := by decide +kernel
theorem dX2_coinsOf_16 : decode cX2_coinsOf 16 = .ok (.iload_n 1, 1) := by decide +kernel
theorem dX2_coinsOf_17 : decode cX2_coinsOf 17 = .ok (.iadd, 1) := by decide +kernel
theorem dX2_coinsOf_18 : decode cX2_coinsOf 18 = .ok (.iaload, 1) := by decide +kernel
theorem dX2_coinsOf_19 : decode cX2_coinsOf 19 = .ok (.goto 4, 3) := by decide +kernel
theorem dX2_coinsOf_22 : decode cX2_coinsOf 22 = .ok (.iconst 0, 1) := by decide +kernel
theorem dX2_coinsOf_23 : decode cX2_coinsOf 23 = .ok (.ireturn, 1) := by decide +kernel
theorem dX2_manyOf_0 : decode cX2_manyOf 0 = .ok (.iconst 0, 1) := by decide +kernel
theorem dX2_manyOf_1 : decode cX2_manyOf 1 = .ok (.istore_n 2, 1) := by decide +kernel
theorem dX2_manyOf_2 : decode cX2_manyOf 2 = .ok (.iconst 0, 1) := by decide +kernel
theorem dX2_manyOf_3 : decode cX2_manyOf 3 = .ok (.istore_n 3, 1) := by decide +kernel
theorem dX2_manyOf_4 : decode cX2_manyOf 4 = .ok (.iload_n 3, 1) := by decide +kernel
theorem dX2_manyOf_5 : decode cX2_manyOf 5 = .ok (.aload_n 0, 1) := by decide +kernel
theorem dX2_manyOf_6 : decode cX2_manyOf 6 = .ok (.getfield 40, 3) := by decide +kernel
theorem dX2_manyOf_9 : decode cX2_manyOf 9 = .ok (.if_icmp .ge 30, 3) := by decide +kernel
theorem dX2_manyOf_12 : decode cX2_manyOf 12 = .ok (.iload_n 2, 1) := by decide +kernel
theorem dX2_manyOf_13 : decode cX2_manyOf 13 = .ok (.aload_n 0, 1) := by decide +kernel
theorem dX2_manyOf_14 : decode cX2_manyOf 14 = .ok (.getfield 22, 3) := by decide +kernel
theorem dX2_manyOf_17 : decode cX2_manyOf 17 = .ok (.bipush 7, 2) := by decide +kernel
theorem dX2_manyOf_19 : decode cX2_manyOf 19 = .ok (.iload_n 3, 1) := by decide +kernel
theorem dX2_manyOf_20 : decode cX2_manyOf 20 = .ok (.iadd, 1) := by decide +kernel
theorem dX2_manyOf_21 : decode cX2_manyOf 21 = .ok (.iaload, 1) := by decide +kernel
theorem dX2_manyOf_22 : decode cX2_manyOf 22 = .ok (.iload_n 1, 1) := by decide +kernel
theorem dX2_manyOf_23 : decode cX2_manyOf 23 = .ok (.if_icmp .ne 7, 3) := by decide +kernel
theorem dX2_manyOf_26 : decode cX2_manyOf 26 = .ok (.iconst 1, 1) := by decide +kernel
theorem dX2_manyOf_27 : decode cX2_manyOf 27 = .ok (.goto 4, 3) := by decide +kernel
theorem dX2_manyOf_30 : decode cX2_manyOf 30 = .ok (.iconst 0, 1) := by decide +kernel
theorem dX2_manyOf_31 : decode cX2_manyOf 31 = .ok (.iadd, 1) := by decide +kernel
theorem dX2_manyOf_32 : decode cX2_manyOf 32 = .ok (.istore_n 2, 1) := by decide +kernel
theorem dX2_manyOf_33 : decode cX2_manyOf 33 = .ok (.iinc 3 1, 3) := by decide +kernel
theorem dX2_manyOf_36 : decode cX2_manyOf 36 = .ok (.goto (-32), 3) := by decide +kernel
theorem dX2_manyOf_39 : decode cX2_manyOf 39 = .ok (.iload_n 2, 1) := by decide +kernel
theorem dX2_manyOf_40 : decode cX2_manyOf 40 = .ok (.ireturn, 1) := by decide +kernel
theorem dX2_wallsOf_0 : decode cX2_wallsOf 0 = .ok (.aload_n 0, 1) := by decide +kernel
theorem dX2_wallsOf_1 : decode cX2_wallsOf 1 = .ok (.iload_n 1, 1) := by decide +kernel
theorem dX2_wallsOf_2 : decode cX2_wallsOf 2 = .ok (.invokestatic 89, 3) := by decide +kernel
theorem dX2_wallsOf_5 : decode cX2_wallsOf 5 = .ok (.invokevirtual 111, 3) := by decide +kernel
theorem dX2_wallsOf_8 : decode cX2_wallsOf 8 = .ok (.ifCond .eq 11, 3) := by decide +kernel
theorem dX2_wallsOf_11 : decode cX2_wallsOf 11 = .ok (.aload_n 0, 1) := by decide +kernel
theorem dX2_wallsOf_12 : decode cX2_wallsOf 12 = .ok (.iload_n 1, 1) := by decide +kernel
theorem dX2_wallsOf_13 : decode cX2_wallsOf 13 = .ok (.invokevirtual 118, 3) := by decide +kernel
theorem dX2_wallsOf_16 : decode cX2_wallsOf 16 = .ok (.goto 4, 3) := by decide +kernel
theorem dX2_wallsOf_19 : decode cX2_wallsOf 19 = .ok (.iconst 0, 1) := by decide +kernel
theorem dX2_wallsOf_20 : decode cX2_wallsOf 20 = .ok (.ireturn, 1) := by decide +kernel
theorem dX2_silentFor_0 : decode cX2_silentFor 0 = .ok (.aload_n 0, 1) := by decide +kernel
theorem dX2_silentFor_1 : decode cX2_silentFor 1 = .ok (.iload_n 1, 1) := by decide +kernel
theorem dX2_silentFor_2 : decode cX2_silentFor 2 = .ok (.invokestatic 89, 3) := by decide +kernel
theorem dX2_silentFor_5 : decode cX2_silentFor 5 = .ok (.invokevirtual 111, 3) := by decide +kernel
theorem dX2_silentFor_8 : decode cX2_silentFor 8 = .ok (.ifCond .eq 14, 3) := by decide +kernel
theorem dX2_silentFor_11 : decode cX2_silentFor 11 = .ok (.aload_n 0, 1) := by decide +kernel
theorem dX2_silentFor_12 : decode cX2_silentFor 12 = .ok (.getfield 22, 3) := by decide +kernel
theorem dX2_silentFor_15 : decode cX2_silentFor 15 = .ok (.iconst 5, 1) := by decide +kernel
theorem dX2_silentFor_16 : decode cX2_silentFor 16 = .ok (.iload_n 1, 1) := by decide +kernel
theorem dX2_silentFor_17 : decode cX2_silentFor 17 = .ok (.iadd, 1) := by decide +kernel
theorem dX2_silentFor_18 : decode cX2_silentFor 18 = .ok (.iaload, 1) := by decide +kernel
theorem dX2_silentFor_19 : decode cX2_silentFor 19 = .ok (.goto 4, 3) := by decide +kernel
theorem dX2_silentFor_22 : decode cX2_silentFor 22 = .ok (.iconst 0, 1) := by decide +kernel
theorem dX2_silentFor_23 : decode cX2_silentFor 23 = .ok (.ireturn, 1) := by decide +kernel
theorem dX2_inherited_0 : decode cX2_inherited 0 = .ok (.aload_n 0, 1) := by decide +kernel
theorem dX2_inherited_1 : decode cX2_inherited 1 = .ok (.aload_n 0, 1) := by decide +kernel
theorem dX2_inherited_2 : decode cX2_inherited 2 = .ok (.getfield 22, 3) := by decide +kernel
theorem dX2_inherited_5 : decode cX2_inherited 5 = .ok (.iconst 2, 1) := by decide +kernel
theorem dX2_inherited_6 : decode cX2_inherited 6 = .ok (.iaload, 1) := by decide +kernel
theorem dX2_inherited_7 : decode cX2_inherited 7 = .ok (.invokevirtual 108, 3) := by decide +kernel
theorem dX2_inherited_10 : decode cX2_inherited 10 = .ok (.ireturn, 1) := by decide +kernel
theorem dX2_loudnessOf_0 : decode cX2_loudnessOf 0 = .ok (.aload_n 0, 1) := by decide +kernel
theorem dX2_loudnessOf_1 : decode cX2_loudnessOf 1 = .ok (.aload_n 0, 1) := by decide +kernel
theorem dX2_loudnessOf_2 : decode cX2_loudnessOf 2 = .ok (.iload_n 1, 1) := by decide +kernel
theorem dX2_loudnessOf_3 : decode cX2_loudnessOf 3 = .ok (.invokevirtual 121, 3) := by decide +kernel
theorem dX2_loudnessOf_6 : decode cX2_loudnessOf 6 = .ok (.invokevirtual 111, 3) := by decide +kernel
theorem dX2_loudnessOf_9 : decode cX2_loudnessOf 9 = .ok (.ifCond .eq 15, 3) := by decide +kernel
theorem dX2_loudnessOf_12 : decode cX2_loudnessOf 12 = .ok (.aload_n 0, 1) := by decide +kernel
theorem dX2_loudnessOf_13 : decode cX2_loudnessOf 13 = .ok (.getfield 22, 3) := by decide +kernel
theorem dX2_loudnessOf_16 : decode cX2_loudnessOf 16 = .ok (.bipush 27, 2) := by decide +kernel
theorem dX2_loudnessOf_18 : decode cX2_loudnessOf 18 = .ok (.iload_n 1, 1) := by decide +kernel
theorem dX2_loudnessOf_19 : decode cX2_loudnessOf 19 = .ok (.iadd, 1) := by decide +kernel
theorem dX2_loudnessOf_20 : decode cX2_loudnessOf 20 = .ok (.iaload, 1) := by decide +kernel
theorem dX2_loudnessOf_21 : decode cX2_loudnessOf 21 = .ok (.goto 4, 3) := by decide +kernel
theorem dX2_loudnessOf_24 : decode cX2_loudnessOf 24 = .ok (.iconst 0, 1) := by decide +kernel
theorem dX2_loudnessOf_25 : decode cX2_loudnessOf 25 = .ok (.ireturn, 1) := by decide +kernel
theorem dX2_place_0 : decode cX2_place 0 = .ok (.aload_n 0, 1) := by decide +kernel
theorem dX2_place_1 : decode cX2_place 1 = .ok (.iload_n 1, 1) := by decide +kernel
theorem dX2_place_2 : decode cX2_place 2 = .ok (.invokevirtual 66, 3) := by decide +kernel
theorem dX2_place_5 : decode cX2_place 5 = .ok (.ifCond .eq 15, 3) := by decide +kernel
theorem dX2_place_8 : decode cX2_place 8 = .ok (.aload_n 0, 1) := by decide +kernel
theorem dX2_place_9 : decode cX2_place 9 = .ok (.getfield 22, 3) := by decide +kernel
theorem dX2_place_12 : decode cX2_place 12 = .ok (.bipush 67, 2) := by decide +kernel
theorem dX2_place_14 : decode cX2_place 14 = .ok (.iload_n 1, 1) := by decide +kernel
theorem dX2_place_15 : decode cX2_place 15 = .ok (.iadd, 1) := by decide +kernel
theorem dX2_place_16 : decode cX2_place 16 = .ok (.iaload, 1) := by decide +kernel
theorem dX2_place_17 : decode cX2_place 17 = .ok (.goto 4, 3) := by decide +kernel
theorem dX2_place_20 : decode cX2_place 20 = .ok (.iconst (-1), 1) := by decide +kernel
theorem dX2_place_21 : decode cX2_place 21 = .ok (.ireturn, 1) := by decide +kernel
theorem dX2_placeOf_0 : decode cX2_placeOf 0 = .ok (.aload_n 0, 1) := by decide +kernel
theorem dX2_placeOf_1 : decode cX2_placeOf 1 = .ok (.aload_n 0, 1) := by decide +kernel
theorem dX2_placeOf_2 : decode cX2_placeOf 2 = .ok (.iload_n 1, 1) := by decide +kernel
theorem dX2_placeOf_3 : decode cX2_placeOf 3 = .ok (.invokevirtual 121, 3) := by decide +kernel
theorem dX2_placeOf_6 : decode cX2_placeOf 6 = .ok (.invokevirtual 111, 3) := by decide +kernel
theorem dX2_placeOf_9 : decode cX2_placeOf 9 = .ok (.ifCond .eq 11, 3) := by decide +kernel
theorem dX2_placeOf_12 : decode cX2_placeOf 12 = .ok (.aload_n 0, 1) := by decide +kernel
theorem dX2_placeOf_13 : decode cX2_placeOf 13 = .ok (.iload_n 1, 1) := by decide +kernel
theorem dX2_placeOf_14 : decode cX2_placeOf 14 = .ok (.invokevirtual 124, 3) := by decide +kernel
theorem dX2_placeOf_17 : decode cX2_placeOf 17 = .ok (.goto 4, 3) := by decide +kernel
theorem dX2_placeOf_20 : decode cX2_placeOf 20 = .ok (.iconst 0, 1) := by decide +kernel
theorem dX2_placeOf_21 : decode cX2_placeOf 21 = .ok (.ireturn, 1) := by decide +kernel
theorem dX2_isRight_0 : decode cX2_isRight 0 = .ok (.aload_n 0, 1) := by decide +kernel
theorem dX2_isRight_1 : decode cX2_isRight 1 = .ok (.iload_n 1, 1) := by decide +kernel
theorem dX2_isRight_2 : decode cX2_isRight 2 = .ok (.invokevirtual 66, 3) := by decide +kernel
theorem dX2_isRight_5 : decode cX2_isRight 5 = .ok (.ifCond .eq 19, 3) := by decide +kernel
theorem dX2_isRight_8 : decode cX2_isRight 8 = .ok (.aload_n 0, 1) := by decide +kernel
theorem dX2_isRight_9 : decode cX2_isRight 9 = .ok (.getfield 22, 3) := by decide +kernel
theorem dX2_isRight_12 : decode cX2_isRight 12 = .ok (.bipush 107, 2) := by decide +kernel
theorem dX2_isRight_14 : decode cX2_isRight 14 = .ok (.iload_n 1, 1) := by decide +kernel
theorem dX2_isRight_15 : decode cX2_isRight 15 = .ok (.iadd, 1) := by decide +kernel
theorem dX2_isRight_16 : decode cX2_isRight 16 = .ok (.iaload, 1) := by decide +kernel
theorem dX2_isRight_17 : decode cX2_isRight 17 = .ok (.ifCond .le 7, 3) := by decide +kernel
theorem dX2_isRight_20 : decode cX2_isRight 20 = .ok (.iconst 1, 1) := by decide +kernel
theorem dX2_isRight_21 : decode cX2_isRight 21 = .ok (.goto 4, 3) := by decide +kernel
theorem dX2_isRight_24 : decode cX2_isRight 24 = .ok (.iconst 0, 1) := by decide +kernel
theorem dX2_isRight_25 : decode cX2_isRight 25 = .ok (.ireturn, 1) := by decide +kernel
theorem dX2_goesRight_0 : decode cX2_goesRight 0 = .ok (.aload_n 0, 1) := by decide +kernel
theorem dX2_goesRight_1 : decode cX2_goesRight 1 = .ok (.aload_n 0, 1) := by decide +kernel
theorem dX2_goesRight_2 : decode cX2_goesRight 2 = .ok (.iload_n 1, 1) := by decide +kernel
theorem dX2_goesRight_3 : decode cX2_goesRight 3 = .ok (.invokevirtual 121, 3) := by decide +kernel
theorem dX2_goesRight_6 : decode cX2_goesRight 6 = .ok (.invokevirtual 111, 3) := by decide +kernel
theorem dX2_goesRight_9 : decode cX2_goesRight 9 = .ok (.ifCond .eq 15, 3) := by decide +kernel
theorem dX2_goesRight_12 : decode cX2_goesRight 12 = .ok (.aload_n 0, 1) := by decide +kernel
theorem dX2_goesRight_13 : decode cX2_goesRight 13 = .ok (.iload_n 1, 1) := by decide +kernel
theorem dX2_goesRight_14 : decode cX2_goesRight 14 = .ok (.invokevirtual 127, 3) := by decide +kernel
theorem dX2_goesRight_17 : decode cX2_goesRight 17 = .ok (.ifCond .eq 7, 3) := by decide +kernel
theorem dX2_goesRight_20 : decode cX2_goesRight 20 = .ok (.iconst 1, 1) := by decide +kernel
theorem dX2_goesRight_21 : decode cX2_goesRight 21 = .ok (.goto 4, 3) := by decide +kernel
theorem dX2_goesRight_24 : decode cX2_goesRight 24 = .ok (.iconst 0, 1) := by decide +kernel
theorem dX2_goesRight_25 : decode cX2_goesRight 25 = .ok (.ireturn, 1) := by decide +kernel
theorem dX2_turnsOf_0 : decode cX2_turnsOf 0 = .ok (.aload_n 0, 1) := by decide +kernel
theorem dX2_turnsOf_1 : decode cX2_turnsOf 1 = .ok (.aload_n 0, 1) := by decide +kernel
theorem dX2_turnsOf_2 : decode cX2_turnsOf 2 = .ok (.iload_n 1, 1) := by decide +kernel
theorem dX2_turnsOf_3 : decode cX2_turnsOf 3 = .ok (.invokevirtual 121, 3) := by decide +kernel
theorem dX2_turnsOf_6 : decode cX2_turnsOf 6 = .ok (.invokevirtual 111, 3) := by decide +kernel
theorem dX2_turnsOf_9 : decode cX2_turnsOf 9 = .ok (.ifCond .eq 16, 3) := by decide +kernel
theorem dX2_turnsOf_12 : decode cX2_turnsOf 12 = .ok (.aload_n 0, 1) := by decide +kernel
theorem dX2_turnsOf_13 : decode cX2_turnsOf 13 = .ok (.getfield 22, 3) := by decide +kernel
theorem dX2_turnsOf_16 : decode cX2_turnsOf 16 = .ok (.sipush 147, 3) := by decide +kernel
theorem dX2_turnsOf_19 : decode cX2_turnsOf 19 = .ok (.iload_n 1, 1) := by decide +kernel
theorem dX2_turnsOf_20 : decode cX2_turnsOf 20 = .ok (.iadd, 1) := by decide +kernel
theorem dX2_turnsOf_21 : decode cX2_turnsOf 21 = .ok (.iaload, 1) := by decide +kernel
theorem dX2_turnsOf_22 : decode cX2_turnsOf 22 = .ok (.goto 4, 3) := by decide +kernel
theorem dX2_turnsOf_25 : decode cX2_turnsOf 25 = .ok (.iconst 0, 1) := by decide +kernel
theorem dX2_turnsOf_26 : decode cX2_turnsOf 26 = .ok (.ireturn, 1) := by decide +kernel
theorem dX2_next_0 : decode cX2_next 0 = .ok (.iload_n 1, 1) := by decide +kernel
theorem dX2_next_1 : decode cX2_next 1 = .ok (.iload_n 2, 1) := by decide +kernel
theorem dX2_next_2 : decode cX2_next 2 = .ok (.iadd, 1) := by decide +kernel
theorem dX2_next_3 : decode cX2_next 3 = .ok (.istore_n 3, 1) := by decide +kernel
theorem dX2_next_4 : decode cX2_next 4 = .ok (.iload_n 3, 1) := by decide +kernel
theorem dX2_next_5 : decode cX2_next 5 = .ok (.invokestatic 58, 3) := by decide +kernel
theorem dX2_next_8 : decode cX2_next 8 = .ok (.ifCond .eq 22, 3) := by decide +kernel
theorem dX2_next_11 : decode cX2_next 11 = .ok (.aload_n 0, 1) := by decide +kernel
theorem dX2_next_12 : decode cX2_next 12 = .ok (.getfield 13, 3) := by decide +kernel
theorem dX2_next_15 : decode cX2_next 15 = .ok (.iload_n 3, 1) := by decide +kernel
theorem dX2_next_16 : decode cX2_next 16 = .ok (.iaload, 1) := by decide +kernel
theorem dX2_next_17 : decode cX2_next 17 = .ok (.iconst (-1), 1) := by decide +kernel
theorem dX2_next_18 : decode cX2_next 18 = .ok (.if_icmp .eq 5, 3) := by decide +kernel
theorem dX2_next_21 : decode cX2_next 21 = .ok (.iload_n 3, 1) := by decide +kernel
theorem dX2_next_22 : decode cX2_next 22 = .ok (.ireturn, 1) := by decide +kernel
theorem dX2_next_23 : decode cX2_next 23 = .ok (.iload_n 3, 1) := by decide +kernel
theorem dX2_next_24 : decode cX2_next 24 = .ok (.iload_n 2, 1) := by decide +kernel
theorem dX2_next_25 : decode cX2_next 25 = .ok (.iadd, 1) := by decide +kernel
theorem dX2_next_26 : decode cX2_next 26 = .ok (.istore_n 3, 1) := by decide +kernel
theorem dX2_next_27 : decode cX2_next 27 = .ok (.goto (-23), 3) := by decide +kernel
theorem dX2_next_30 : decode cX2_next 30 = .ok (.iconst (-1), 1) := by decide +kernel
theorem dX2_next_31 : decode cX2_next 31 = .ok (.ireturn, 1) := by decide +kernel
theorem dX2_nextWall_0 : decode cX2_nextWall 0 = .ok (.aload_n 0, 1) := by decide +kernel
theorem dX2_nextWall_1 : decode cX2_nextWall 1 = .ok (.iload_n 1, 1) := by decide +kernel
theorem dX2_nextWall_2 : decode cX2_nextWall 2 = .ok (.invokestatic 58, 3) := by decide +kernel
theorem dX2_nextWall_5 : decode cX2_nextWall 5 = .ok (.invokevirtual 111, 3) := by decide +kernel
theorem dX2_nextWall_8 : decode cX2_nextWall 8 = .ok (.ifCond .eq 20, 3) := by decide +kernel
theorem dX2_nextWall_11 : decode cX2_nextWall 11 = .ok (.aload_n 0, 1) := by decide +kernel
theorem dX2_nextWall_12 : decode cX2_nextWall 12 = .ok (.iload_n 1, 1) := by decide +kernel
theorem dX2_nextWall_13 : decode cX2_nextWall 13 = .ok (.iload_n 2, 1) := by decide +kernel
theorem dX2_nextWall_14 : decode cX2_nextWall 14 = .ok (.ifCond .eq 7, 3) := by decide +kernel
theorem dX2_nextWall_17 : decode cX2_nextWall 17 = .ok (.iconst 1, 1) := by decide +kernel
theorem dX2_nextWall_18 : decode cX2_nextWall 18 = .ok (.goto 4, 3) := by decide +kernel
theorem dX2_nextWall_21 : decode cX2_nextWall 21 = .ok (.iconst (-1), 1) := by decide +kernel
theorem dX2_nextWall_22 : decode cX2_nextWall 22 = .ok (.invokevirtual 130, 3) := by decide +kernel
theorem dX2_nextWall_25 : decode cX2_nextWall 25 = .ok (.goto 4, 3) := by decide +kernel
theorem dX2_nextWall_28 : decode cX2_nextWall 28 = .ok (.iconst 0, 1) := by decide +kernel
theorem dX2_nextWall_29 : decode cX2_nextWall 29 = .ok (.ireturn, 1) := by decide +kernel
theorem dX2_untilGone_0 : decode cX2_untilGone 0 = .ok (.aload_n 0, 1) := by decide +kernel
theorem dX2_untilGone_1 : decode cX2_untilGone 1 = .ok (.invokevirtual 133, 3) := by decide +kernel
theorem dX2_untilGone_4 : decode cX2_untilGone 4 = .ok (.iconst 0, 1) := by decide +kernel
theorem dX2_untilGone_5 : decode cX2_untilGone 5 = .ok (.istore_n 2, 1) := by decide +kernel
theorem dX2_untilGone_6 : decode cX2_untilGone 6 = .ok (.aload_n 0, 1) := by decide +kernel
theorem dX2_untilGone_7 : decode cX2_untilGone 7 = .ok (.iload_n 1, 1) := by decide +kernel
theorem dX2_untilGone_8 : decode cX2_untilGone 8 = .ok (.invokevirtual 66, 3) := by decide +kernel
theorem dX2_untilGone_11 : decode cX2_untilGone 11 = .ok (.ifCond .eq 13, 3) := by decide +kernel
theorem dX2_untilGone_14 : decode cX2_untilGone 14 = .ok (.aload_n 0, 1) := by decide +kernel
theorem dX2_untilGone_15 : decode cX2_untilGone 15 = .ok (.invokevirtual 86, 3) := by decide +kernel
theorem dX2_untilGone_18 : decode cX2_untilGone 18 = .ok (.iinc 2 1, 3) := by decide +kernel
theorem dX2_untilGone_21 : decode cX2_untilGone 21 = .ok (.goto (-15), 3) := by decide +kernel
theorem dX2_untilGone_24 : decode cX2_untilGone 24 = .ok (.aload_n 0, 1) := by decide +kernel
theorem dX2_untilGone_25 : decode cX2_untilGone 25 = .ok (.invokevirtual 136, 3) := by decide +kernel
theorem dX2_untilGone_28 : decode cX2_untilGone 28 = .ok (.iload_n 2, 1) := by decide +kernel
theorem dX2_untilGone_29 : decode cX2_untilGone 29 = .ok (.ireturn, 1) := by decide +kernel
theorem dX2_beatsUntilGone_0 : decode cX2_beatsUntilGone 0 = .ok (.aload_n 0, 1) := by decide +kernel
theorem dX2_beatsUntilGone_1 : decode cX2_beatsUntilGone 1 = .ok (.aload_n 0, 1) := by decide +kernel
theorem dX2_beatsUntilGone_2 : decode cX2_beatsUntilGone 2 = .ok (.iload_n 1, 1) := by decide +kernel
theorem dX2_beatsUntilGone_3 : decode cX2_beatsUntilGone 3 = .ok (.invokevirtual 121, 3) := by decide +kernel
theorem dX2_beatsUntilGone_6 : decode cX2_beatsUntilGone 6 = .ok (.invokevirtual 111, 3) := by decide +kernel
theorem dX2_beatsUntilGone_9 : decode cX2_beatsUntilGone 9 = .ok (.ifCond .eq 11, 3) := by decide +kernel
theorem dX2_beatsUntilGone_12 : decode cX2_beatsUntilGone 12 = .ok (.aload_n 0, 1) := by decide +kernel
theorem dX2_beatsUntilGone_13 : decode cX2_beatsUntilGone 13 = .ok (.iload_n 1, 1) := by decide +kernel
theorem dX2_beatsUntilGone_14 : decode cX2_beatsUntilGone 14 = .ok (.invokevirtual 139, 3) := by decide +kernel
theorem dX2_beatsUntilGone_17 : decode cX2_beatsUntilGone 17 = .ok (.goto 4, 3) := by decide +kernel
theorem dX2_beatsUntilGone_20 : decode cX2_beatsUntilGone 20 = .ok (.iconst 0, 1) := by decide +kernel
theorem dX2_beatsUntilGone_21 : decode cX2_beatsUntilGone 21 = .ok (.ireturn, 1) := by decide +kernel
theorem dX2_untilQuiet_0 : decode cX2_untilQuiet 0 = .ok (.aload_n 0, 1) := by decide +kernel
theorem dX2_untilQuiet_1 : decode cX2_untilQuiet 1 = .ok (.invokevirtual 133, 3) := by decide +kernel
theorem dX2_untilQuiet_4 : decode cX2_untilQuiet 4 = .ok (.iconst 0, 1) := by decide +kernel
theorem dX2_untilQuiet_5 : decode cX2_untilQuiet 5 = .ok (.istore_n 1, 1) := by decide +kernel
theorem dX2_untilQuiet_6 : decode cX2_untilQuiet 6 = .ok (.aload_n 0, 1) := by decide +kernel
theorem dX2_untilQuiet_7 : decode cX2_untilQuiet 7 = .ok (.invokevirtual 98, 3) := by decide +kernel
theorem dX2_untilQuiet_10 : decode cX2_untilQuiet 10 = .ok (.ifCond .le 13, 3) := by decide +kernel
theorem dX2_untilQuiet_13 : decode cX2_untilQuiet 13 = .ok (.aload_n 0, 1) := by decide +kernel
theorem dX2_untilQuiet_14 : decode cX2_untilQuiet 14 = .ok (.invokevirtual 86, 3) := by decide +kernel
theorem dX2_untilQuiet_17 : decode cX2_untilQuiet 17 = .ok (.iinc 1 1, 3) := by decide +kernel
theorem dX2_untilQuiet_20 : decode cX2_untilQuiet 20 = .ok (.goto (-14), 3) := by decide +kernel
theorem dX2_untilQuiet_23 : decode cX2_untilQuiet 23 = .ok (.aload_n 0, 1) := by decide +kernel
theorem dX2_untilQuiet_24 : decode cX2_untilQuiet 24 = .ok (.invokevirtual 136, 3) := by decide +kernel
theorem dX2_untilQuiet_27 : decode cX2_untilQuiet 27 = .ok (.iload_n 1, 1) := by decide +kernel
theorem dX2_untilQuiet_28 : decode cX2_untilQuiet 28 = .ok (.ireturn, 1) := by decide +kernel
theorem dX2_beatsUntilQuiet_0 : decode cX2_beatsUntilQuiet 0 = .ok (.aload_n 0, 1) := by decide +kernel
theorem dX2_beatsUntilQuiet_1 : decode cX2_beatsUntilQuiet 1 = .ok (.aload_n 0, 1) := by decide +kernel
theorem dX2_beatsUntilQuiet_2 : decode cX2_beatsUntilQuiet 2 = .ok (.invokevirtual 142, 3) := by decide +kernel
theorem dX2_beatsUntilQuiet_5 : decode cX2_beatsUntilQuiet 5 = .ok (.invokevirtual 108, 3) := by decide +kernel
theorem dX2_beatsUntilQuiet_8 : decode cX2_beatsUntilQuiet 8 = .ok (.ireturn, 1) := by decide +kernel
theorem dX2_earns_0 : decode cX2_earns 0 = .ok (.aload_n 0, 1) := by decide +kernel
theorem dX2_earns_1 : decode cX2_earns 1 = .ok (.invokevirtual 133, 3) := by decide +kernel
theorem dX2_earns_4 : decode cX2_earns 4 = .ok (.aload_n 0, 1) := by decide +kernel
theorem dX2_earns_5 : decode cX2_earns 5 = .ok (.iload_n 2, 1) := by decide +kernel
theorem dX2_earns_6 : decode cX2_earns 6 = .ok (.invokevirtual 105, 3) := by decide +kernel
theorem dX2_earns_9 : decode cX2_earns 9 = .ok (.aload_n 0, 1) := by decide +kernel
theorem dX2_earns_10 : decode cX2_earns 10 = .ok (.getfield 22, 3) := by decide +kernel
theorem dX2_earns_13 : decode cX2_earns 13 = .ok (.iconst 3, 1) := by decide +kernel
theorem dX2_earns_14 : decode cX2_earns 14 = .ok (.iload_n 1, 1) := by decide +kernel
theorem dX2_earns_15 : decode cX2_earns 15 = .ok (.iadd, 1) := by decide +kernel
theorem dX2_earns_16 : decode cX2_earns 16 = .ok (.iaload, 1) := by decide +kernel
theorem dX2_earns_17 : decode cX2_earns 17 = .ok (.istore_n 3, 1) := by decide +kernel
theorem dX2_earns_18 : decode cX2_earns 18 = .ok (.aload_n 0, 1) := by decide +kernel
theorem dX2_earns_19 : decode cX2_earns 19 = .ok (.invokevirtual 136, 3) := by decide +kernel
theorem dX2_earns_22 : decode cX2_earns 22 = .ok (.iload_n 3, 1) := by decide +kernel
theorem dX2_earns_23 : decode cX2_earns 23 = .ok (.aload_n 0, 1) := by decide +kernel
theorem dX2_earns_24 : decode cX2_earns 24 = .ok (.getfield 22, 3) := by decide +kernel
theorem dX2_earns_27 : decode cX2_earns 27 = .ok (.iconst 3, 1) := by decide +kernel
theorem dX2_earns_28 : decode cX2_earns 28 = .ok (.iload_n 1, 1) := by decide +kernel
theorem dX2_earns_29 : decode cX2_earns 29 = .ok (.iadd, 1) := by decide +kernel
theorem dX2_earns_30 : decode cX2_earns 30 = .ok (.iaload, 1) := by decide +kernel
theorem dX2_earns_31 : decode cX2_earns 31 = .ok (.isub, 1) := by decide +kernel
theorem dX2_earns_32 : decode cX2_earns 32 = .ok (.ireturn, 1) := by decide +kernel
theorem dX2_coinsIn_0 : decode cX2_coinsIn 0 = .ok (.aload_n 0, 1) := by decide +kernel
theorem dX2_coinsIn_1 : decode cX2_coinsIn 1 = .ok (.iload_n 1, 1) := by decide +kernel
theorem dX2_coinsIn_2 : decode cX2_coinsIn 2 = .ok (.invokestatic 89, 3) := by decide +kernel
theorem dX2_coinsIn_5 : decode cX2_coinsIn 5 = .ok (.invokevirtual 111, 3) := by decide +kernel
theorem dX2_coinsIn_8 : decode cX2_coinsIn 8 = .ok (.ifCond .ne 5, 3) := by decide +kernel
theorem dX2_coinsIn_11 : decode cX2_coinsIn 11 = .ok (.iconst 0, 1) := by decide +kernel
theorem dX2_coinsIn_12 : decode cX2_coinsIn 12 = .ok (.ireturn, 1) := by decide +kernel
theorem dX2_coinsIn_13 : decode cX2_coinsIn 13 = .ok (.iload_n 2, 1) := by decide +kernel
theorem dX2_coinsIn_14 : decode cX2_coinsIn 14 = .ok (.iconst 1, 1) := by decide +kernel
theorem dX2_coinsIn_15 : decode cX2_coinsIn 15 = .ok (.bipush 100, 2) := by decide +kernel
theorem dX2_coinsIn_17 : decode cX2_coinsIn 17 = .ok (.invokestatic 36, 3) := by decide +kernel
theorem dX2_coinsIn_20 : decode cX2_coinsIn 20 = .ok (.ifCond .eq 12, 3) := by decide +kernel
theorem dX2_coinsIn_23 : decode cX2_coinsIn 23 = .ok (.aload_n 0, 1) := by decide +kernel
theorem dX2_coinsIn_24 : decode cX2_coinsIn 24 = .ok (.iload_n 1, 1) := by decide +kernel
theorem dX2_coinsIn_25 : decode cX2_coinsIn 25 = .ok (.iload_n 2, 1) := by decide +kernel
theorem dX2_coinsIn_26 : decode cX2_coinsIn 26 = .ok (.invokevirtual 145, 3) := by decide +kernel
theorem dX2_coinsIn_29 : decode cX2_coinsIn 29 = .ok (.goto 8, 3) := by decide +kernel
theorem dX2_coinsIn_32 : decode cX2_coinsIn 32 = .ok (.aload_n 0, 1) := by decide +kernel
theorem dX2_coinsIn_33 : decode cX2_coinsIn 33 = .ok (.iconst 2, 1) := by decide +kernel
theorem dX2_coinsIn_34 : decode cX2_coinsIn 34 = .ok (.invokevirtual 92, 3) := by decide +kernel
theorem dX2_coinsIn_37 : decode cX2_coinsIn 37 = .ok (.ireturn, 1) := by decide +kernel
theorem dX2_loudestOn_0 : decode cX2_loudestOn 0 = .ok (.aload_n 0, 1) := by decide +kernel
theorem dX2_loudestOn_1 : decode cX2_loudestOn 1 = .ok (.iload_n 1, 1) := by decide +kernel
theorem dX2_loudestOn_2 : decode cX2_loudestOn 2 = .ok (.invokestatic 58, 3) := by decide +kernel
theorem dX2_loudestOn_5 : decode cX2_loudestOn 5 = .ok (.invokevirtual 111, 3) := by decide +kernel
theorem dX2_loudestOn_8 : decode cX2_loudestOn 8 = .ok (.ifCond .ne 5, 3) := by decide +kernel
theorem dX2_loudestOn_11 : decode cX2_loudestOn 11 = .ok (.iconst 0, 1) := by decide +kernel
theorem dX2_loudestOn_12 : decode cX2_loudestOn 12 = .ok (.ireturn, 1) := by decide +kernel
theorem dX2_loudestOn_13 : decode cX2_loudestOn 13 = .ok (.iload_n 2, 1) := by decide +kernel
theorem dX2_loudestOn_14 : decode cX2_loudestOn 14 = .ok (.iconst 1, 1) := by decide +kernel
theorem dX2_loudestOn_15 : decode cX2_loudestOn 15 = .ok (.bipush 100, 2) := by decide +kernel
theorem dX2_loudestOn_17 : decode cX2_loudestOn 17 = .ok (.invokestatic 36, 3) := by decide +kernel
theorem dX2_loudestOn_20 : decode cX2_loudestOn 20 = .ok (.ifCond .ne 9, 3) := by decide +kernel
theorem dX2_loudestOn_23 : decode cX2_loudestOn 23 = .ok (.aload_n 0, 1) := by decide +kernel
theorem dX2_loudestOn_24 : decode cX2_loudestOn 24 = .ok (.iconst 2, 1) := by decide +kernel
theorem dX2_loudestOn_25 : decode cX2_loudestOn 25 = .ok (.invokevirtual 92, 3) := by decide +kernel
theorem dX2_loudestOn_28 : decode cX2_loudestOn 28 = .ok (.ireturn, 1) := by decide +kernel
theorem dX2_loudestOn_29 : decode cX2_loudestOn 29 = .ok (.aload_n 0, 1) := by decide +kernel
theorem dX2_loudestOn_30 : decode cX2_loudestOn 30 = .ok (.invokevirtual 133, 3) := by decide +kernel
theorem dX2_loudestOn_33 : decode cX2_loudestOn 33 = .ok (.iconst 0, 1) := by decide +kernel
theorem dX2_loudestOn_34 : decode cX2_loudestOn 34 = .ok (.istore_n 3, 1) := by decide +kernel
theorem dX2_loudestOn_35 : decode cX2_loudestOn 35 = .ok (.iconst 0, 1) := by decide +kernel
theorem dX2_loudestOn_36 : decode cX2_loudestOn 36 = .ok (.istore 4, 2) := by decide +kernel
theorem dX2_loudestOn_38 : decode cX2_loudestOn 38 = .ok (.iload 4, 2) := by decide +kernel
theorem dX2_loudestOn_40 : decode cX2_loudestOn 40 = .ok (.iload_n 2, 1) := by decide +kernel
theorem dX2_loudestOn_41 : decode cX2_loudestOn 41 = .ok (.if_icmp .ge 23, 3) := by decide +kernel
theorem dX2_loudestOn_44 : decode cX2_loudestOn 44 = .ok (.aload_n 0, 1) := by decide +kernel
theorem dX2_loudestOn_45 : decode cX2_loudestOn 45 = .ok (.invokevirtual 86, 3) := by decide +kernel
theorem dX2_loudestOn_48 : decode cX2_loudestOn 48 = .ok (.iload_n 3, 1) := by decide +kernel
theorem dX2_loudestOn_49 : decode cX2_loudestOn 49 = .ok (.aload_n 0, 1) := by decide +kernel
theorem dX2_loudestOn_50 : decode cX2_loudestOn 50 = .ok (.iload_n 1, 1) := by decide +kernel
theorem dX2_loudestOn_51 : decode cX2_loudestOn 51 = .ok (.invokevirtual 115, 3) := by decide +kernel
theorem dX2_loudestOn_54 : decode cX2_loudestOn 54 = .ok (.invokestatic 52, 3) := by decide +kernel
theorem dX2_loudestOn_57 : decode cX2_loudestOn 57 = .ok (.istore_n 3, 1) := by decide +kernel
theorem dX2_loudestOn_58 : decode cX2_loudestOn 58 = .ok (.iinc 4 1, 3) := by decide +kernel
theorem dX2_loudestOn_61 : decode cX2_loudestOn 61 = .ok (.goto (-23), 3) := by decide +kernel
theorem dX2_loudestOn_64 : decode cX2_loudestOn 64 = .ok (.aload_n 0, 1) := by decide +kernel
theorem dX2_loudestOn_65 : decode cX2_loudestOn 65 = .ok (.invokevirtual 136, 3) := by decide +kernel
theorem dX2_loudestOn_68 : decode cX2_loudestOn 68 = .ok (.iload_n 3, 1) := by decide +kernel
theorem dX2_loudestOn_69 : decode cX2_loudestOn 69 = .ok (.ireturn, 1) := by decide +kernel
theorem dX2_loses_0 : decode cX2_loses 0 = .ok (.iload_n 1, 1) := by decide +kernel
theorem dX2_loses_1 : decode cX2_loses 1 = .ok (.istore 4, 2) := by decide +kernel
theorem dX2_loses_3 : decode cX2_loses 3 = .ok (.iload_n 2, 1) := by decide +kernel
theorem dX2_loses_4 : decode cX2_loses 4 = .ok (.istore 5, 2) := by decide +kernel
theorem dX2_loses_6 : decode cX2_loses 6 = .ok (.iconst 0, 1) := by decide +kernel
theorem dX2_loses_7 : decode cX2_loses 7 = .ok (.istore 6, 2) := by decide +kernel
theorem dX2_loses_9 : decode cX2_loses 9 = .ok (.iload 6, 2) := by decide +kernel
theorem dX2_loses_11 : decode cX2_loses 11 = .ok (.bipush 99, 2) := by decide +kernel
theorem dX2_loses_13 : decode cX2_loses 13 = .ok (.if_icmp .ge 77, 3) := by decide +kernel
theorem dX2_loses_16 : decode cX2_loses 16 = .ok (.iload 4, 2) := by decide +kernel
theorem dX2_loses_18 : decode cX2_loses 18 = .ok (.iload 5, 2) := by decide +kernel
theorem dX2_loses_20 : decode cX2_loses 20 = .ok (.iadd, 1) := by decide +kernel
theorem dX2_loses_21 : decode cX2_loses 21 = .ok (.istore 4, 2) := by decide +kernel
theorem dX2_loses_23 : decode cX2_loses 23 = .ok (.iload 4, 2) := by decide +kernel
theorem dX2_loses_25 : decode cX2_loses 25 = .ok (.invokestatic 58, 3) := by decide +kernel
theorem dX2_loses_28 : decode cX2_loses 28 = .ok (.ifCond .ne 6, 3) := by decide +kernel
theorem dX2_loses_31 : decode cX2_loses 31 = .ok (.bipush 99, 2) := by decide +kernel
theorem dX2_loses_33 : decode cX2_loses 33 = .ok (.ireturn, 1) := by decide +kernel
theorem dX2_loses_34 : decode cX2_loses 34 = .ok (.iload 6, 2) := by decide +kernel
theorem dX2_loses_36 : decode cX2_loses 36 = .ok (.iconst 1, 1) := by decide +kernel
theorem dX2_loses_37 : decode cX2_loses 37 = .ok (.aload_n 0, 1) := by decide +kernel
theorem dX2_loses_38 : decode cX2_loses 38 = .ok (.getfield 9, 3) := by decide +kernel
theorem dX2_loses_41 : decode cX2_loses 41 = .ok (.iload 4, 2) := by decide +kernel
theorem dX2_loses_43 : decode cX2_loses 43 = .ok (.iaload, 1) := by decide +kernel
theorem dX2_loses_44 : decode cX2_loses 44 = .ok (.iadd, 1) := by decide +kernel
theorem dX2_loses_45 : decode cX2_loses 45 = .ok (.iadd, 1) := by decide +kernel
theorem dX2_loses_46 : decode cX2_loses 46 = .ok (.istore 6, 2) := by decide +kernel
theorem dX2_loses_48 : decode cX2_loses 48 = .ok (.aload_n 0, 1) := by decide +kernel
theorem dX2_loses_49 : decode cX2_loses 49 = .ok (.getfield 13, 3) := by decide +kernel
theorem dX2_loses_52 : decode cX2_loses 52 = .ok (.iload 4, 2) := by decide +kernel
theorem dX2_loses_54 : decode cX2_loses 54 = .ok (.iaload, 1) := by decide +kernel
theorem dX2_loses_55 : decode cX2_loses 55 = .ok (.iconst (-1), 1) := by decide +kernel
theorem dX2_loses_56 : decode cX2_loses 56 = .ok (.if_icmp .eq 25, 3) := by decide +kernel
theorem dX2_loses_59 : decode cX2_loses 59 = .ok (.iload 5, 2) := by decide +kernel
theorem dX2_loses_61 : decode cX2_loses 61 = .ok (.ineg, 1) := by decide +kernel
theorem dX2_loses_62 : decode cX2_loses 62 = .ok (.istore 5, 2) := by decide +kernel
theorem dX2_loses_64 : decode cX2_loses 64 = .ok (.iload 6, 2) := by decide +kernel
theorem dX2_loses_66 : decode cX2_loses 66 = .ok (.aload_n 0, 1) := by decide +kernel
theorem dX2_loses_67 : decode cX2_loses 67 = .ok (.getfield 19, 3) := by decide +kernel
theorem dX2_loses_70 : decode cX2_loses 70 = .ok (.aload_n 0, 1) := by decide +kernel
theorem dX2_loses_71 : decode cX2_loses 71 = .ok (.getfield 13, 3) := by decide +kernel
theorem dX2_loses_74 : decode cX2_loses 74 = .ok (.iload 4, 2) := by decide +kernel
theorem dX2_loses_76 : decode cX2_loses 76 = .ok (.iaload, 1) := by decide +kernel
theorem dX2_loses_77 : decode cX2_loses 77 = .ok (.iaload, 1) := by decide +kernel
theorem dX2_loses_78 : decode cX2_loses 78 = .ok (.iadd, 1) := by decide +kernel
theorem dX2_loses_79 : decode cX2_loses 79 = .ok (.istore 6, 2) := by decide +kernel
theorem dX2_loses_81 : decode cX2_loses 81 = .ok (.iload 4, 2) := by decide +kernel
theorem dX2_loses_83 : decode cX2_loses 83 = .ok (.iload_n 3, 1) := by decide +kernel
theorem dX2_loses_84 : decode cX2_loses 84 = .ok (.if_icmp .ne (-75), 3) := by decide +kernel
theorem dX2_loses_87 : decode cX2_loses 87 = .ok (.iload 6, 2) := by decide +kernel
theorem dX2_loses_89 : decode cX2_loses 89 = .ok (.ireturn, 1) := by decide +kernel
theorem dX2_loses_90 : decode cX2_loses 90 = .ok (.iload 6, 2) := by decide +kernel
theorem dX2_loses_92 : decode cX2_loses 92 = .ok (.ireturn, 1) := by decide +kernel
theorem dX2_loudnessWanted_0 : decode cX2_loudnessWanted 0 = .ok (.aload_n 0, 1) := by decide +kernel
theorem dX2_loudnessWanted_1 : decode cX2_loudnessWanted 1 = .ok (.iload_n 1, 1) := by decide +kernel
theorem dX2_loudnessWanted_2 : decode cX2_loudnessWanted 2 = .ok (.invokestatic 58, 3) := by decide +kernel
theorem dX2_loudnessWanted_5 : decode cX2_loudnessWanted 5 = .ok (.ifCond .eq 14, 3) := by decide +kernel
theorem dX2_loudnessWanted_8 : decode cX2_loudnessWanted 8 = .ok (.iload_n 3, 1) := by decide +kernel
theorem dX2_loudnessWanted_9 : decode cX2_loudnessWanted 9 = .ok (.invokestatic 58, 3) := by decide +kernel
theorem dX2_loudnessWanted_12 : decode cX2_loudnessWanted 12 = .ok (.ifCond .eq 7, 3) := by decide +kernel
theorem dX2_loudnessWanted_15 : decode cX2_loudnessWanted 15 = .ok (.iconst 1, 1) := by decide +kernel
theorem dX2_loudnessWanted_16 : decode cX2_loudnessWanted 16 = .ok (.goto 4, 3) := by decide +kernel
theorem dX2_loudnessWanted_19 : decode cX2_loudnessWanted 19 = .ok (.iconst 0, 1) := by decide +kernel
theorem dX2_loudnessWanted_20 : decode cX2_loudnessWanted 20 = .ok (.invokevirtual 111, 3) := by decide +kernel
theorem dX2_loudnessWanted_23 : decode cX2_loudnessWanted 23 = .ok (.ifCond .ne 5, 3) := by decide +kernel
theorem dX2_loudnessWanted_26 : decode cX2_loudnessWanted 26 = .ok (.iconst 0, 1) := by decide +kernel
theorem dX2_loudnessWanted_27 : decode cX2_loudnessWanted 27 = .ok (.ireturn, 1) := by decide +kernel
theorem dX2_loudnessWanted_28 : decode cX2_loudnessWanted 28 = .ok (.aload_n 0, 1) := by decide +kernel
theorem dX2_loudnessWanted_29 : decode cX2_loudnessWanted 29 = .ok (.iload_n 1, 1) := by decide +kernel
theorem dX2_loudnessWanted_30 : decode cX2_loudnessWanted 30 = .ok (.iload_n 2, 1) := by decide +kernel
theorem dX2_loudnessWanted_31 : decode cX2_loudnessWanted 31 = .ok (.ifCond .eq 7, 3) := by decide +kernel
theorem dX2_loudnessWanted_34 : decode cX2_loudnessWanted 34 = .ok (.iconst 1, 1) := by decide +kernel
theorem dX2_loudnessWanted_35 : decode cX2_loudnessWanted 35 = .ok (.goto 4, 3) := by decide +kernel
theorem dX2_loudnessWanted_38 : decode cX2_loudnessWanted 38 = .ok (.iconst (-1), 1) := by decide +kernel
theorem dX2_loudnessWanted_39 : decode cX2_loudnessWanted 39 = .ok (.iload_n 3, 1) := by decide +kernel
theorem dX2_loudnessWanted_40 : decode cX2_loudnessWanted 40 = .ok (.invokevirtual 148, 3) := by decide +kernel
theorem dX2_loudnessWanted_43 : decode cX2_loudnessWanted 43 = .ok (.iconst 1, 1) := by decide +kernel
theorem dX2_loudnessWanted_44 : decode cX2_loudnessWanted 44 = .ok (.iadd, 1) := by decide +kernel
theorem dX2_loudnessWanted_45 : decode cX2_loudnessWanted 45 = .ok (.istore 4, 2) := by decide +kernel
theorem dX2_loudnessWanted_47 : decode cX2_loudnessWanted 47 = .ok (.iload 4, 2) := by decide +kernel
theorem dX2_loudnessWanted_49 : decode cX2_loudnessWanted 49 = .ok (.bipush 99, 2) := by decide +kernel
theorem dX2_loudnessWanted_51 : decode cX2_loudnessWanted 51 = .ok (.if_icmp .le 7, 3) := by decide +kernel
theorem dX2_loudnessWanted_54 : decode cX2_loudnessWanted 54 = .ok (.iconst (-1), 1) := by decide +kernel
theorem dX2_loudnessWanted_55 : decode cX2_loudnessWanted 55 = .ok (.goto 5, 3) := by decide +kernel
theorem dX2_loudnessWanted_58 : decode cX2_loudnessWanted 58 = .ok (.iload 4, 2) := by decide +kernel
theorem dX2_loudnessWanted_60 : decode cX2_loudnessWanted 60 = .ok (.ireturn, 1) := by decide +kernel
theorem dX2_turns_0 : decode cX2_turns 0 = .ok (.iload_n 1, 1) := by decide +kernel
theorem dX2_turns_1 : decode cX2_turns 1 = .ok (.iconst 1, 1) := by decide +kernel
theorem dX2_turns_2 : decode cX2_turns 2 = .ok (.iadd, 1) := by decide +kernel
theorem dX2_turns_3 : decode cX2_turns 3 = .ok (.istore_n 3, 1) := by decide +kernel
theorem dX2_turns_4 : decode cX2_turns 4 = .ok (.iconst 1, 1) := by decide +kernel
theorem dX2_turns_5 : decode cX2_turns 5 = .ok (.istore 4, 2) := by decide +kernel
theorem dX2_turns_7 : decode cX2_turns 7 = .ok (.iload_n 2, 1) := by decide +kernel
theorem dX2_turns_8 : decode cX2_turns 8 = .ok (.istore 5, 2) := by decide +kernel
theorem dX2_turns_10 : decode cX2_turns 10 = .ok (.iconst 0, 1) := by decide +kernel
theorem dX2_turns_11 : decode cX2_turns 11 = .ok (.istore 6, 2) := by decide +kernel
theorem dX2_turns_13 : decode cX2_turns 13 = .ok (.iload_n 3, 1) := by decide +kernel
theorem dX2_turns_14 : decode cX2_turns 14 = .ok (.invokestatic 58, 3) := by decide +kernel
theorem dX2_turns_17 : decode cX2_turns 17 = .ok (.ifCond .eq 72, 3) := by decide +kernel
theorem dX2_turns_20 : decode cX2_turns 20 = .ok (.iload 5, 2) := by decide +kernel
theorem dX2_turns_22 : decode cX2_turns 22 = .ok (.iconst 1, 1) := by decide +kernel
theorem dX2_turns_23 : decode cX2_turns 23 = .ok (.isub, 1) := by decide +kernel
theorem dX2_turns_24 : decode cX2_turns 24 = .ok (.aload_n 0, 1) := by decide +kernel
theorem dX2_turns_25 : decode cX2_turns 25 = .ok (.getfield 9, 3) := by decide +kernel
theorem dX2_turns_28 : decode cX2_turns 28 = .ok (.iload_n 3, 1) := by decide +kernel
theorem dX2_turns_29 : decode cX2_turns 29 = .ok (.iaload, 1) := by decide +kernel
theorem dX2_turns_30 : decode cX2_turns 30 = .ok (.isub, 1) := by decide +kernel
theorem dX2_turns_31 : decode cX2_turns 31 = .ok (.ifCond .le 58, 3) := by decide +kernel
theorem dX2_turns_34 : decode cX2_turns 34 = .ok (.iload 5, 2) := by decide +kernel
theorem dX2_turns_36 : decode cX2_turns 36 = .ok (.iconst 1, 1) := by decide +kernel
theorem dX2_turns_37 : decode cX2_turns 37 = .ok (.aload_n 0, 1) := by decide +kernel
theorem dX2_turns_38 : decode cX2_turns 38 = .ok (.getfield 9, 3) := by decide +kernel
theorem dX2_turns_41 : decode cX2_turns 41 = .ok (.iload_n 3, 1) := by decide +kernel
theorem dX2_turns_42 : decode cX2_turns 42 = .ok (.iaload, 1) := by decide +kernel
theorem dX2_turns_43 : decode cX2_turns 43 = .ok (.iadd, 1) := by decide +kernel
theorem dX2_turns_44 : decode cX2_turns 44 = .ok (.isub, 1) := by decide +kernel
theorem dX2_turns_45 : decode cX2_turns 45 = .ok (.istore 5, 2) := by decide +kernel
theorem dX2_turns_47 : decode cX2_turns 47 = .ok (.aload_n 0, 1) := by decide +kernel
theorem dX2_turns_48 : decode cX2_turns 48 = .ok (.getfield 13, 3) := by decide +kernel
theorem dX2_turns_51 : decode cX2_turns 51 = .ok (.iload_n 3, 1) := by decide +kernel
theorem dX2_turns_52 : decode cX2_turns 52 = .ok (.iaload, 1) := by decide +kernel
theorem dX2_turns_53 : decode cX2_turns 53 = .ok (.iconst (-1), 1) := by decide +kernel
theorem dX2_turns_54 : decode cX2_turns 54 = .ok (.if_icmp .eq 27, 3) := by decide +kernel
theorem dX2_turns_57 : decode cX2_turns 57 = .ok (.iinc 6 1, 3) := by decide +kernel
theorem dX2_turns_60 : decode cX2_turns 60 = .ok (.iload 5, 2) := by decide +kernel
theorem dX2_turns_62 : decode cX2_turns 62 = .ok (.aload_n 0, 1) := by decide +kernel
theorem dX2_turns_63 : decode cX2_turns 63 = .ok (.getfield 19, 3) := by decide +kernel
theorem dX2_turns_66 : decode cX2_turns 66 = .ok (.aload_n 0, 1) := by decide +kernel
theorem dX2_turns_67 : decode cX2_turns 67 = .ok (.getfield 13, 3) := by decide +kernel
theorem dX2_turns_70 : decode cX2_turns 70 = .ok (.iload_n 3, 1) := by decide +kernel
theorem dX2_turns_71 : decode cX2_turns 71 = .ok (.iaload, 1) := by decide +kernel
theorem dX2_turns_72 : decode cX2_turns 72 = .ok (.iaload, 1) := by decide +kernel
theorem dX2_turns_73 : decode cX2_turns 73 = .ok (.isub, 1) := by decide +kernel
theorem dX2_turns_74 : decode cX2_turns 74 = .ok (.istore 5, 2) := by decide +kernel
theorem dX2_turns_76 : decode cX2_turns 76 = .ok (.iload 4, 2) := by decide +kernel
theorem dX2_turns_78 : decode cX2_turns 78 = .ok (.ineg, 1) := by decide +kernel
theorem dX2_turns_79 : decode cX2_turns 79 = .ok (.istore 4, 2) := by decide +kernel
theorem dX2_turns_81 : decode cX2_turns 81 = .ok (.iload_n 3, 1) := by decide +kernel
theorem dX2_turns_82 : decode cX2_turns 82 = .ok (.iload 4, 2) := by decide +kernel
theorem dX2_turns_84 : decode cX2_turns 84 = .ok (.iadd, 1) := by decide +kernel
theorem dX2_turns_85 : decode cX2_turns 85 = .ok (.istore_n 3, 1) := by decide +kernel
theorem dX2_turns_86 : decode cX2_turns 86 = .ok (.goto (-73), 3) := by decide +kernel
theorem dX2_turns_89 : decode cX2_turns 89 = .ok (.iload 6, 2) := by decide +kernel
theorem dX2_turns_91 : decode cX2_turns 91 = .ok (.ireturn, 1) := by decide +kernel
theorem dX2_best_0 : decode cX2_best 0 = .ok (.iconst 0, 1) := by decide +kernel
theorem dX2_best_1 : decode cX2_best 1 = .ok (.istore_n 2, 1) := by decide +kernel
theorem dX2_best_2 : decode cX2_best 2 = .ok (.iconst 1, 1) := by decide +kernel
theorem dX2_best_3 : decode cX2_best 3 = .ok (.istore_n 3, 1) := by decide +kernel
theorem dX2_best_4 : decode cX2_best 4 = .ok (.iload_n 3, 1) := by decide +kernel
theorem dX2_best_5 : decode cX2_best 5 = .ok (.bipush 32, 2) := by decide +kernel
theorem dX2_best_7 : decode cX2_best 7 = .ok (.if_icmp .ge 26, 3) := by decide +kernel
theorem dX2_best_10 : decode cX2_best 10 = .ok (.aload_n 0, 1) := by decide +kernel
theorem dX2_best_11 : decode cX2_best 11 = .ok (.iload_n 3, 1) := by decide +kernel
theorem dX2_best_12 : decode cX2_best 12 = .ok (.iload_n 1, 1) := by decide +kernel
theorem dX2_best_13 : decode cX2_best 13 = .ok (.invokevirtual 152, 3) := by decide +kernel
theorem dX2_best_16 : decode cX2_best 16 = .ok (.aload_n 0, 1) := by decide +kernel
theorem dX2_best_17 : decode cX2_best 17 = .ok (.iload_n 2, 1) := by decide +kernel
theorem dX2_best_18 : decode cX2_best 18 = .ok (.iload_n 1, 1) := by decide +kernel
theorem dX2_best_19 : decode cX2_best 19 = .ok (.invokevirtual 152, 3) := by decide +kernel
theorem dX2_best_22 : decode cX2_best 22 = .ok (.if_icmp .le 5, 3) := by decide +kernel
theorem dX2_best_25 : decode cX2_best 25 = .ok (.iload_n 3, 1) := by decide +kernel
theorem dX2_best_26 : decode cX2_best 26 = .ok (.istore_n 2, 1) := by decide +kernel
theorem dX2_best_27 : decode cX2_best 27 = .ok (.iinc 3 1, 3) := by decide +kernel
theorem dX2_best_30 : decode cX2_best 30 = .ok (.goto (-26), 3) := by decide +kernel
theorem dX2_best_33 : decode cX2_best 33 = .ok (.iload_n 2, 1) := by decide +kernel
theorem dX2_best_34 : decode cX2_best 34 = .ok (.ireturn, 1) := by decide +kernel
theorem dX2_bestStone_0 : decode cX2_bestStone 0 = .ok (.aload_n 0, 1) := by decide +kernel
theorem dX2_bestStone_1 : decode cX2_bestStone 1 = .ok (.iconst 0, 1) := by decide +kernel
theorem dX2_bestStone_2 : decode cX2_bestStone 2 = .ok (.putfield 32, 3) := by decide +kernel
theorem dX2_bestStone_5 : decode cX2_bestStone 5 = .ok (.iload_n 1, 1) := by decide +kernel
theorem dX2_bestStone_6 : decode cX2_bestStone 6 = .ok (.iconst 1, 1) := by decide +kernel
theorem dX2_bestStone_7 : decode cX2_bestStone 7 = .ok (.bipush 99, 2) := by decide +kernel
theorem dX2_bestStone_9 : decode cX2_bestStone 9 = .ok (.invokestatic 36, 3) := by decide +kernel
theorem dX2_bestStone_12 : decode cX2_bestStone 12 = .ok (.ifCond .eq 11, 3) := by decide +kernel
theorem dX2_bestStone_15 : decode cX2_bestStone 15 = .ok (.aload_n 0, 1) := by decide +kernel
theorem dX2_bestStone_16 : decode cX2_bestStone 16 = .ok (.iload_n 1, 1) := by decide +kernel
theorem dX2_bestStone_17 : decode cX2_bestStone 17 = .ok (.invokevirtual 155, 3) := by decide +kernel
theorem dX2_bestStone_20 : decode cX2_bestStone 20 = .ok (.goto 8, 3) := by decide +kernel
theorem dX2_bestStone_23 : decode cX2_bestStone 23 = .ok (.aload_n 0, 1) := by decide +kernel
theorem dX2_bestStone_24 : decode cX2_bestStone 24 = .ok (.iconst 1, 1) := by decide +kernel
theorem dX2_bestStone_25 : decode cX2_bestStone 25 = .ok (.invokevirtual 92, 3) := by decide +kernel
theorem dX2_bestStone_28 : decode cX2_bestStone 28 = .ok (.ireturn, 1) := by decide +kernel
theorem dX2_meanLoudness_0 : decode cX2_meanLoudness 0 = .ok (.aload_n 0, 1) := by decide +kernel
theorem dX2_meanLoudness_1 : decode cX2_meanLoudness 1 = .ok (.iconst 0, 1) := by decide +kernel
theorem dX2_meanLoudness_2 : decode cX2_meanLoudness 2 = .ok (.putfield 32, 3) := by decide +kernel
theorem dX2_meanLoudness_5 : decode cX2_meanLoudness 5 = .ok (.iconst 0, 1) := by decide +kernel
theorem dX2_meanLoudness_6 : decode cX2_meanLoudness 6 = .ok (.istore_n 1, 1) := by decide +kernel
theorem dX2_meanLoudness_7 : decode cX2_meanLoudness 7 = .ok (.iconst 0, 1) := by decide +kernel
theorem dX2_meanLoudness_8 : decode cX2_meanLoudness 8 = .ok (.istore_n 2, 1) := by decide +kernel
theorem dX2_meanLoudness_9 : decode cX2_meanLoudness 9 = .ok (.iload_n 2, 1) := by decide +kernel
theorem dX2_meanLoudness_10 : decode cX2_meanLoudness 10 = .ok (.aload_n 0, 1) := by decide +kernel
theorem dX2_meanLoudness_11 : decode cX2_meanLoudness 11 = .ok (.getfield 43, 3) := by decide +kernel
theorem dX2_meanLoudness_14 : decode cX2_meanLoudness 14 = .ok (.if_icmp .ge 21, 3) := by decide +kernel
theorem dX2_meanLoudness_17 : decode cX2_meanLoudness 17 = .ok (.iload_n 1, 1) := by decide +kernel
theorem dX2_meanLoudness_18 : decode cX2_meanLoudness 18 = .ok (.aload_n 0, 1) := by decide +kernel
theorem dX2_meanLoudness_19 : decode cX2_meanLoudness 19 = .ok (.getfield 22, 3) := by decide +kernel
theorem dX2_meanLoudness_22 : decode cX2_meanLoudness 22 = .ok (.bipush 27, 2) := by decide +kernel
theorem dX2_meanLoudness_24 : decode cX2_meanLoudness 24 = .ok (.iload_n 2, 1) := by decide +kernel
theorem dX2_meanLoudness_25 : decode cX2_meanLoudness 25 = .ok (.iadd, 1) := by decide +kernel
theorem dX2_meanLoudness_26 : decode cX2_meanLoudness 26 = .ok (.iaload, 1) := by decide +kernel
theorem dX2_meanLoudness_27 : decode cX2_meanLoudness 27 = .ok (.iadd, 1) := by decide +kernel
theorem dX2_meanLoudness_28 : decode cX2_meanLoudness 28 = .ok (.istore_n 1, 1) := by decide +kernel
theorem dX2_meanLoudness_29 : decode cX2_meanLoudness 29 = .ok (.iinc 2 1, 3) := by decide +kernel
theorem dX2_meanLoudness_32 : decode cX2_meanLoudness 32 = .ok (.goto (-23), 3) := by decide +kernel
theorem dX2_meanLoudness_35 : decode cX2_meanLoudness 35 = .ok (.aload_n 0, 1) := by decide +kernel
theorem dX2_meanLoudness_36 : decode cX2_meanLoudness 36 = .ok (.invokevirtual 98, 3) := by decide +kernel
theorem dX2_meanLoudness_39 : decode cX2_meanLoudness 39 = .ok (.ifCond .ne 7, 3) := by decide +kernel
theorem dX2_meanLoudness_42 : decode cX2_meanLoudness 42 = .ok (.dconst 0, 1) := by decide +kernel
theorem dX2_meanLoudness_43 : decode cX2_meanLoudness 43 = .ok (.goto 11, 3) := by decide +kernel
theorem dX2_meanLoudness_46 : decode cX2_meanLoudness 46 = .ok (.iload_n 1, 1) := by decide +kernel
theorem dX2_meanLoudness_47 : decode cX2_meanLoudness 47 = .ok (.i2d, 1) := by decide +kernel
theorem dX2_meanLoudness_48 : decode cX2_meanLoudness 48 = .ok (.aload_n 0, 1) := by decide +kernel
theorem dX2_meanLoudness_49 : decode cX2_meanLoudness 49 = .ok (.invokevirtual 98, 3) := by decide +kernel
theorem dX2_meanLoudness_52 : decode cX2_meanLoudness 52 = .ok (.i2d, 1) := by decide +kernel
theorem dX2_meanLoudness_53 : decode cX2_meanLoudness 53 = .ok (.ddiv, 1) := by decide +kernel
theorem dX2_meanLoudness_54 : decode cX2_meanLoudness 54 = .ok (.dreturn, 1) := by decide +kernel
theorem dX2_digest_0 : decode cX2_digest 0 = .ok (.aload_n 0, 1) := by decide +kernel
theorem dX2_digest_1 : decode cX2_digest 1 = .ok (.iconst 0, 1) := by decide +kernel
theorem dX2_digest_2 : decode cX2_digest 2 = .ok (.putfield 32, 3) := by decide +kernel
theorem dX2_digest_5 : decode cX2_digest 5 = .ok (.bipush 8, 2) := by decide +kernel
theorem dX2_digest_7 : decode cX2_digest 7 = .ok (.newarray .int, 2) := by decide +kernel
theorem dX2_digest_9 : decode cX2_digest 9 = .ok (.dup, 1) := by decide +kernel
theorem dX2_digest_10 : decode cX2_digest 10 = .ok (.iconst 0, 1) := by decide +kernel
theorem dX2_digest_11 : decode cX2_digest 11 = .ok (.aload_n 0, 1) := by decide +kernel
theorem dX2_digest_12 : decode cX2_digest 12 = .ok (.getfield 22, 3) := by decide +kernel
theorem dX2_digest_15 : decode cX2_digest 15 = .ok (.iconst 0, 1) := by decide +kernel
theorem dX2_digest_16 : decode cX2_digest 16 = .ok (.iaload, 1) := by decide +kernel
theorem dX2_digest_17 : decode cX2_digest 17 = .ok (.iastore, 1) := by decide +kernel
theorem dX2_digest_18 : decode cX2_digest 18 = .ok (.dup, 1) := by decide +kernel
theorem dX2_digest_19 : decode cX2_digest 19 = .ok (.iconst 1, 1) := by decide +kernel
theorem dX2_digest_20 : decode cX2_digest 20 = .ok (.aload_n 0, 1) := by decide +kernel
theorem dX2_digest_21 : decode cX2_digest 21 = .ok (.getfield 40, 3) := by decide +kernel
theorem dX2_digest_24 : decode cX2_digest 24 = .ok (.iastore, 1) := by decide +kernel
theorem dX2_digest_25 : decode cX2_digest 25 = .ok (.dup, 1) := by decide +kernel
theorem dX2_digest_26 : decode cX2_digest 26 = .ok (.iconst 2, 1) := by decide +kernel
theorem dX2_digest_27 : decode cX2_digest 27 = .ok (.aload_n 0, 1) := by decide +kernel
theorem dX2_digest_28 : decode cX2_digest 28 = .ok (.getfield 43, 3) := by decide +kernel
theorem dX2_digest_31 : decode cX2_digest 31 = .ok (.iastore, 1) := by decide +kernel
theorem dX2_digest_32 : decode cX2_digest 32 = .ok (.dup, 1) := by decide +kernel
theorem dX2_digest_33 : decode cX2_digest 33 = .ok (.iconst 3, 1) := by decide +kernel
theorem dX2_digest_34 : decode cX2_digest 34 = .ok (.aload_n 0, 1) := by decide +kernel
theorem dX2_digest_35 : decode cX2_digest 35 = .ok (.invokevirtual 98, 3) := by decide +kernel
theorem dX2_digest_38 : decode cX2_digest 38 = .ok (.iastore, 1) := by decide +kernel
theorem dX2_digest_39 : decode cX2_digest 39 = .ok (.dup, 1) := by decide +kernel
theorem dX2_digest_40 : decode cX2_digest 40 = .ok (.iconst 4, 1) := by decide +kernel
theorem dX2_digest_41 : decode cX2_digest 41 = .ok (.aload_n 0, 1) := by decide +kernel
theorem dX2_digest_42 : decode cX2_digest 42 = .ok (.getfield 22, 3) := by decide +kernel
theorem dX2_digest_45 : decode cX2_digest 45 = .ok (.iconst 1, 1) := by decide +kernel
theorem dX2_digest_46 : decode cX2_digest 46 = .ok (.iaload, 1) := by decide +kernel
theorem dX2_digest_47 : decode cX2_digest 47 = .ok (.iastore, 1) := by decide +kernel
theorem dX2_digest_48 : decode cX2_digest 48 = .ok (.dup, 1) := by decide +kernel
theorem dX2_digest_49 : decode cX2_digest 49 = .ok (.iconst 5, 1) := by decide +kernel
theorem dX2_digest_50 : decode cX2_digest 50 = .ok (.aload_n 0, 1) := by decide +kernel
theorem dX2_digest_51 : decode cX2_digest 51 = .ok (.getfield 22, 3) := by decide +kernel
theorem dX2_digest_54 : decode cX2_digest 54 = .ok (.iconst 2, 1) := by decide +kernel
theorem dX2_digest_55 : decode cX2_digest 55 = .ok (.iaload, 1) := by decide +kernel
theorem dX2_digest_56 : decode cX2_digest 56 = .ok (.iastore, 1) := by decide +kernel
theorem dX2_digest_57 : decode cX2_digest 57 = .ok (.dup, 1) := by decide +kernel
theorem dX2_digest_58 : decode cX2_digest 58 = .ok (.bipush 6, 2) := by decide +kernel
theorem dX2_digest_60 : decode cX2_digest 60 = .ok (.aload_n 0, 1) := by decide +kernel
theorem dX2_digest_61 : decode cX2_digest 61 = .ok (.invokevirtual 142, 3) := by decide +kernel
theorem dX2_digest_64 : decode cX2_digest 64 = .ok (.iastore, 1) := by decide +kernel
theorem dX2_digest_65 : decode cX2_digest 65 = .ok (.dup, 1) := by decide +kernel
theorem dX2_digest_66 : decode cX2_digest 66 = .ok (.bipush 7, 2) := by decide +kernel
theorem dX2_digest_68 : decode cX2_digest 68 = .ok (.aload_n 0, 1) := by decide +kernel
theorem dX2_digest_69 : decode cX2_digest 69 = .ok (.bipush 30, 2) := by decide +kernel
theorem dX2_digest_71 : decode cX2_digest 71 = .ok (.invokevirtual 155, 3) := by decide +kernel
theorem dX2_digest_74 : decode cX2_digest 74 = .ok (.iastore, 1) := by decide +kernel
theorem dX2_digest_75 : decode cX2_digest 75 = .ok (.astore_n 1, 1) := by decide +kernel
theorem dX2_digest_76 : decode cX2_digest 76 = .ok (.ldc2_w 158, 3) := by decide +kernel
theorem dX2_digest_79 : decode cX2_digest 79 = .ok (.lstore_n 2, 1) := by decide +kernel
theorem dX2_digest_80 : decode cX2_digest 80 = .ok (.aload_n 1, 1) := by decide +kernel
theorem dX2_digest_81 : decode cX2_digest 81 = .ok (.astore 4, 2) := by decide +kernel
theorem dX2_digest_83 : decode cX2_digest 83 = .ok (.aload 4, 2) := by decide +kernel
theorem dX2_digest_85 : decode cX2_digest 85 = .ok (.arraylength, 1) := by decide +kernel
theorem dX2_digest_86 : decode cX2_digest 86 = .ok (.istore 5, 2) := by decide +kernel
theorem dX2_digest_88 : decode cX2_digest 88 = .ok (.iconst 0, 1) := by decide +kernel
theorem dX2_digest_89 : decode cX2_digest 89 = .ok (.istore 6, 2) := by decide +kernel
theorem dX2_digest_91 : decode cX2_digest 91 = .ok (.iload 6, 2) := by decide +kernel
theorem dX2_digest_93 : decode cX2_digest 93 = .ok (.iload 5, 2) := by decide +kernel
theorem dX2_digest_95 : decode cX2_digest 95 = .ok (.if_icmp .ge 26, 3) := by decide +kernel
theorem dX2_digest_98 : decode cX2_digest 98 = .ok (.aload 4, 2) := by decide +kernel
theorem dX2_digest_100 : decode cX2_digest 100 = .ok (.iload 6, 2) := by decide +kernel
theorem dX2_digest_102 : decode cX2_digest 102 = .ok (.iaload, 1) := by decide +kernel
theorem dX2_digest_103 : decode cX2_digest 103 = .ok (.istore 7, 2) := by decide +kernel
theorem dX2_digest_105 : decode cX2_digest 105 = .ok (.lload_n 2, 1) := by decide +kernel
theorem dX2_digest_106 : decode cX2_digest 106 = .ok (.ldc2_w 160, 3) := by decide +kernel
theorem dX2_digest_109 : decode cX2_digest 109 = .ok (.lmul, 1) := by decide +kernel
theorem dX2_digest_110 : decode cX2_digest 110 = .ok (.iload 7, 2) := by decide +kernel
theorem dX2_digest_112 : decode cX2_digest 112 = .ok (.i2l, 1) := by decide +kernel
theorem dX2_digest_113 : decode cX2_digest 113 = .ok (.ladd, 1) := by decide +kernel
theorem dX2_digest_114 : decode cX2_digest 114 = .ok (.lstore_n 2, 1) := by decide +kernel
theorem dX2_digest_115 : decode cX2_digest 115 = .ok (.iinc 6 1, 3) := by decide +kernel
theorem dX2_digest_118 : decode cX2_digest 118 = .ok (.goto (-27), 3) := by decide +kernel
theorem dX2_digest_121 : decode cX2_digest 121 = .ok (.iconst 0, 1) := by decide +kernel
theorem dX2_digest_122 : decode cX2_digest 122 = .ok (.istore 4, 2) := by decide +kernel
theorem dX2_digest_124 : decode cX2_digest 124 = .ok (.iload 4, 2) := by decide +kernel
theorem dX2_digest_126 : decode cX2_digest 126 = .ok (.iconst 2, 1) := by decide +kernel
theorem dX2_digest_127 : decode cX2_digest 127 = .ok (.if_icmp .ge 67, 3) := by decide +kernel
theorem dX2_digest_130 : decode cX2_digest 130 = .ok (.lload_n 2, 1) := by decide +kernel
theorem dX2_digest_131 : decode cX2_digest 131 = .ok (.ldc2_w 160, 3) := by decide +kernel
theorem dX2_digest_134 : decode cX2_digest 134 = .ok (.lmul, 1) := by decide +kernel
theorem dX2_digest_135 : decode cX2_digest 135 = .ok (.aload_n 0, 1) := by decide +kernel
theorem dX2_digest_136 : decode cX2_digest 136 = .ok (.getfield 22, 3) := by decide +kernel
theorem dX2_digest_139 : decode cX2_digest 139 = .ok (.iconst 3, 1) := by decide +kernel
theorem dX2_digest_140 : decode cX2_digest 140 = .ok (.iload 4, 2) := by decide +kernel
theorem dX2_digest_142 : decode cX2_digest 142 = .ok (.iadd, 1) := by decide +kernel
theorem dX2_digest_143 : decode cX2_digest 143 = .ok (.iaload, 1) := by decide +kernel
theorem dX2_digest_144 : decode cX2_digest 144 = .ok (.i2l, 1) := by decide +kernel
theorem dX2_digest_145 : decode cX2_digest 145 = .ok (.ladd, 1) := by decide +kernel
theorem dX2_digest_146 : decode cX2_digest 146 = .ok (.ldc2_w 160, 3) := by decide +kernel
theorem dX2_digest_149 : decode cX2_digest 149 = .ok (.lmul, 1) := by decide +kernel
theorem dX2_digest_150 : decode cX2_digest 150 = .ok (.aload_n 0, 1) := by decide +kernel
theorem dX2_digest_151 : decode cX2_digest 151 = .ok (.iload 4, 2) := by decide +kernel
theorem dX2_digest_153 : decode cX2_digest 153 = .ok (.invokevirtual 118, 3) := by decide +kernel
theorem dX2_digest_156 : decode cX2_digest 156 = .ok (.i2l, 1) := by decide +kernel
theorem dX2_digest_157 : decode cX2_digest 157 = .ok (.ladd, 1) := by decide +kernel
theorem dX2_digest_158 : decode cX2_digest 158 = .ok (.ldc2_w 160, 3) := by decide +kernel
theorem dX2_digest_161 : decode cX2_digest 161 = .ok (.lmul, 1) := by decide +kernel
theorem dX2_digest_162 : decode cX2_digest 162 = .ok (.aload_n 0, 1) := by decide +kernel
theorem dX2_digest_163 : decode cX2_digest 163 = .ok (.getfield 22, 3) := by decide +kernel
theorem dX2_digest_166 : decode cX2_digest 166 = .ok (.iconst 5, 1) := by decide +kernel
theorem dX2_digest_167 : decode cX2_digest 167 = .ok (.iload 4, 2) := by decide +kernel
theorem dX2_digest_169 : decode cX2_digest 169 = .ok (.iadd, 1) := by decide +kernel
theorem dX2_digest_170 : decode cX2_digest 170 = .ok (.iaload, 1) := by decide +kernel
theorem dX2_digest_171 : decode cX2_digest 171 = .ok (.i2l, 1) := by decide +kernel
theorem dX2_digest_172 : decode cX2_digest 172 = .ok (.ladd, 1) := by decide +kernel
theorem dX2_digest_173 : decode cX2_digest 173 = .ok (.ldc2_w 160, 3) := by decide +kernel
theorem dX2_digest_176 : decode cX2_digest 176 = .ok (.lmul, 1) := by decide +kernel
theorem dX2_digest_177 : decode cX2_digest 177 = .ok (.aload_n 0, 1) := by decide +kernel
theorem dX2_digest_178 : decode cX2_digest 178 = .ok (.iload 4, 2) := by decide +kernel
theorem dX2_digest_180 : decode cX2_digest 180 = .ok (.bipush 20, 2) := by decide +kernel
theorem dX2_digest_182 : decode cX2_digest 182 = .ok (.invokevirtual 145, 3) := by decide +kernel
theorem dX2_digest_185 : decode cX2_digest 185 = .ok (.i2l, 1) := by decide +kernel
theorem dX2_digest_186 : decode cX2_digest 186 = .ok (.ladd, 1) := by decide +kernel
theorem dX2_digest_187 : decode cX2_digest 187 = .ok (.lstore_n 2, 1) := by decide +kernel
theorem dX2_digest_188 : decode cX2_digest 188 = .ok (.iinc 4 1, 3) := by decide +kernel
theorem dX2_digest_191 : decode cX2_digest 191 = .ok (.goto (-67), 3) := by decide +kernel
theorem dX2_digest_194 : decode cX2_digest 194 = .ok (.iconst 0, 1) := by decide +kernel
theorem dX2_digest_195 : decode cX2_digest 195 = .ok (.istore 4, 2) := by decide +kernel
theorem dX2_digest_197 : decode cX2_digest 197 = .ok (.iload 4, 2) := by decide +kernel
theorem dX2_digest_199 : decode cX2_digest 199 = .ok (.aload_n 0, 1) := by decide +kernel
theorem dX2_digest_200 : decode cX2_digest 200 = .ok (.getfield 40, 3) := by decide +kernel
theorem dX2_digest_203 : decode cX2_digest 203 = .ok (.if_icmp .ge 56, 3) := by decide +kernel
theorem dX2_digest_206 : decode cX2_digest 206 = .ok (.lload_n 2, 1) := by decide +kernel
theorem dX2_digest_207 : decode cX2_digest 207 = .ok (.ldc2_w 160, 3) := by decide +kernel
theorem dX2_digest_210 : decode cX2_digest 210 = .ok (.lmul, 1) := by decide +kernel
theorem dX2_digest_211 : decode cX2_digest 211 = .ok (.aload_n 0, 1) := by decide +kernel
theorem dX2_digest_212 : decode cX2_digest 212 = .ok (.getfield 16, 3) := by decide +kernel
theorem dX2_digest_215 : decode cX2_digest 215 = .ok (.iload 4, 2) := by decide +kernel
theorem dX2_digest_217 : decode cX2_digest 217 = .ok (.iaload, 1) := by decide +kernel
theorem dX2_digest_218 : decode cX2_digest 218 = .ok (.i2l, 1) := by decide +kernel
theorem dX2_digest_219 : decode cX2_digest 219 = .ok (.ladd, 1) := by decide +kernel
theorem dX2_digest_220 : decode cX2_digest 220 = .ok (.ldc2_w 160, 3) := by decide +kernel
theorem dX2_digest_223 : decode cX2_digest 223 = .ok (.lmul, 1) := by decide +kernel
theorem dX2_digest_224 : decode cX2_digest 224 = .ok (.aload_n 0, 1) := by decide +kernel
theorem dX2_digest_225 : decode cX2_digest 225 = .ok (.getfield 22, 3) := by decide +kernel
theorem dX2_digest_228 : decode cX2_digest 228 = .ok (.bipush 7, 2) := by decide +kernel
theorem dX2_digest_230 : decode cX2_digest 230 = .ok (.iload 4, 2) := by decide +kernel
theorem dX2_digest_232 : decode cX2_digest 232 = .ok (.iadd, 1) := by decide +kernel
theorem dX2_digest_233 : decode cX2_digest 233 = .ok (.iaload, 1) := by decide +kernel
theorem dX2_digest_234 : decode cX2_digest 234 = .ok (.i2l, 1) := by decide +kernel
theorem dX2_digest_235 : decode cX2_digest 235 = .ok (.ladd, 1) := by decide +kernel
theorem dX2_digest_236 : decode cX2_digest 236 = .ok (.ldc2_w 160, 3) := by decide +kernel
theorem dX2_digest_239 : decode cX2_digest 239 = .ok (.lmul, 1) := by decide +kernel
theorem dX2_digest_240 : decode cX2_digest 240 = .ok (.aload_n 0, 1) := by decide +kernel
theorem dX2_digest_241 : decode cX2_digest 241 = .ok (.getfield 22, 3) := by decide +kernel
theorem dX2_digest_244 : decode cX2_digest 244 = .ok (.bipush 17, 2) := by decide +kernel
theorem dX2_digest_246 : decode cX2_digest 246 = .ok (.iload 4, 2) := by decide +kernel
theorem dX2_digest_248 : decode cX2_digest 248 = .ok (.iadd, 1) := by decide +kernel
theorem dX2_digest_249 : decode cX2_digest 249 = .ok (.iaload, 1) := by decide +kernel
theorem dX2_digest_250 : decode cX2_digest 250 = .ok (.i2l, 1) := by decide +kernel
theorem dX2_digest_251 : decode cX2_digest 251 = .ok (.ladd, 1) := by decide +kernel
theorem dX2_digest_252 : decode cX2_digest 252 = .ok (.lstore_n 2, 1) := by decide +kernel
theorem dX2_digest_253 : decode cX2_digest 253 = .ok (.iinc 4 1, 3) := by decide +kernel
theorem dX2_digest_256 : decode cX2_digest 256 = .ok (.goto (-59), 3) := by decide +kernel
theorem dX2_digest_259 : decode cX2_digest 259 = .ok (.iconst 0, 1) := by decide +kernel
theorem dX2_digest_260 : decode cX2_digest 260 = .ok (.istore 4, 2) := by decide +kernel
theorem dX2_digest_262 : decode cX2_digest 262 = .ok (.iload 4, 2) := by decide +kernel
theorem dX2_digest_264 : decode cX2_digest 264 = .ok (.aload_n 0, 1) := by decide +kernel
theorem dX2_digest_265 : decode cX2_digest 265 = .ok (.getfield 43, 3) := by decide +kernel
theorem dX2_digest_268 : decode cX2_digest 268 = .ok (.if_icmp .ge 76, 3) := by decide +kernel
theorem dX2_digest_271 : decode cX2_digest 271 = .ok (.lload_n 2, 1) := by decide +kernel
theorem dX2_digest_272 : decode cX2_digest 272 = .ok (.ldc2_w 160, 3) := by decide +kernel
theorem dX2_digest_275 : decode cX2_digest 275 = .ok (.lmul, 1) := by decide +kernel
theorem dX2_digest_276 : decode cX2_digest 276 = .ok (.aload_n 0, 1) := by decide +kernel
theorem dX2_digest_277 : decode cX2_digest 277 = .ok (.getfield 22, 3) := by decide +kernel
theorem dX2_digest_280 : decode cX2_digest 280 = .ok (.bipush 27, 2) := by decide +kernel
theorem dX2_digest_282 : decode cX2_digest 282 = .ok (.iload 4, 2) := by decide +kernel
theorem dX2_digest_284 : decode cX2_digest 284 = .ok (.iadd, 1) := by decide +kernel
theorem dX2_digest_285 : decode cX2_digest 285 = .ok (.iaload, 1) := by decide +kernel
theorem dX2_digest_286 : decode cX2_digest 286 = .ok (.i2l, 1) := by decide +kernel
theorem dX2_digest_287 : decode cX2_digest 287 = .ok (.ladd, 1) := by decide +kernel
theorem dX2_digest_288 : decode cX2_digest 288 = .ok (.ldc2_w 160, 3) := by decide +kernel
theorem dX2_digest_291 : decode cX2_digest 291 = .ok (.lmul, 1) := by decide +kernel
theorem dX2_digest_292 : decode cX2_digest 292 = .ok (.aload_n 0, 1) := by decide +kernel
theorem dX2_digest_293 : decode cX2_digest 293 = .ok (.iload 4, 2) := by decide +kernel
theorem dX2_digest_295 : decode cX2_digest 295 = .ok (.invokevirtual 124, 3) := by decide +kernel
theorem dX2_digest_298 : decode cX2_digest 298 = .ok (.i2l, 1) := by decide +kernel
theorem dX2_digest_299 : decode cX2_digest 299 = .ok (.ladd, 1) := by decide +kernel
theorem dX2_digest_300 : decode cX2_digest 300 = .ok (.ldc2_w 160, 3) := by decide +kernel
theorem dX2_digest_303 : decode cX2_digest 303 = .ok (.lmul, 1) := by decide +kernel
theorem dX2_digest_304 : decode cX2_digest 304 = .ok (.aload_n 0, 1) := by decide +kernel
theorem dX2_digest_305 : decode cX2_digest 305 = .ok (.iload 4, 2) := by decide +kernel
theorem dX2_digest_307 : decode cX2_digest 307 = .ok (.invokevirtual 127, 3) := by decide +kernel
theorem dX2_digest_310 : decode cX2_digest 310 = .ok (.ifCond .eq 7, 3) := by decide +kernel
theorem dX2_digest_313 : decode cX2_digest 313 = .ok (.iconst 1, 1) := by decide +kernel
theorem dX2_digest_314 : decode cX2_digest 314 = .ok (.goto 4, 3) := by decide +kernel
theorem dX2_digest_317 : decode cX2_digest 317 = .ok (.iconst 0, 1) := by decide +kernel
theorem dX2_digest_318 : decode cX2_digest 318 = .ok (.i2l, 1) := by decide +kernel
theorem dX2_digest_319 : decode cX2_digest 319 = .ok (.ladd, 1) := by decide +kernel
theorem dX2_digest_320 : decode cX2_digest 320 = .ok (.ldc2_w 160, 3) := by decide +kernel
theorem dX2_digest_323 : decode cX2_digest 323 = .ok (.lmul, 1) := by decide +kernel
theorem dX2_digest_324 : decode cX2_digest 324 = .ok (.aload_n 0, 1) := by decide +kernel
theorem dX2_digest_325 : decode cX2_digest 325 = .ok (.getfield 22, 3) := by decide +kernel
theorem dX2_digest_328 : decode cX2_digest 328 = .ok (.sipush 147, 3) := by decide +kernel
theorem dX2_digest_331 : decode cX2_digest 331 = .ok (.iload 4, 2) := by decide +kernel
theorem dX2_digest_333 : decode cX2_digest 333 = .ok (.iadd, 1) := by decide +kernel
theorem dX2_digest_334 : decode cX2_digest 334 = .ok (.iaload, 1) := by decide +kernel
theorem dX2_digest_335 : decode cX2_digest 335 = .ok (.i2l, 1) := by decide +kernel
theorem dX2_digest_336 : decode cX2_digest 336 = .ok (.ladd, 1) := by decide +kernel
theorem dX2_digest_337 : decode cX2_digest 337 = .ok (.lstore_n 2, 1) := by decide +kernel
theorem dX2_digest_338 : decode cX2_digest 338 = .ok (.iinc 4 1, 3) := by decide +kernel
theorem dX2_digest_341 : decode cX2_digest 341 = .ok (.goto (-79), 3) := by decide +kernel
theorem dX2_digest_344 : decode cX2_digest 344 = .ok (.iconst 0, 1) := by decide +kernel
theorem dX2_digest_345 : decode cX2_digest 345 = .ok (.istore 4, 2) := by decide +kernel
theorem dX2_digest_347 : decode cX2_digest 347 = .ok (.iload 4, 2) := by decide +kernel
theorem dX2_digest_349 : decode cX2_digest 349 = .ok (.bipush 32, 2) := by decide +kernel
theorem dX2_digest_351 : decode cX2_digest 351 = .ok (.if_icmp .ge 49, 3) := by decide +kernel
theorem dX2_digest_354 : decode cX2_digest 354 = .ok (.lload_n 2, 1) := by decide +kernel
theorem dX2_digest_355 : decode cX2_digest 355 = .ok (.ldc2_w 160, 3) := by decide +kernel
theorem dX2_digest_358 : decode cX2_digest 358 = .ok (.lmul, 1) := by decide +kernel
theorem dX2_digest_359 : decode cX2_digest 359 = .ok (.aload_n 0, 1) := by decide +kernel
theorem dX2_digest_360 : decode cX2_digest 360 = .ok (.getfield 9, 3) := by decide +kernel
theorem dX2_digest_363 : decode cX2_digest 363 = .ok (.iload 4, 2) := by decide +kernel
theorem dX2_digest_365 : decode cX2_digest 365 = .ok (.iaload, 1) := by decide +kernel
theorem dX2_digest_366 : decode cX2_digest 366 = .ok (.i2l, 1) := by decide +kernel
theorem dX2_digest_367 : decode cX2_digest 367 = .ok (.ladd, 1) := by decide +kernel
theorem dX2_digest_368 : decode cX2_digest 368 = .ok (.ldc2_w 160, 3) := by decide +kernel
theorem dX2_digest_371 : decode cX2_digest 371 = .ok (.lmul, 1) := by decide +kernel
theorem dX2_digest_372 : decode cX2_digest 372 = .ok (.aload_n 0, 1) := by decide +kernel
theorem dX2_digest_373 : decode cX2_digest 373 = .ok (.iload 4, 2) := by decide +kernel
theorem dX2_digest_375 : decode cX2_digest 375 = .ok (.invokevirtual 115, 3) := by decide +kernel
theorem dX2_digest_378 : decode cX2_digest 378 = .ok (.i2l, 1) := by decide +kernel
theorem dX2_digest_379 : decode cX2_digest 379 = .ok (.ladd, 1) := by decide +kernel
theorem dX2_digest_380 : decode cX2_digest 380 = .ok (.ldc2_w 160, 3) := by decide +kernel
theorem dX2_digest_383 : decode cX2_digest 383 = .ok (.lmul, 1) := by decide +kernel
theorem dX2_digest_384 : decode cX2_digest 384 = .ok (.aload_n 0, 1) := by decide +kernel
theorem dX2_digest_385 : decode cX2_digest 385 = .ok (.iload 4, 2) := by decide +kernel
theorem dX2_digest_387 : decode cX2_digest 387 = .ok (.iconst 1, 1) := by decide +kernel
theorem dX2_digest_388 : decode cX2_digest 388 = .ok (.invokevirtual 130, 3) := by decide +kernel
theorem dX2_digest_391 : decode cX2_digest 391 = .ok (.i2l, 1) := by decide +kernel
theorem dX2_digest_392 : decode cX2_digest 392 = .ok (.ladd, 1) := by decide +kernel
theorem dX2_digest_393 : decode cX2_digest 393 = .ok (.lstore_n 2, 1) := by decide +kernel
theorem dX2_digest_394 : decode cX2_digest 394 = .ok (.iinc 4 1, 3) := by decide +kernel
theorem dX2_digest_397 : decode cX2_digest 397 = .ok (.goto (-50), 3) := by decide +kernel
theorem dX2_digest_400 : decode cX2_digest 400 = .ok (.lload_n 2, 1) := by decide +kernel
theorem dX2_digest_401 : decode cX2_digest 401 = .ok (.lreturn, 1) := by decide +kernel
