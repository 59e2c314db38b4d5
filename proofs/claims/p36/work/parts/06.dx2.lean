theorem dX2_init_0 : decode cX2_init 0 = .ok (.aload_n 0, 1) := by decide +kernel
theorem dX2_init_1 : decode cX2_init 1 = .ok (.invokespecial 1, 3) := by decide +kernel
theorem dX2_init_4 : decode cX2_init 4 = .ok (.aload_n 0, 1) := by decide +kernel
theorem dX2_init_5 : decode cX2_init 5 = .ok (.bipush 32, 2) := by decide +kernel
theorem dX2_init_7 : decode cX2_init 7 = .ok (.newarray .int, 2) := by decide +kernel
theorem dX2_init_9 : decode cX2_init 9 = .ok (.putfield 7, 3) := by decide +kernel
theorem dX2_init_12 : decode cX2_init 12 = .ok (.aload_n 0, 1) := by decide +kernel
theorem dX2_init_13 : decode cX2_init 13 = .ok (.iconst 0, 1) := by decide +kernel
theorem dX2_init_14 : decode cX2_init 14 = .ok (.anewarray 13, 3) := by decide +kernel
theorem dX2_init_17 : decode cX2_init 17 = .ok (.putfield 14, 3) := by decide +kernel
theorem dX2_init_20 : decode cX2_init 20 = .ok (.aload_n 0, 1) := by decide +kernel
theorem dX2_init_21 : decode cX2_init 21 = .ok (.iconst 0, 1) := by decide +kernel
theorem dX2_init_22 : decode cX2_init 22 = .ok (.anewarray 13, 3) := by decide +kernel
theorem dX2_init_25 : decode cX2_init 25 = .ok (.putfield 18, 3) := by decide +kernel
theorem dX2_init_28 : decode cX2_init 28 = .ok (.aload_n 0, 1) := by decide +kernel
theorem dX2_init_29 : decode cX2_init 29 = .ok (.iconst 2, 1) := by decide +kernel
theorem dX2_init_30 : decode cX2_init 30 = .ok (.newarray .int, 2) := by decide +kernel
theorem dX2_init_32 : decode cX2_init 32 = .ok (.dup, 1) := by decide +kernel
theorem dX2_init_33 : decode cX2_init 33 = .ok (.iconst 0, 1) := by decide +kernel
theorem dX2_init_34 : decode cX2_init 34 = .ok (.iconst 0, 1) := by decide +kernel
theorem dX2_init_35 : decode cX2_init 35 = .ok (.iastore, 1) := by decide +kernel
theorem dX2_init_36 : decode cX2_init 36 = .ok (.dup, 1) := by decide +kernel
theorem dX2_init_37 : decode cX2_init 37 = .ok (.iconst 1, 1) := by decide +kernel
theorem dX2_init_38 : decode cX2_init 38 = .ok (.iconst 0, 1) := by decide +kernel
theorem dX2_init_39 : decode cX2_init 39 = .ok (.iastore, 1) := by decide +kernel
theorem dX2_init_40 : decode cX2_init 40 = .ok (.putfield 21, 3) := by decide +kernel
theorem dX2_init_43 : decode cX2_init 43 = .ok (.aload_n 0, 1) := by decide +kernel
theorem dX2_init_44 : decode cX2_init 44 = .ok (.iconst 2, 1) := by decide +kernel
theorem dX2_init_45 : decode cX2_init 45 = .ok (.newarray .int, 2) := by decide +kernel
theorem dX2_init_47 : decode cX2_init 47 = .ok (.dup, 1) := by decide +kernel
theorem dX2_init_48 : decode cX2_init 48 = .ok (.iconst 0, 1) := by decide +kernel
theorem dX2_init_49 : decode cX2_init 49 = .ok (.iconst 0, 1) := by decide +kernel
theorem dX2_init_50 : decode cX2_init 50 = .ok (.iastore, 1) := by decide +kernel
theorem dX2_init_51 : decode cX2_init 51 = .ok (.dup, 1) := by decide +kernel
theorem dX2_init_52 : decode cX2_init 52 = .ok (.iconst 1, 1) := by decide +kernel
theorem dX2_init_53 : decode cX2_init 53 = .ok (.iconst 0, 1) := by decide +kernel
theorem dX2_init_54 : decode cX2_init 54 = .ok (.iastore, 1) := by decide +kernel
theorem dX2_init_55 : decode cX2_init 55 = .ok (.putfield 24, 3) := by decide +kernel
theorem dX2_init_58 : decode cX2_init 58 = .ok (.return_, 1) := by decide +kernel
theorem dX2_with_0 : decode cX2_with 0 = .ok (.aload_n 0, 1) := by decide +kernel
theorem dX2_with_1 : decode cX2_with 1 = .ok (.arraylength, 1) := by decide +kernel
theorem dX2_with_2 : decode cX2_with 2 = .ok (.iconst 1, 1) := by decide +kernel
theorem dX2_with_3 : decode cX2_with 3 = .ok (.iadd, 1) := by decide +kernel
theorem dX2_with_4 : decode cX2_with 4 = .ok (.anewarray 13, 3) := by decide +kernel
theorem dX2_with_7 : decode cX2_with 7 = .ok (.astore_n 2, 1) := by decide +kernel
theorem dX2_with_8 : decode cX2_with 8 = .ok (.iconst 0, 1) := by decide +kernel
theorem dX2_with_9 : decode cX2_with 9 = .ok (.istore_n 3, 1) := by decide +kernel
theorem dX2_with_10 : decode cX2_with 10 = .ok (.iload_n 3, 1) := by decide +kernel
theorem dX2_with_11 : decode cX2_with 11 = .ok (.aload_n 0, 1) := by decide +kernel
theorem dX2_with_12 : decode cX2_with 12 = .ok (.arraylength, 1) := by decide +kernel
theorem dX2_with_13 : decode cX2_with 13 = .ok (.if_icmp .ge 15, 3) := by decide +kernel
theorem dX2_with_16 : decode cX2_with 16 = .ok (.aload_n 2, 1) := by decide +kernel
theorem dX2_with_17 : decode cX2_with 17 = .ok (.iload_n 3, 1) := by decide +kernel
theorem dX2_with_18 : decode cX2_with 18 = .ok (.aload_n 0, 1) := by decide +kernel
theorem dX2_with_19 : decode cX2_with 19 = .ok (.iload_n 3, 1) := by decide +kernel
theorem dX2_with_20 : decode cX2_with 20 = .ok (.aaload, 1) := by decide +kernel
theorem dX2_with_21 : decode cX2_with 21 = .ok (.aastore, 1) := by decide +kernel
theorem dX2_with_22 : decode cX2_with 22 = .ok (.iinc 3 1, 3) := by decide +kernel
theorem dX2_with_25 : decode cX2_with 25 = .ok (.goto (-15), 3) := by decide +kernel
theorem dX2_with_28 : decode cX2_with 28 = .ok (.aload_n 2, 1) := by decide +kernel
theorem dX2_with_29 : decode cX2_with 29 = .ok (.aload_n 0, 1) := by decide +kernel
theorem dX2_with_30 : decode cX2_with 30 = .ok (.arraylength, 1) := by decide +kernel
theorem dX2_with_31 : decode cX2_with 31 = .ok (.aload_n 1, 1) := by decide +kernel
theorem dX2_with_32 : decode cX2_with 32 = .ok (.aastore, 1) := by decide +kernel
theorem dX2_with_33 : decode cX2_with 33 = .ok (.aload_n 2, 1) := by decide +kernel
theorem dX2_with_34 : decode cX2_with 34 = .ok (.areturn, 1) := by decide +kernel
theorem dX2_copy_0 : decode cX2_copy 0 = .ok (.new 8, 3) := by decide +kernel
theorem dX2_copy_3 : decode cX2_copy 3 = .ok (.dup, 1) := by decide +kernel
theorem dX2_copy_4 : decode cX2_copy 4 = .ok (.invokespecial 27, 3) := by decide +kernel
theorem dX2_copy_7 : decode cX2_copy 7 = .ok (.astore_n 1, 1) := by decide +kernel
theorem dX2_copy_8 : decode cX2_copy 8 = .ok (.aload_n 1, 1) := by decide +kernel
theorem dX2_copy_9 : decode cX2_copy 9 = .ok (.aload_n 0, 1) := by decide +kernel
theorem dX2_copy_10 : decode cX2_copy 10 = .ok (.getfield 7, 3) := by decide +kernel
theorem dX2_copy_13 : decode cX2_copy 13 = .ok (.putfield 7, 3) := by decide +kernel
theorem dX2_copy_16 : decode cX2_copy 16 = .ok (.aload_n 1, 1) := by decide +kernel
theorem dX2_copy_17 : decode cX2_copy 17 = .ok (.aload_n 0, 1) := by decide +kernel
theorem dX2_copy_18 : decode cX2_copy 18 = .ok (.getfield 14, 3) := by decide +kernel
theorem dX2_copy_21 : decode cX2_copy 21 = .ok (.arraylength, 1) := by decide +kernel
theorem dX2_copy_22 : decode cX2_copy 22 = .ok (.anewarray 13, 3) := by decide +kernel
theorem dX2_copy_25 : decode cX2_copy 25 = .ok (.putfield 14, 3) := by decide +kernel
theorem dX2_copy_28 : decode cX2_copy 28 = .ok (.iconst 0, 1) := by decide +kernel
theorem dX2_copy_29 : decode cX2_copy 29 = .ok (.istore_n 2, 1) := by decide +kernel
theorem dX2_copy_30 : decode cX2_copy 30 = .ok (.iload_n 2, 1) := by decide +kernel
theorem dX2_copy_31 : decode cX2_copy 31 = .ok (.aload_n 0, 1) := by decide +kernel
theorem dX2_copy_32 : decode cX2_copy 32 = .ok (.getfield 14, 3) := by decide +kernel
theorem dX2_copy_35 : decode cX2_copy 35 = .ok (.arraylength, 1) := by decide +kernel
theorem dX2_copy_36 : decode cX2_copy 36 = .ok (.if_icmp .ge 27, 3) := by decide +kernel
theorem dX2_copy_39 : decode cX2_copy 39 = .ok (.aload_n 1, 1) := by decide +kernel
theorem dX2_copy_40 : decode cX2_copy 40 = .ok (.getfield 14, 3) := by decide +kernel
theorem dX2_copy_43 : decode cX2_copy 43 = .ok (.iload_n 2, 1) := by decide +kernel
theorem dX2_copy_44 : decode cX2_copy 44 = .ok (.aload_n 0, 1) := by decide +kernel
theorem dX2_copy_45 : decode cX2_copy 45 = .ok (.getfield 14, 3) := by decide +kernel
theorem dX2_copy_48 : decode cX2_copy 48 = .ok (.iload_n 2, 1) := by decide +kernel
theorem dX2_copy_49 : decode cX2_copy 49 = .ok (.aaload, 1) := by decide +kernel
theorem dX2_copy_50 : decode cX2_copy 50 = .ok (.invokevirtual 28, 3) := by decide +kernel
theorem dX2_copy_53 : decode cX2_copy 53 = .ok (.checkcast 13, 3) := by decide +kernel
theorem dX2_copy_56 : decode cX2_copy 56 = .ok (.aastore, 1) := by decide +kernel
theorem dX2_copy_57 : decode cX2_copy 57 = .ok (.iinc 2 1, 3) := by decide +kernel
theorem dX2_copy_60 : decode cX2_copy 60 = .ok (.goto (-30), 3) := by decide +kernel
theorem dX2_copy_63 : decode cX2_copy 63 = .ok (.aload_n 1, 1) := by decide +kernel
theorem dX2_copy_64 : decode cX2_copy 64 = .ok (.aload_n 0, 1) := by decide +kernel
theorem dX2_copy_65 : decode cX2_copy 65 = .ok (.getfield 18, 3) := by decide +kernel
theorem dX2_copy_68 : decode cX2_copy 68 = .ok (.arraylength, 1) := by decide +kernel
theorem dX2_copy_69 : decode cX2_copy 69 = .ok (.anewarray 13, 3) := by decide +kernel
theorem dX2_copy_72 : decode cX2_copy 72 = .ok (.putfield 18, 3) := by decide +kernel
theorem dX2_copy_75 : decode cX2_copy 75 = .ok (.iconst 0, 1) := by decide +kernel
theorem dX2_copy_76 : decode cX2_copy 76 = .ok (.istore_n 2, 1) := by decide +kernel
theorem dX2_copy_77 : decode cX2_copy 77 = .ok (.iload_n 2, 1) := by decide +kernel
theorem dX2_copy_78 : decode cX2_copy 78 = .ok (.aload_n 0, 1) := by decide +kernel
theorem dX2_copy_79 : decode cX2_copy 79 = .ok (.getfield 18, 3) := by decide +kernel
theorem dX2_copy_82 : decode cX2_copy 82 = .ok (.arraylength, 1) := by decide +kernel
theorem dX2_copy_83 : decode cX2_copy 83 = .ok (.if_icmp .ge 27, 3) := by decide +kernel
theorem dX2_copy_86 : decode cX2_copy 86 = .ok (.aload_n 1, 1) := by decide +kernel
theorem dX2_copy_87 : decode cX2_copy 87 = .ok (.getfield 18, 3) := by decide +kernel
theorem dX2_copy_90 : decode cX2_copy 90 = .ok (.iload_n 2, 1) := by decide +kernel
theorem dX2_copy_91 : decode cX2_copy 91 = .ok (.aload_n 0, 1) := by decide +kernel
theorem dX2_copy_92 : decode cX2_copy 92 = .ok (.getfield 18, 3) := by decide +kernel
theorem dX2_copy_95 : decode cX2_copy 95 = .ok (.iload_n 2, 1) := by decide +kernel
theorem dX2_copy_96 : decode cX2_copy 96 = .ok (.aaload, 1) := by decide +kernel
theorem dX2_copy_97 : decode cX2_copy 97 = .ok (.invokevirtual 28, 3) := by decide +kernel
theorem dX2_copy_100 : decode cX2_copy 100 = .ok (.checkcast 13, 3) := by decide +kernel
theorem dX2_copy_103 : decode cX2_copy 103 = .ok (.aastore, 1) := by decide +kernel
theorem dX2_copy_104 : decode cX2_copy 104 = .ok (.iinc 2 1, 3) := by decide +kernel
theorem dX2_copy_107 : decode cX2_copy 107 = .ok (.goto (-30), 3) := by decide +kernel
theorem dX2_copy_110 : decode cX2_copy 110 = .ok (.aload_n 1, 1) := by decide +kernel
theorem dX2_copy_111 : decode cX2_copy 111 = .ok (.aload_n 0, 1) := by decide +kernel
theorem dX2_copy_112 : decode cX2_copy 112 = .ok (.getfield 21, 3) := by decide +kernel
theorem dX2_copy_115 : decode cX2_copy 115 = .ok (.invokevirtual 28, 3) := by decide +kernel
theorem dX2_copy_118 : decode cX2_copy 118 = .ok (.checkcast 13, 3) := by decide +kernel
theorem dX2_copy_121 : decode cX2_copy 121 = .ok (.putfield 21, 3) := by decide +kernel
theorem dX2_copy_124 : decode cX2_copy 124 = .ok (.aload_n 1, 1) := by decide +kernel
theorem dX2_copy_125 : decode cX2_copy 125 = .ok (.aload_n 0, 1) := by decide +kernel
theorem dX2_copy_126 : decode cX2_copy 126 = .ok (.getfield 24, 3) := by decide +kernel
theorem dX2_copy_129 : decode cX2_copy 129 = .ok (.invokevirtual 28, 3) := by decide +kernel
theorem dX2_copy_132 : decode cX2_copy 132 = .ok (.checkcast 13, 3) := by decide +kernel
theorem dX2_copy_135 : decode cX2_copy 135 = .ok (.putfield 24, 3) := by decide +kernel
theorem dX2_copy_138 : decode cX2_copy 138 = .ok (.aload_n 1, 1) := by decide +kernel
theorem dX2_copy_139 : decode cX2_copy 139 = .ok (.aload_n 0, 1) := by decide +kernel
theorem dX2_copy_140 : decode cX2_copy 140 = .ok (.getfield 32, 3) := by decide +kernel
theorem dX2_copy_143 : decode cX2_copy 143 = .ok (.putfield 32, 3) := by decide +kernel
theorem dX2_copy_146 : decode cX2_copy 146 = .ok (.aload_n 1, 1) := by decide +kernel
theorem dX2_copy_147 : decode cX2_copy 147 = .ok (.aload_n 0, 1) := by decide +kernel
theorem dX2_copy_148 : decode cX2_copy 148 = .ok (.getfield 36, 3) := by decide +kernel
theorem dX2_copy_151 : decode cX2_copy 151 = .ok (.putfield 36, 3) := by decide +kernel
theorem dX2_copy_154 : decode cX2_copy 154 = .ok (.aload_n 1, 1) := by decide +kernel
theorem dX2_copy_155 : decode cX2_copy 155 = .ok (.aload_n 0, 1) := by decide +kernel
theorem dX2_copy_156 : decode cX2_copy 156 = .ok (.getfield 39, 3) := by decide +kernel
theorem dX2_copy_159 : decode cX2_copy 159 = .ok (.putfield 39, 3) := by decide +kernel
theorem dX2_copy_162 : decode cX2_copy 162 = .ok (.aload_n 1, 1) := by decide +kernel
theorem dX2_copy_163 : decode cX2_copy 163 = .ok (.areturn, 1) := by decide +kernel
theorem dX2_wallOn_0 : decode cX2_wallOn 0 = .ok (.iconst 0, 1) := by decide +kernel
theorem dX2_wallOn_1 : decode cX2_wallOn 1 = .ok (.istore_n 2, 1) := by decide +kernel
theorem dX2_wallOn_2 : decode cX2_wallOn 2 = .ok (.iload_n 2, 1) := by decide +kernel
theorem dX2_wallOn_3 : decode cX2_wallOn 3 = .ok (.aload_n 0, 1) := by decide +kernel
theorem dX2_wallOn_4 : decode cX2_wallOn 4 = .ok (.getfield 14, 3) := by decide +kernel
theorem dX2_wallOn_7 : decode cX2_wallOn 7 = .ok (.arraylength, 1) := by decide +kernel
theorem dX2_wallOn_8 : decode cX2_wallOn 8 = .ok (.if_icmp .ge 23, 3) := by decide +kernel
theorem dX2_wallOn_11 : decode cX2_wallOn 11 = .ok (.aload_n 0, 1) := by decide +kernel
theorem dX2_wallOn_12 : decode cX2_wallOn 12 = .ok (.getfield 14, 3) := by decide +kernel
theorem dX2_wallOn_15 : decode cX2_wallOn 15 = .ok (.iload_n 2, 1) := by decide +kernel
theorem dX2_wallOn_16 : decode cX2_wallOn 16 = .ok (.aaload, 1) := by decide +kernel
theorem dX2_wallOn_17 : decode cX2_wallOn 17 = .ok (.iconst 0, 1) := by decide +kernel
theorem dX2_wallOn_18 : decode cX2_wallOn 18 = .ok (.iaload, 1) := by decide +kernel
theorem dX2_wallOn_19 : decode cX2_wallOn 19 = .ok (.iload_n 1, 1) := by decide +kernel
theorem dX2_wallOn_20 : decode cX2_wallOn 20 = .ok (.if_icmp .ne 5, 3) := by decide +kernel
theorem dX2_wallOn_23 : decode cX2_wallOn 23 = .ok (.iload_n 2, 1) := by decide +kernel
theorem dX2_wallOn_24 : decode cX2_wallOn 24 = .ok (.ireturn, 1) := by decide +kernel
theorem dX2_wallOn_25 : decode cX2_wallOn 25 = .ok (.iinc 2 1, 3) := by decide +kernel
theorem dX2_wallOn_28 : decode cX2_wallOn 28 = .ok (.goto (-26), 3) := by decide +kernel
theorem dX2_wallOn_31 : decode cX2_wallOn 31 = .ok (.iconst (-1), 1) := by decide +kernel
theorem dX2_wallOn_32 : decode cX2_wallOn 32 = .ok (.ireturn, 1) := by decide +kernel
theorem dX2_loudestOn_0 : decode cX2_loudestOn 0 = .ok (.iconst (-1), 1) := by decide +kernel
theorem dX2_loudestOn_1 : decode cX2_loudestOn 1 = .ok (.istore_n 2, 1) := by decide +kernel
theorem dX2_loudestOn_2 : decode cX2_loudestOn 2 = .ok (.aload_n 0, 1) := by decide +kernel
theorem dX2_loudestOn_3 : decode cX2_loudestOn 3 = .ok (.getfield 18, 3) := by decide +kernel
theorem dX2_loudestOn_6 : decode cX2_loudestOn 6 = .ok (.arraylength, 1) := by decide +kernel
theorem dX2_loudestOn_7 : decode cX2_loudestOn 7 = .ok (.iconst 1, 1) := by decide +kernel
theorem dX2_loudestOn_8 : decode cX2_loudestOn 8 = .ok (.isub, 1) := by decide +kernel
theorem dX2_loudestOn_9 : decode cX2_loudestOn 9 = .ok (.istore_n 3, 1) := by decide +kernel
theorem dX2_loudestOn_10 : decode cX2_loudestOn 10 = .ok (.iload_n 3, 1) := by decide +kernel
theorem dX2_loudestOn_11 : decode cX2_loudestOn 11 = .ok (.ifCond .lt 57, 3) := by decide +kernel
theorem dX2_loudestOn_14 : decode cX2_loudestOn 14 = .ok (.aload_n 0, 1) := by decide +kernel
theorem dX2_loudestOn_15 : decode cX2_loudestOn 15 = .ok (.getfield 18, 3) := by decide +kernel
theorem dX2_loudestOn_18 : decode cX2_loudestOn 18 = .ok (.iload_n 3, 1) := by decide +kernel
theorem dX2_loudestOn_19 : decode cX2_loudestOn 19 = .ok (.aaload, 1) := by decide +kernel
theorem dX2_loudestOn_20 : decode cX2_loudestOn 20 = .ok (.iconst 0, 1) := by decide +kernel
theorem dX2_loudestOn_21 : decode cX2_loudestOn 21 = .ok (.iaload, 1) := by decide +kernel
theorem dX2_loudestOn_22 : decode cX2_loudestOn 22 = .ok (.ifCond .le 40, 3) := by decide +kernel
theorem dX2_loudestOn_25 : decode cX2_loudestOn 25 = .ok (.aload_n 0, 1) := by decide +kernel
theorem dX2_loudestOn_26 : decode cX2_loudestOn 26 = .ok (.getfield 18, 3) := by decide +kernel
theorem dX2_loudestOn_29 : decode cX2_loudestOn 29 = .ok (.iload_n 3, 1) := by decide +kernel
theorem dX2_loudestOn_30 : decode cX2_loudestOn 30 = .ok (.aaload, 1) := by decide +kernel
theorem dX2_loudestOn_31 : decode cX2_loudestOn 31 = .ok (.iconst 1, 1) := by decide +kernel
theorem dX2_loudestOn_32 : decode cX2_loudestOn 32 = .ok (.iaload, 1) := by decide +kernel
theorem dX2_loudestOn_33 : decode cX2_loudestOn 33 = .ok (.iload_n 1, 1) := by decide +kernel
theorem dX2_loudestOn_34 : decode cX2_loudestOn 34 = .ok (.if_icmp .ne 28, 3) := by decide +kernel
theorem dX2_loudestOn_37 : decode cX2_loudestOn 37 = .ok (.iload_n 2, 1) := by decide +kernel
theorem dX2_loudestOn_38 : decode cX2_loudestOn 38 = .ok (.ifCond .lt 22, 3) := by decide +kernel
theorem dX2_loudestOn_41 : decode cX2_loudestOn 41 = .ok (.aload_n 0, 1) := by decide +kernel
theorem dX2_loudestOn_42 : decode cX2_loudestOn 42 = .ok (.getfield 18, 3) := by decide +kernel
theorem dX2_loudestOn_45 : decode cX2_loudestOn 45 = .ok (.iload_n 3, 1) := by decide +kernel
theorem dX2_loudestOn_46 : decode cX2_loudestOn 46 = .ok (.aaload, 1) := by decide +kernel
theorem dX2_loudestOn_47 : decode cX2_loudestOn 47 = .ok (.iconst 0, 1) := by decide +kernel
theorem dX2_loudestOn_48 : decode cX2_loudestOn 48 = .ok (.iaload, 1) := by decide +kernel
theorem dX2_loudestOn_49 : decode cX2_loudestOn 49 = .ok (.aload_n 0, 1) := by decide +kernel
theorem dX2_loudestOn_50 : decode cX2_loudestOn 50 = .ok (.getfield 18, 3) := by decide +kernel
theorem dX2_loudestOn_53 : decode cX2_loudestOn 53 = .ok (.iload_n 2, 1) := by decide +kernel
theorem dX2_loudestOn_54 : decode cX2_loudestOn 54 = .ok (.aaload, 1) := by decide +kernel
theorem dX2_loudestOn_55 : decode cX2_loudestOn 55 = .ok (.iconst 0, 1) := by decide +kernel
theorem dX2_loudestOn_56 : decode cX2_loudestOn 56 = .ok (.iaload, 1) := by decide +kernel
theorem dX2_loudestOn_57 : decode cX2_loudestOn 57 = .ok (.if_icmp .lt 5, 3) := by decide +kernel
theorem dX2_loudestOn_60 : decode cX2_loudestOn 60 = .ok (.iload_n 3, 1) := by decide +kernel
theorem dX2_loudestOn_61 : decode cX2_loudestOn 61 = .ok (.istore_n 2, 1) := by decide +kernel
theorem dX2_loudestOn_62 : decode cX2_loudestOn 62 = .ok (.iinc 3 (-1), 3) := by decide +kernel
theorem dX2_loudestOn_65 : decode cX2_loudestOn 65 = .ok (.goto (-55), 3) := by decide +kernel
theorem dX2_loudestOn_68 : decode cX2_loudestOn 68 = .ok (.iload_n 2, 1) := by decide +kernel
theorem dX2_loudestOn_69 : decode cX2_loudestOn 69 = .ok (.ireturn, 1) := by decide +kernel
theorem dX2_underWay_0 : decode cX2_underWay 0 = .ok (.iconst 0, 1) := by decide +kernel
theorem dX2_underWay_1 : decode cX2_underWay 1 = .ok (.istore_n 1, 1) := by decide +kernel
theorem dX2_underWay_2 : decode cX2_underWay 2 = .ok (.aload_n 0, 1) := by decide +kernel
theorem dX2_underWay_3 : decode cX2_underWay 3 = .ok (.getfield 18, 3) := by decide +kernel
theorem dX2_underWay_6 : decode cX2_underWay 6 = .ok (.astore_n 2, 1) := by decide +kernel
theorem dX2_underWay_7 : decode cX2_underWay 7 = .ok (.aload_n 2, 1) := by decide +kernel
theorem dX2_underWay_8 : decode cX2_underWay 8 = .ok (.arraylength, 1) := by decide +kernel
theorem dX2_underWay_9 : decode cX2_underWay 9 = .ok (.istore_n 3, 1) := by decide +kernel
theorem dX2_underWay_10 : decode cX2_underWay 10 = .ok (.iconst 0, 1) := by decide +kernel
theorem dX2_underWay_11 : decode cX2_underWay 11 = .ok (.istore 4, 2) := by decide +kernel
theorem dX2_underWay_13 : decode cX2_underWay 13 = .ok (.iload 4, 2) := by decide +kernel
theorem dX2_underWay_15 : decode cX2_underWay 15 = .ok (.iload_n 3, 1) := by decide +kernel
theorem dX2_underWay_16 : decode cX2_underWay 16 = .ok (.if_icmp .ge 30, 3) := by decide +kernel
theorem dX2_underWay_19 : decode cX2_underWay 19 = .ok (.aload_n 2, 1) := by decide +kernel
theorem dX2_underWay_20 : decode cX2_underWay 20 = .ok (.iload 4, 2) := by decide +kernel
theorem dX2_underWay_22 : decode cX2_underWay 22 = .ok (.aaload, 1) := by decide +kernel
theorem dX2_underWay_23 : decode cX2_underWay 23 = .ok (.astore 5, 2) := by decide +kernel
theorem dX2_underWay_25 : decode cX2_underWay 25 = .ok (.iload_n 1, 1) := by decide +kernel
theorem dX2_underWay_26 : decode cX2_underWay 26 = .ok (.aload 5, 2) := by decide +kernel
theorem dX2_underWay_28 : decode cX2_underWay 28 = .ok (.iconst 0, 1) := by decide +kernel
theorem dX2_underWay_29 : decode cX2_underWay 29 = .ok (.iaload, 1) := by decide +kernel
theorem dX2_underWay_30 : decode cX2_underWay 30 = .ok (.ifCond .le 7, 3) := by decide +kernel
theorem dX2_underWay_33 : decode cX2_underWay 33 = .ok (.iconst 1, 1) := by decide +kernel
theorem dX2_underWay_34 : decode cX2_underWay 34 = .ok (.goto 4, 3) := by decide +kernel
theorem dX2_underWay_37 : decode cX2_underWay 37 = .ok (.iconst 0, 1) := by decide +kernel
theorem dX2_underWay_38 : decode cX2_underWay 38 = .ok (.iadd, 1) := by decide +kernel
theorem dX2_underWay_39 : decode cX2_underWay 39 = .ok (.istore_n 1, 1) := by decide +kernel
theorem dX2_underWay_40 : decode cX2_underWay 40 = .ok (.iinc 4 1, 3) := by decide +kernel
theorem dX2_underWay_43 : decode cX2_underWay 43 = .ok (.goto (-30), 3) := by decide +kernel
theorem dX2_underWay_46 : decode cX2_underWay 46 = .ok (.iload_n 1, 1) := by decide +kernel
theorem dX2_underWay_47 : decode cX2_underWay 47 = .ok (.ireturn, 1) := by decide +kernel
theorem dX2_pass_0 : decode cX2_pass 0 = .ok (.iconst 2, 1) := by decide +kernel
theorem dX2_pass_1 : decode cX2_pass 1 = .ok (.newarray .int, 2) := by decide +kernel
theorem dX2_pass_3 : decode cX2_pass 3 = .ok (.dup, 1) := by decide +kernel
theorem dX2_pass_4 : decode cX2_pass 4 = .ok (.iconst 0, 1) := by decide +kernel
theorem dX2_pass_5 : decode cX2_pass 5 = .ok (.iconst 0, 1) := by decide +kernel
theorem dX2_pass_6 : decode cX2_pass 6 = .ok (.iastore, 1) := by decide +kernel
theorem dX2_pass_7 : decode cX2_pass 7 = .ok (.dup, 1) := by decide +kernel
theorem dX2_pass_8 : decode cX2_pass 8 = .ok (.iconst 1, 1) := by decide +kernel
theorem dX2_pass_9 : decode cX2_pass 9 = .ok (.iconst 0, 1) := by decide +kernel
theorem dX2_pass_10 : decode cX2_pass 10 = .ok (.iastore, 1) := by decide +kernel
theorem dX2_pass_11 : decode cX2_pass 11 = .ok (.astore_n 1, 1) := by decide +kernel
theorem dX2_pass_12 : decode cX2_pass 12 = .ok (.aload_n 0, 1) := by decide +kernel
theorem dX2_pass_13 : decode cX2_pass 13 = .ok (.getfield 18, 3) := by decide +kernel
theorem dX2_pass_16 : decode cX2_pass 16 = .ok (.astore_n 2, 1) := by decide +kernel
theorem dX2_pass_17 : decode cX2_pass 17 = .ok (.aload_n 2, 1) := by decide +kernel
theorem dX2_pass_18 : decode cX2_pass 18 = .ok (.arraylength, 1) := by decide +kernel
theorem dX2_pass_19 : decode cX2_pass 19 = .ok (.istore_n 3, 1) := by decide +kernel
theorem dX2_pass_20 : decode cX2_pass 20 = .ok (.iconst 0, 1) := by decide +kernel
theorem dX2_pass_21 : decode cX2_pass 21 = .ok (.istore 4, 2) := by decide +kernel
theorem dX2_pass_23 : decode cX2_pass 23 = .ok (.iload 4, 2) := by decide +kernel
theorem dX2_pass_25 : decode cX2_pass 25 = .ok (.iload_n 3, 1) := by decide +kernel
theorem dX2_pass_26 : decode cX2_pass 26 = .ok (.if_icmp .ge 176, 3) := by decide +kernel
theorem dX2_pass_29 : decode cX2_pass 29 = .ok (.aload_n 2, 1) := by decide +kernel
theorem dX2_pass_30 : decode cX2_pass 30 = .ok (.iload 4, 2) := by decide +kernel
theorem dX2_pass_32 : decode cX2_pass 32 = .ok (.aaload, 1) := by decide +kernel
theorem dX2_pass_33 : decode cX2_pass 33 = .ok (.astore 5, 2) := by decide +kernel
theorem dX2_pass_35 : decode cX2_pass 35 = .ok (.aload 5, 2) := by decide +kernel
theorem dX2_pass_37 : decode cX2_pass 37 = .ok (.iconst 0, 1) := by decide +kernel
theorem dX2_pass_38 : decode cX2_pass 38 = .ok (.iaload, 1) := by decide +kernel
theorem dX2_pass_39 : decode cX2_pass 39 = .ok (.ifCond .ne 6, 3) := by decide +kernel
theorem dX2_pass_42 : decode cX2_pass 42 = .ok (.goto 154, 3) := by decide +kernel
theorem dX2_pass_45 : decode cX2_pass 45 = .ok (.aload 5, 2) := by decide +kernel
theorem dX2_pass_47 : decode cX2_pass 47 = .ok (.iconst 1, 1) := by decide +kernel
theorem dX2_pass_48 : decode cX2_pass 48 = .ok (.dup2, 1) := by decide +kernel
theorem dX2_pass_49 : decode cX2_pass 49 = .ok (.iaload, 1) := by decide +kernel
theorem dX2_pass_50 : decode cX2_pass 50 = .ok (.aload 5, 2) := by decide +kernel
theorem dX2_pass_52 : decode cX2_pass 52 = .ok (.iconst 2, 1) := by decide +kernel
theorem dX2_pass_53 : decode cX2_pass 53 = .ok (.iaload, 1) := by decide +kernel
theorem dX2_pass_54 : decode cX2_pass 54 = .ok (.iadd, 1) := by decide +kernel
theorem dX2_pass_55 : decode cX2_pass 55 = .ok (.iastore, 1) := by decide +kernel
theorem dX2_pass_56 : decode cX2_pass 56 = .ok (.aload 5, 2) := by decide +kernel
theorem dX2_pass_58 : decode cX2_pass 58 = .ok (.iconst 1, 1) := by decide +kernel
theorem dX2_pass_59 : decode cX2_pass 59 = .ok (.iaload, 1) := by decide +kernel
theorem dX2_pass_60 : decode cX2_pass 60 = .ok (.ifCond .lt 12, 3) := by decide +kernel
theorem dX2_pass_63 : decode cX2_pass 63 = .ok (.aload 5, 2) := by decide +kernel
theorem dX2_pass_65 : decode cX2_pass 65 = .ok (.iconst 1, 1) := by decide +kernel
theorem dX2_pass_66 : decode cX2_pass 66 = .ok (.iaload, 1) := by decide +kernel
theorem dX2_pass_67 : decode cX2_pass 67 = .ok (.bipush 31, 2) := by decide +kernel
theorem dX2_pass_69 : decode cX2_pass 69 = .ok (.if_icmp .le 11, 3) := by decide +kernel
theorem dX2_pass_72 : decode cX2_pass 72 = .ok (.aload 5, 2) := by decide +kernel
theorem dX2_pass_74 : decode cX2_pass 74 = .ok (.iconst 0, 1) := by decide +kernel
theorem dX2_pass_75 : decode cX2_pass 75 = .ok (.iconst 0, 1) := by decide +kernel
theorem dX2_pass_76 : decode cX2_pass 76 = .ok (.iastore, 1) := by decide +kernel
theorem dX2_pass_77 : decode cX2_pass 77 = .ok (.goto 119, 3) := by decide +kernel
theorem dX2_pass_80 : decode cX2_pass 80 = .ok (.aload 5, 2) := by decide +kernel
theorem dX2_pass_82 : decode cX2_pass 82 = .ok (.iconst 0, 1) := by decide +kernel
theorem dX2_pass_83 : decode cX2_pass 83 = .ok (.iconst 0, 1) := by decide +kernel
theorem dX2_pass_84 : decode cX2_pass 84 = .ok (.aload 5, 2) := by decide +kernel
theorem dX2_pass_86 : decode cX2_pass 86 = .ok (.iconst 0, 1) := by decide +kernel
theorem dX2_pass_87 : decode cX2_pass 87 = .ok (.iaload, 1) := by decide +kernel
theorem dX2_pass_88 : decode cX2_pass 88 = .ok (.iconst 1, 1) := by decide +kernel
theorem dX2_pass_89 : decode cX2_pass 89 = .ok (.isub, 1) := by decide +kernel
theorem dX2_pass_90 : decode cX2_pass 90 = .ok (.aload_n 0, 1) := by decide +kernel
theorem dX2_pass_91 : decode cX2_pass 91 = .ok (.getfield 7, 3) := by decide +kernel
theorem dX2_pass_94 : decode cX2_pass 94 = .ok (.aload 5, 2) := by decide +kernel
theorem dX2_pass_96 : decode cX2_pass 96 = .ok (.iconst 1, 1) := by decide +kernel
theorem dX2_pass_97 : decode cX2_pass 97 = .ok (.iaload, 1) := by decide +kernel
theorem dX2_pass_98 : decode cX2_pass 98 = .ok (.iaload, 1) := by decide +kernel
theorem dX2_pass_99 : decode cX2_pass 99 = .ok (.isub, 1) := by decide +kernel
theorem dX2_pass_100 : decode cX2_pass 100 = .ok (.invokestatic 42, 3) := by decide +kernel
theorem dX2_pass_103 : decode cX2_pass 103 = .ok (.iastore, 1) := by decide +kernel
theorem dX2_pass_104 : decode cX2_pass 104 = .ok (.aload_n 0, 1) := by decide +kernel
theorem dX2_pass_105 : decode cX2_pass 105 = .ok (.aload 5, 2) := by decide +kernel
theorem dX2_pass_107 : decode cX2_pass 107 = .ok (.iconst 1, 1) := by decide +kernel
theorem dX2_pass_108 : decode cX2_pass 108 = .ok (.iaload, 1) := by decide +kernel
theorem dX2_pass_109 : decode cX2_pass 109 = .ok (.invokevirtual 48, 3) := by decide +kernel
theorem dX2_pass_112 : decode cX2_pass 112 = .ok (.istore 6, 2) := by decide +kernel
theorem dX2_pass_114 : decode cX2_pass 114 = .ok (.aload 5, 2) := by decide +kernel
theorem dX2_pass_116 : decode cX2_pass 116 = .ok (.iconst 0, 1) := by decide +kernel
theorem dX2_pass_117 : decode cX2_pass 117 = .ok (.iaload, 1) := by decide +kernel
theorem dX2_pass_118 : decode cX2_pass 118 = .ok (.ifCond .eq 78, 3) := by decide +kernel
theorem dX2_pass_121 : decode cX2_pass 121 = .ok (.iload 6, 2) := by decide +kernel
theorem dX2_pass_123 : decode cX2_pass 123 = .ok (.ifCond .ge 6, 3) := by decide +kernel
theorem dX2_pass_126 : decode cX2_pass 126 = .ok (.goto 70, 3) := by decide +kernel
theorem dX2_pass_129 : decode cX2_pass 129 = .ok (.aload_n 1, 1) := by decide +kernel
theorem dX2_pass_130 : decode cX2_pass 130 = .ok (.aload_n 0, 1) := by decide +kernel
theorem dX2_pass_131 : decode cX2_pass 131 = .ok (.getfield 14, 3) := by decide +kernel
theorem dX2_pass_134 : decode cX2_pass 134 = .ok (.iload 6, 2) := by decide +kernel
theorem dX2_pass_136 : decode cX2_pass 136 = .ok (.aaload, 1) := by decide +kernel
theorem dX2_pass_137 : decode cX2_pass 137 = .ok (.iconst 1, 1) := by decide +kernel
theorem dX2_pass_138 : decode cX2_pass 138 = .ok (.iaload, 1) := by decide +kernel
theorem dX2_pass_139 : decode cX2_pass 139 = .ok (.dup2, 1) := by decide +kernel
theorem dX2_pass_140 : decode cX2_pass 140 = .ok (.iaload, 1) := by decide +kernel
theorem dX2_pass_141 : decode cX2_pass 141 = .ok (.iconst 1, 1) := by decide +kernel
theorem dX2_pass_142 : decode cX2_pass 142 = .ok (.iadd, 1) := by decide +kernel
theorem dX2_pass_143 : decode cX2_pass 143 = .ok (.iastore, 1) := by decide +kernel
theorem dX2_pass_144 : decode cX2_pass 144 = .ok (.aload_n 0, 1) := by decide +kernel
theorem dX2_pass_145 : decode cX2_pass 145 = .ok (.getfield 14, 3) := by decide +kernel
theorem dX2_pass_148 : decode cX2_pass 148 = .ok (.iload 6, 2) := by decide +kernel
theorem dX2_pass_150 : decode cX2_pass 150 = .ok (.aaload, 1) := by decide +kernel
theorem dX2_pass_151 : decode cX2_pass 151 = .ok (.iconst 3, 1) := by decide +kernel
theorem dX2_pass_152 : decode cX2_pass 152 = .ok (.dup2, 1) := by decide +kernel
theorem dX2_pass_153 : decode cX2_pass 153 = .ok (.iaload, 1) := by decide +kernel
theorem dX2_pass_154 : decode cX2_pass 154 = .ok (.iconst 1, 1) := by decide +kernel
theorem dX2_pass_155 : decode cX2_pass 155 = .ok (.iadd, 1) := by decide +kernel
theorem dX2_pass_156 : decode cX2_pass 156 = .ok (.iastore, 1) := by decide +kernel
theorem dX2_pass_157 : decode cX2_pass 157 = .ok (.aload 5, 2) := by decide +kernel
theorem dX2_pass_159 : decode cX2_pass 159 = .ok (.iconst 3, 1) := by decide +kernel
theorem dX2_pass_160 : decode cX2_pass 160 = .ok (.dup2, 1) := by decide +kernel
theorem dX2_pass_161 : decode cX2_pass 161 = .ok (.iaload, 1) := by decide +kernel
theorem dX2_pass_162 : decode cX2_pass 162 = .ok (.iconst 1, 1) := by decide +kernel
theorem dX2_pass_163 : decode cX2_pass 163 = .ok (.iadd, 1) := by decide +kernel
theorem dX2_pass_164 : decode cX2_pass 164 = .ok (.iastore, 1) := by decide +kernel
theorem dX2_pass_165 : decode cX2_pass 165 = .ok (.aload 5, 2) := by decide +kernel
theorem dX2_pass_167 : decode cX2_pass 167 = .ok (.iconst 2, 1) := by decide +kernel
theorem dX2_pass_168 : decode cX2_pass 168 = .ok (.aload 5, 2) := by decide +kernel
theorem dX2_pass_170 : decode cX2_pass 170 = .ok (.iconst 2, 1) := by decide +kernel
theorem dX2_pass_171 : decode cX2_pass 171 = .ok (.iaload, 1) := by decide +kernel
theorem dX2_pass_172 : decode cX2_pass 172 = .ok (.ineg, 1) := by decide +kernel
theorem dX2_pass_173 : decode cX2_pass 173 = .ok (.iastore, 1) := by decide +kernel
theorem dX2_pass_174 : decode cX2_pass 174 = .ok (.aload 5, 2) := by decide +kernel
theorem dX2_pass_176 : decode cX2_pass 176 = .ok (.iconst 0, 1) := by decide +kernel
theorem dX2_pass_177 : decode cX2_pass 177 = .ok (.iconst 0, 1) := by decide +kernel
theorem dX2_pass_178 : decode cX2_pass 178 = .ok (.aload 5, 2) := by decide +kernel
theorem dX2_pass_180 : decode cX2_pass 180 = .ok (.iconst 0, 1) := by decide +kernel
theorem dX2_pass_181 : decode cX2_pass 181 = .ok (.iaload, 1) := by decide +kernel
theorem dX2_pass_182 : decode cX2_pass 182 = .ok (.aload_n 0, 1) := by decide +kernel
theorem dX2_pass_183 : decode cX2_pass 183 = .ok (.getfield 14, 3) := by decide +kernel
theorem dX2_pass_186 : decode cX2_pass 186 = .ok (.iload 6, 2) := by decide +kernel
theorem dX2_pass_188 : decode cX2_pass 188 = .ok (.aaload, 1) := by decide +kernel
theorem dX2_pass_189 : decode cX2_pass 189 = .ok (.iconst 2, 1) := by decide +kernel
theorem dX2_pass_190 : decode cX2_pass 190 = .ok (.iaload, 1) := by decide +kernel
theorem dX2_pass_191 : decode cX2_pass 191 = .ok (.isub, 1) := by decide +kernel
theorem dX2_pass_192 : decode cX2_pass 192 = .ok (.invokestatic 42, 3) := by decide +kernel
theorem dX2_pass_195 : decode cX2_pass 195 = .ok (.iastore, 1) := by decide +kernel
theorem dX2_pass_196 : decode cX2_pass 196 = .ok (.iinc 4 1, 3) := by decide +kernel
theorem dX2_pass_199 : decode cX2_pass 199 = .ok (.goto (-176), 3) := by decide +kernel
theorem dX2_pass_202 : decode cX2_pass 202 = .ok (.aload_n 0, 1) := by decide +kernel
theorem dX2_pass_203 : decode cX2_pass 203 = .ok (.getfield 18, 3) := by decide +kernel
theorem dX2_pass_206 : decode cX2_pass 206 = .ok (.arraylength, 1) := by decide +kernel
theorem dX2_pass_207 : decode cX2_pass 207 = .ok (.newarray .boolean, 2) := by decide +kernel
theorem dX2_pass_209 : decode cX2_pass 209 = .ok (.astore_n 2, 1) := by decide +kernel
theorem dX2_pass_210 : decode cX2_pass 210 = .ok (.iconst 0, 1) := by decide +kernel
theorem dX2_pass_211 : decode cX2_pass 211 = .ok (.istore_n 3, 1) := by decide +kernel
theorem dX2_pass_212 : decode cX2_pass 212 = .ok (.iload_n 3, 1) := by decide +kernel
theorem dX2_pass_213 : decode cX2_pass 213 = .ok (.bipush 32, 2) := by decide +kernel
theorem dX2_pass_215 : decode cX2_pass 215 = .ok (.if_icmp .ge 25, 3) := by decide +kernel
theorem dX2_pass_218 : decode cX2_pass 218 = .ok (.aload_n 0, 1) := by decide +kernel
theorem dX2_pass_219 : decode cX2_pass 219 = .ok (.iload_n 3, 1) := by decide +kernel
theorem dX2_pass_220 : decode cX2_pass 220 = .ok (.invokevirtual 52, 3) := by decide +kernel
theorem dX2_pass_223 : decode cX2_pass 223 = .ok (.ifCond .lt 11, 3) := by decide +kernel
theorem dX2_pass_226 : decode cX2_pass 226 = .ok (.aload_n 2, 1) := by decide +kernel
theorem dX2_pass_227 : decode cX2_pass 227 = .ok (.aload_n 0, 1) := by decide +kernel
theorem dX2_pass_228 : decode cX2_pass 228 = .ok (.iload_n 3, 1) := by decide +kernel
theorem dX2_pass_229 : decode cX2_pass 229 = .ok (.invokevirtual 52, 3) := by decide +kernel
theorem dX2_pass_232 : decode cX2_pass 232 = .ok (.iconst 1, 1) := by decide +kernel
theorem dX2_pass_233 : decode cX2_pass 233 = .ok (.bastore, 1) := by decide +kernel
theorem dX2_pass_234 : decode cX2_pass 234 = .ok (.iinc 3 1, 3) := by decide +kernel
theorem dX2_pass_237 : decode cX2_pass 237 = .ok (.goto (-25), 3) := by decide +kernel
theorem dX2_pass_240 : decode cX2_pass 240 = .ok (.iconst 0, 1) := by decide +kernel
theorem dX2_pass_241 : decode cX2_pass 241 = .ok (.istore_n 3, 1) := by decide +kernel
theorem dX2_pass_242 : decode cX2_pass 242 = .ok (.iload_n 3, 1) := by decide +kernel
theorem dX2_pass_243 : decode cX2_pass 243 = .ok (.aload_n 0, 1) := by decide +kernel
theorem dX2_pass_244 : decode cX2_pass 244 = .ok (.getfield 18, 3) := by decide +kernel
theorem dX2_pass_247 : decode cX2_pass 247 = .ok (.arraylength, 1) := by decide +kernel
theorem dX2_pass_248 : decode cX2_pass 248 = .ok (.if_icmp .ge 48, 3) := by decide +kernel
theorem dX2_pass_251 : decode cX2_pass 251 = .ok (.aload_n 2, 1) := by decide +kernel
theorem dX2_pass_252 : decode cX2_pass 252 = .ok (.iload_n 3, 1) := by decide +kernel
theorem dX2_pass_253 : decode cX2_pass 253 = .ok (.baload, 1) := by decide +kernel
theorem dX2_pass_254 : decode cX2_pass 254 = .ok (.ifCond .ne 36, 3) := by decide +kernel
theorem dX2_pass_257 : decode cX2_pass 257 = .ok (.aload_n 0, 1) := by decide +kernel
theorem dX2_pass_258 : decode cX2_pass 258 = .ok (.getfield 18, 3) := by decide +kernel
theorem dX2_pass_261 : decode cX2_pass 261 = .ok (.iload_n 3, 1) := by decide +kernel
theorem dX2_pass_262 : decode cX2_pass 262 = .ok (.aaload, 1) := by decide +kernel
theorem dX2_pass_263 : decode cX2_pass 263 = .ok (.iconst 0, 1) := by decide +kernel
theorem dX2_pass_264 : decode cX2_pass 264 = .ok (.iaload, 1) := by decide +kernel
theorem dX2_pass_265 : decode cX2_pass 265 = .ok (.ifCond .ne 6, 3) := by decide +kernel
theorem dX2_pass_268 : decode cX2_pass 268 = .ok (.goto 22, 3) := by decide +kernel
theorem dX2_pass_271 : decode cX2_pass 271 = .ok (.aload_n 0, 1) := by decide +kernel
theorem dX2_pass_272 : decode cX2_pass 272 = .ok (.getfield 18, 3) := by decide +kernel
theorem dX2_pass_275 : decode cX2_pass 275 = .ok (.iload_n 3, 1) := by decide +kernel
theorem dX2_pass_276 : decode cX2_pass 276 = .ok (.aaload, 1) := by decide +kernel
theorem dX2_pass_277 : decode cX2_pass 277 = .ok (.iconst 0, 1) := by decide +kernel
theorem dX2_pass_278 : decode cX2_pass 278 = .ok (.iconst 0, 1) := by decide +kernel
theorem dX2_pass_279 : decode cX2_pass 279 = .ok (.iastore, 1) := by decide +kernel
theorem dX2_pass_280 : decode cX2_pass 280 = .ok (.aload_n 0, 1) := by decide +kernel
theorem dX2_pass_281 : decode cX2_pass 281 = .ok (.dup, 1) := by decide +kernel
theorem dX2_pass_282 : decode cX2_pass 282 = .ok (.getfield 36, 3) := by decide +kernel
theorem dX2_pass_285 : decode cX2_pass 285 = .ok (.iconst 1, 1) := by decide +kernel
theorem dX2_pass_286 : decode cX2_pass 286 = .ok (.iadd, 1) := by decide +kernel
theorem dX2_pass_287 : decode cX2_pass 287 = .ok (.putfield 36, 3) := by decide +kernel
theorem dX2_pass_290 : decode cX2_pass 290 = .ok (.iinc 3 1, 3) := by decide +kernel
theorem dX2_pass_293 : decode cX2_pass 293 = .ok (.goto (-51), 3) := by decide +kernel
theorem dX2_pass_296 : decode cX2_pass 296 = .ok (.iconst 0, 1) := by decide +kernel
theorem dX2_pass_297 : decode cX2_pass 297 = .ok (.istore_n 3, 1) := by decide +kernel
theorem dX2_pass_298 : decode cX2_pass 298 = .ok (.iload_n 3, 1) := by decide +kernel
theorem dX2_pass_299 : decode cX2_pass 299 = .ok (.iconst 2, 1) := by decide +kernel
theorem dX2_pass_300 : decode cX2_pass 300 = .ok (.if_icmp .ge 133, 3) := by decide +kernel
theorem dX2_pass_303 : decode cX2_pass 303 = .ok (.aload_n 0, 1) := by decide +kernel
theorem dX2_pass_304 : decode cX2_pass 304 = .ok (.getfield 21, 3) := by decide +kernel
theorem dX2_pass_307 : decode cX2_pass 307 = .ok (.iload_n 3, 1) := by decide +kernel
theorem dX2_pass_308 : decode cX2_pass 308 = .ok (.dup2, 1) := by decide +kernel
theorem dX2_pass_309 : decode cX2_pass 309 = .ok (.iaload, 1) := by decide +kernel
theorem dX2_pass_310 : decode cX2_pass 310 = .ok (.aload_n 1, 1) := by decide +kernel
theorem dX2_pass_311 : decode cX2_pass 311 = .ok (.iload_n 3, 1) := by decide +kernel
theorem dX2_pass_312 : decode cX2_pass 312 = .ok (.iaload, 1) := by decide +kernel
theorem dX2_pass_313 : decode cX2_pass 313 = .ok (.iadd, 1) := by decide +kernel
theorem dX2_pass_314 : decode cX2_pass 314 = .ok (.iastore, 1) := by decide +kernel
theorem dX2_pass_315 : decode cX2_pass 315 = .ok (.aload_n 0, 1) := by decide +kernel
theorem dX2_pass_316 : decode cX2_pass 316 = .ok (.getfield 24, 3) := by decide +kernel
theorem dX2_pass_319 : decode cX2_pass 319 = .ok (.iload_n 3, 1) := by decide +kernel
theorem dX2_pass_320 : decode cX2_pass 320 = .ok (.aload_n 1, 1) := by decide +kernel
theorem dX2_pass_321 : decode cX2_pass 321 = .ok (.iload_n 3, 1) := by decide +kernel
theorem dX2_pass_322 : decode cX2_pass 322 = .ok (.iaload, 1) := by decide +kernel
theorem dX2_pass_323 : decode cX2_pass 323 = .ok (.ifCond .le 7, 3) := by decide +kernel
theorem dX2_pass_326 : decode cX2_pass 326 = .ok (.iconst 0, 1) := by decide +kernel
theorem dX2_pass_327 : decode cX2_pass 327 = .ok (.goto 11, 3) := by decide +kernel
theorem dX2_pass_330 : decode cX2_pass 330 = .ok (.aload_n 0, 1) := by decide +kernel
theorem dX2_pass_331 : decode cX2_pass 331 = .ok (.getfield 24, 3) := by decide +kernel
theorem dX2_pass_334 : decode cX2_pass 334 = .ok (.iload_n 3, 1) := by decide +kernel
theorem dX2_pass_335 : decode cX2_pass 335 = .ok (.iaload, 1) := by decide +kernel
theorem dX2_pass_336 : decode cX2_pass 336 = .ok (.iconst 1, 1) := by decide +kernel
theorem dX2_pass_337 : decode cX2_pass 337 = .ok (.iadd, 1) := by decide +kernel
theorem dX2_pass_338 : decode cX2_pass 338 = .ok (.iastore, 1) := by decide +kernel
theorem dX2_pass_339 : decode cX2_pass 339 = .ok (.aload_n 0, 1) := by decide +kernel
theorem dX2_pass_340 : decode cX2_pass 340 = .ok (.getfield 24, 3) := by decide +kernel
theorem dX2_pass_343 : decode cX2_pass 343 = .ok (.iload_n 3, 1) := by decide +kernel
theorem dX2_pass_344 : decode cX2_pass 344 = .ok (.iaload, 1) := by decide +kernel
theorem dX2_pass_345 : decode cX2_pass 345 = .ok (.bipush 12, 2) := by decide +kernel
theorem dX2_pass_347 : decode cX2_pass 347 = .ok (.if_icmp .ge 6, 3) := by decide +kernel
theorem dX2_pass_350 : decode cX2_pass 350 = .ok (.goto 77, 3) := by decide +kernel
theorem dX2_pass_353 : decode cX2_pass 353 = .ok (.aload_n 0, 1) := by decide +kernel
theorem dX2_pass_354 : decode cX2_pass 354 = .ok (.getfield 24, 3) := by decide +kernel
theorem dX2_pass_357 : decode cX2_pass 357 = .ok (.iload_n 3, 1) := by decide +kernel
theorem dX2_pass_358 : decode cX2_pass 358 = .ok (.iconst 0, 1) := by decide +kernel
theorem dX2_pass_359 : decode cX2_pass 359 = .ok (.iastore, 1) := by decide +kernel
theorem dX2_pass_360 : decode cX2_pass 360 = .ok (.iconst 0, 1) := by decide +kernel
theorem dX2_pass_361 : decode cX2_pass 361 = .ok (.istore 4, 2) := by decide +kernel
theorem dX2_pass_363 : decode cX2_pass 363 = .ok (.iload 4, 2) := by decide +kernel
theorem dX2_pass_365 : decode cX2_pass 365 = .ok (.aload_n 0, 1) := by decide +kernel
theorem dX2_pass_366 : decode cX2_pass 366 = .ok (.getfield 14, 3) := by decide +kernel
theorem dX2_pass_369 : decode cX2_pass 369 = .ok (.arraylength, 1) := by decide +kernel
theorem dX2_pass_370 : decode cX2_pass 370 = .ok (.if_icmp .ge 22, 3) := by decide +kernel
theorem dX2_pass_373 : decode cX2_pass 373 = .ok (.aload_n 0, 1) := by decide +kernel
theorem dX2_pass_374 : decode cX2_pass 374 = .ok (.getfield 14, 3) := by decide +kernel
theorem dX2_pass_377 : decode cX2_pass 377 = .ok (.iload 4, 2) := by decide +kernel
theorem dX2_pass_379 : decode cX2_pass 379 = .ok (.aaload, 1) := by decide +kernel
theorem dX2_pass_380 : decode cX2_pass 380 = .ok (.iconst 1, 1) := by decide +kernel
theorem dX2_pass_381 : decode cX2_pass 381 = .ok (.iaload, 1) := by decide +kernel
theorem dX2_pass_382 : decode cX2_pass 382 = .ok (.iload_n 3, 1) := by decide +kernel
theorem dX2_pass_383 : decode cX2_pass 383 = .ok (.if_icmp .eq 9, 3) := by decide +kernel
theorem dX2_pass_386 : decode cX2_pass 386 = .ok (.iinc 4 1, 3) := by decide +kernel
theorem dX2_pass_389 : decode cX2_pass 389 = .ok (.goto (-26), 3) := by decide +kernel
theorem dX2_pass_392 : decode cX2_pass 392 = .ok (.iload 4, 2) := by decide +kernel
theorem dX2_pass_394 : decode cX2_pass 394 = .ok (.aload_n 0, 1) := by decide +kernel
theorem dX2_pass_395 : decode cX2_pass 395 = .ok (.getfield 14, 3) := by decide +kernel
theorem dX2_pass_398 : decode cX2_pass 398 = .ok (.arraylength, 1) := by decide +kernel
theorem dX2_pass_399 : decode cX2_pass 399 = .ok (.if_icmp .ne 6, 3) := by decide +kernel
theorem dX2_pass_402 : decode cX2_pass 402 = .ok (.goto 25, 3) := by decide +kernel
theorem dX2_pass_405 : decode cX2_pass 405 = .ok (.aload_n 0, 1) := by decide +kernel
theorem dX2_pass_406 : decode cX2_pass 406 = .ok (.getfield 14, 3) := by decide +kernel
theorem dX2_pass_409 : decode cX2_pass 409 = .ok (.iload 4, 2) := by decide +kernel
theorem dX2_pass_411 : decode cX2_pass 411 = .ok (.aaload, 1) := by decide +kernel
theorem dX2_pass_412 : decode cX2_pass 412 = .ok (.iconst 1, 1) := by decide +kernel
theorem dX2_pass_413 : decode cX2_pass 413 = .ok (.iconst 1, 1) := by decide +kernel
theorem dX2_pass_414 : decode cX2_pass 414 = .ok (.iload_n 3, 1) := by decide +kernel
theorem dX2_pass_415 : decode cX2_pass 415 = .ok (.isub, 1) := by decide +kernel
theorem dX2_pass_416 : decode cX2_pass 416 = .ok (.iastore, 1) := by decide +kernel
theorem dX2_pass_417 : decode cX2_pass 417 = .ok (.aload_n 0, 1) := by decide +kernel
theorem dX2_pass_418 : decode cX2_pass 418 = .ok (.dup, 1) := by decide +kernel
theorem dX2_pass_419 : decode cX2_pass 419 = .ok (.getfield 39, 3) := by decide +kernel
theorem dX2_pass_422 : decode cX2_pass 422 = .ok (.iconst 1, 1) := by decide +kernel
theorem dX2_pass_423 : decode cX2_pass 423 = .ok (.iadd, 1) := by decide +kernel
theorem dX2_pass_424 : decode cX2_pass 424 = .ok (.putfield 39, 3) := by decide +kernel
theorem dX2_pass_427 : decode cX2_pass 427 = .ok (.iinc 3 1, 3) := by decide +kernel
theorem dX2_pass_430 : decode cX2_pass 430 = .ok (.goto (-132), 3) := by decide +kernel
theorem dX2_pass_433 : decode cX2_pass 433 = .ok (.aload_n 0, 1) := by decide +kernel
theorem dX2_pass_434 : decode cX2_pass 434 = .ok (.dup, 1) := by decide +kernel
theorem dX2_pass_435 : decode cX2_pass 435 = .ok (.getfield 32, 3) := by decide +kernel
theorem dX2_pass_438 : decode cX2_pass 438 = .ok (.iconst 1, 1) := by decide +kernel
theorem dX2_pass_439 : decode cX2_pass 439 = .ok (.iadd, 1) := by decide +kernel
theorem dX2_pass_440 : decode cX2_pass 440 = .ok (.putfield 32, 3) := by decide +kernel
theorem dX2_pass_443 : decode cX2_pass 443 = .ok (.aload_n 1, 1) := by decide +kernel
theorem dX2_pass_444 : decode cX2_pass 444 = .ok (.iconst 0, 1) := by decide +kernel
theorem dX2_pass_445 : decode cX2_pass 445 = .ok (.iaload, 1) := by decide +kernel
theorem dX2_pass_446 : decode cX2_pass 446 = .ok (.aload_n 1, 1) := by decide +kernel
theorem dX2_pass_447 : decode cX2_pass 447 = .ok (.iconst 1, 1) := by decide +kernel
theorem dX2_pass_448 : decode cX2_pass 448 = .ok (.iaload, 1) := by decide +kernel
theorem dX2_pass_449 : decode cX2_pass 449 = .ok (.iadd, 1) := by decide +kernel
theorem dX2_pass_450 : decode cX2_pass 450 = .ok (.ireturn, 1) := by decide +kernel
theorem dX2_pass__0 : decode cX2_pass_ 0 = .ok (.iconst 0, 1) := by decide +kernel
theorem dX2_pass__1 : decode cX2_pass_ 1 = .ok (.istore_n 2, 1) := by decide +kernel
theorem dX2_pass__2 : decode cX2_pass_ 2 = .ok (.iconst 0, 1) := by decide +kernel
theorem dX2_pass__3 : decode cX2_pass_ 3 = .ok (.istore_n 3, 1) := by decide +kernel
theorem dX2_pass__4 : decode cX2_pass_ 4 = .ok (.iload_n 3, 1) := by decide +kernel
theorem dX2_pass__5 : decode cX2_pass_ 5 = .ok (.iload_n 1, 1) := by decide +kernel
theorem dX2_pass__6 : decode cX2_pass_ 6 = .ok (.if_icmp .ge 16, 3) := by decide +kernel
theorem dX2_pass__9 : decode cX2_pass_ 9 = .ok (.iload_n 2, 1) := by decide +kernel
theorem dX2_pass__10 : decode cX2_pass_ 10 = .ok (.aload_n 0, 1) := by decide +kernel
theorem dX2_pass__11 : decode cX2_pass_ 11 = .ok (.invokevirtual 55, 3) := by decide +kernel
theorem dX2_pass__14 : decode cX2_pass_ 14 = .ok (.iadd, 1) := by decide +kernel
theorem dX2_pass__15 : decode cX2_pass_ 15 = .ok (.istore_n 2, 1) := by decide +kernel
theorem dX2_pass__16 : decode cX2_pass_ 16 = .ok (.iinc 3 1, 3) := by decide +kernel
theorem dX2_pass__19 : decode cX2_pass_ 19 = .ok (.goto (-15), 3) := by decide +kernel
theorem dX2_pass__22 : decode cX2_pass_ 22 = .ok (.iload_n 2, 1) := by decide +kernel
theorem dX2_pass__23 : decode cX2_pass_ 23 = .ok (.ireturn, 1) := by decide +kernel
theorem dX2_alone_0 : decode cX2_alone 0 = .ok (.aload_n 0, 1) := by decide +kernel
theorem dX2_alone_1 : decode cX2_alone 1 = .ok (.invokevirtual 59, 3) := by decide +kernel
theorem dX2_alone_4 : decode cX2_alone 4 = .ok (.astore 4, 2) := by decide +kernel
theorem dX2_alone_6 : decode cX2_alone 6 = .ok (.aload 4, 2) := by decide +kernel
theorem dX2_alone_8 : decode cX2_alone 8 = .ok (.iconst 1, 1) := by decide +kernel
theorem dX2_alone_9 : decode cX2_alone 9 = .ok (.anewarray 13, 3) := by decide +kernel
theorem dX2_alone_12 : decode cX2_alone 12 = .ok (.dup, 1) := by decide +kernel
theorem dX2_alone_13 : decode cX2_alone 13 = .ok (.iconst 0, 1) := by decide +kernel
theorem dX2_alone_14 : decode cX2_alone 14 = .ok (.iconst 4, 1) := by decide +kernel
theorem dX2_alone_15 : decode cX2_alone 15 = .ok (.newarray .int, 2) := by decide +kernel
theorem dX2_alone_17 : decode cX2_alone 17 = .ok (.dup, 1) := by decide +kernel
theorem dX2_alone_18 : decode cX2_alone 18 = .ok (.iconst 0, 1) := by decide +kernel
theorem dX2_alone_19 : decode cX2_alone 19 = .ok (.iload_n 3, 1) := by decide +kernel
theorem dX2_alone_20 : decode cX2_alone 20 = .ok (.iastore, 1) := by decide +kernel
theorem dX2_alone_21 : decode cX2_alone 21 = .ok (.dup, 1) := by decide +kernel
theorem dX2_alone_22 : decode cX2_alone 22 = .ok (.iconst 1, 1) := by decide +kernel
theorem dX2_alone_23 : decode cX2_alone 23 = .ok (.iload_n 1, 1) := by decide +kernel
theorem dX2_alone_24 : decode cX2_alone 24 = .ok (.iastore, 1) := by decide +kernel
theorem dX2_alone_25 : decode cX2_alone 25 = .ok (.dup, 1) := by decide +kernel
theorem dX2_alone_26 : decode cX2_alone 26 = .ok (.iconst 2, 1) := by decide +kernel
theorem dX2_alone_27 : decode cX2_alone 27 = .ok (.iload_n 2, 1) := by decide +kernel
theorem dX2_alone_28 : decode cX2_alone 28 = .ok (.iastore, 1) := by decide +kernel
theorem dX2_alone_29 : decode cX2_alone 29 = .ok (.dup, 1) := by decide +kernel
theorem dX2_alone_30 : decode cX2_alone 30 = .ok (.iconst 3, 1) := by decide +kernel
theorem dX2_alone_31 : decode cX2_alone 31 = .ok (.iconst 0, 1) := by decide +kernel
theorem dX2_alone_32 : decode cX2_alone 32 = .ok (.iastore, 1) := by decide +kernel
theorem dX2_alone_33 : decode cX2_alone 33 = .ok (.aastore, 1) := by decide +kernel
theorem dX2_alone_34 : decode cX2_alone 34 = .ok (.putfield 18, 3) := by decide +kernel
theorem dX2_alone_37 : decode cX2_alone 37 = .ok (.aload 4, 2) := by decide +kernel
theorem dX2_alone_39 : decode cX2_alone 39 = .ok (.areturn, 1) := by decide +kernel
theorem dX2_turns_0 : decode cX2_turns 0 = .ok (.aload_n 0, 1) := by decide +kernel
theorem dX2_turns_1 : decode cX2_turns 1 = .ok (.iload_n 1, 1) := by decide +kernel
theorem dX2_turns_2 : decode cX2_turns 2 = .ok (.iconst 1, 1) := by decide +kernel
theorem dX2_turns_3 : decode cX2_turns 3 = .ok (.iload_n 2, 1) := by decide +kernel
theorem dX2_turns_4 : decode cX2_turns 4 = .ok (.invokevirtual 63, 3) := by decide +kernel
theorem dX2_turns_7 : decode cX2_turns 7 = .ok (.astore_n 3, 1) := by decide +kernel
theorem dX2_turns_8 : decode cX2_turns 8 = .ok (.aload_n 3, 1) := by decide +kernel
theorem dX2_turns_9 : decode cX2_turns 9 = .ok (.getfield 18, 3) := by decide +kernel
theorem dX2_turns_12 : decode cX2_turns 12 = .ok (.iconst 0, 1) := by decide +kernel
theorem dX2_turns_13 : decode cX2_turns 13 = .ok (.aaload, 1) := by decide +kernel
theorem dX2_turns_14 : decode cX2_turns 14 = .ok (.iconst 0, 1) := by decide +kernel
theorem dX2_turns_15 : decode cX2_turns 15 = .ok (.iaload, 1) := by decide +kernel
theorem dX2_turns_16 : decode cX2_turns 16 = .ok (.ifCond .le 11, 3) := by decide +kernel
theorem dX2_turns_19 : decode cX2_turns 19 = .ok (.aload_n 3, 1) := by decide +kernel
theorem dX2_turns_20 : decode cX2_turns 20 = .ok (.invokevirtual 55, 3) := by decide +kernel
theorem dX2_turns_23 : decode cX2_turns 23 = .ok (.pop, 1) := by decide +kernel
theorem dX2_turns_24 : decode cX2_turns 24 = .ok (.goto (-16), 3) := by decide +kernel
theorem dX2_turns_27 : decode cX2_turns 27 = .ok (.aload_n 3, 1) := by decide +kernel
theorem dX2_turns_28 : decode cX2_turns 28 = .ok (.getfield 18, 3) := by decide +kernel
theorem dX2_turns_31 : decode cX2_turns 31 = .ok (.iconst 0, 1) := by decide +kernel
theorem dX2_turns_32 : decode cX2_turns 32 = .ok (.aaload, 1) := by decide +kernel
theorem dX2_turns_33 : decode cX2_turns 33 = .ok (.iconst 3, 1) := by decide +kernel
theorem dX2_turns_34 : decode cX2_turns 34 = .ok (.iaload, 1) := by decide +kernel
theorem dX2_turns_35 : decode cX2_turns 35 = .ok (.ireturn, 1) := by decide +kernel
theorem dX2_isSame_0 : decode cX2_isSame 0 = .ok (.iconst 0, 1) := by decide +kernel
theorem dX2_isSame_1 : decode cX2_isSame 1 = .ok (.istore_n 2, 1) := by decide +kernel
theorem dX2_isSame_2 : decode cX2_isSame 2 = .ok (.iconst 0, 1) := by decide +kernel
theorem dX2_isSame_3 : decode cX2_isSame 3 = .ok (.istore_n 3, 1) := by decide +kernel
theorem dX2_isSame_4 : decode cX2_isSame 4 = .ok (.iload_n 3, 1) := by decide +kernel
theorem dX2_isSame_5 : decode cX2_isSame 5 = .ok (.aload_n 0, 1) := by decide +kernel
theorem dX2_isSame_6 : decode cX2_isSame 6 = .ok (.getfield 14, 3) := by decide +kernel
theorem dX2_isSame_9 : decode cX2_isSame 9 = .ok (.arraylength, 1) := by decide +kernel
theorem dX2_isSame_10 : decode cX2_isSame 10 = .ok (.if_icmp .ge 59, 3) := by decide +kernel
theorem dX2_isSame_13 : decode cX2_isSame 13 = .ok (.aload_n 1, 1) := by decide +kernel
theorem dX2_isSame_14 : decode cX2_isSame 14 = .ok (.iload_n 3, 1) := by decide +kernel
theorem dX2_isSame_15 : decode cX2_isSame 15 = .ok (.invokevirtual 67, 3) := by decide +kernel
theorem dX2_isSame_18 : decode cX2_isSame 18 = .ok (.aload_n 0, 1) := by decide +kernel
theorem dX2_isSame_19 : decode cX2_isSame 19 = .ok (.getfield 14, 3) := by decide +kernel
theorem dX2_isSame_22 : decode cX2_isSame 22 = .ok (.iload_n 3, 1) := by decide +kernel
theorem dX2_isSame_23 : decode cX2_isSame 23 = .ok (.aaload, 1) := by decide +kernel
theorem dX2_isSame_24 : decode cX2_isSame 24 = .ok (.iconst 0, 1) := by decide +kernel
theorem dX2_isSame_25 : decode cX2_isSame 25 = .ok (.iaload, 1) := by decide +kernel
theorem dX2_isSame_26 : decode cX2_isSame 26 = .ok (.if_icmp .ne 35, 3) := by decide +kernel
theorem dX2_isSame_29 : decode cX2_isSame 29 = .ok (.aload_n 1, 1) := by decide +kernel
theorem dX2_isSame_30 : decode cX2_isSame 30 = .ok (.iload_n 3, 1) := by decide +kernel
theorem dX2_isSame_31 : decode cX2_isSame 31 = .ok (.invokevirtual 72, 3) := by decide +kernel
theorem dX2_isSame_34 : decode cX2_isSame 34 = .ok (.aload_n 0, 1) := by decide +kernel
theorem dX2_isSame_35 : decode cX2_isSame 35 = .ok (.getfield 14, 3) := by decide +kernel
theorem dX2_isSame_38 : decode cX2_isSame 38 = .ok (.iload_n 3, 1) := by decide +kernel
theorem dX2_isSame_39 : decode cX2_isSame 39 = .ok (.aaload, 1) := by decide +kernel
theorem dX2_isSame_40 : decode cX2_isSame 40 = .ok (.iconst 1, 1) := by decide +kernel
theorem dX2_isSame_41 : decode cX2_isSame 41 = .ok (.iaload, 1) := by decide +kernel
theorem dX2_isSame_42 : decode cX2_isSame 42 = .ok (.if_icmp .ne 19, 3) := by decide +kernel
theorem dX2_isSame_45 : decode cX2_isSame 45 = .ok (.aload_n 1, 1) := by decide +kernel
theorem dX2_isSame_46 : decode cX2_isSame 46 = .ok (.iload_n 3, 1) := by decide +kernel
theorem dX2_isSame_47 : decode cX2_isSame 47 = .ok (.invokevirtual 75, 3) := by decide +kernel
theorem dX2_isSame_50 : decode cX2_isSame 50 = .ok (.aload_n 0, 1) := by decide +kernel
theorem dX2_isSame_51 : decode cX2_isSame 51 = .ok (.getfield 14, 3) := by decide +kernel
theorem dX2_isSame_54 : decode cX2_isSame 54 = .ok (.iload_n 3, 1) := by decide +kernel
theorem dX2_isSame_55 : decode cX2_isSame 55 = .ok (.aaload, 1) := by decide +kernel
theorem dX2_isSame_56 : decode cX2_isSame 56 = .ok (.iconst 3, 1) := by decide +kernel
theorem dX2_isSame_57 : decode cX2_isSame 57 = .ok (.iaload, 1) := by decide +kernel
theorem dX2_isSame_58 : decode cX2_isSame 58 = .ok (.if_icmp .eq 5, 3) := by decide +kernel
theorem dX2_isSame_61 : decode cX2_isSame 61 = .ok (.iconst 0, 1) := by decide +kernel
theorem dX2_isSame_62 : decode cX2_isSame 62 = .ok (.ireturn, 1) := by decide +kernel
theorem dX2_isSame_63 : decode cX2_isSame 63 = .ok (.iinc 3 1, 3) := by decide +kernel
theorem dX2_isSame_66 : decode cX2_isSame 66 = .ok (.goto (-62), 3) := by decide +kernel
theorem dX2_isSame_69 : decode cX2_isSame 69 = .ok (.iconst 0, 1) := by decide +kernel
theorem dX2_isSame_70 : decode cX2_isSame 70 = .ok (.istore_n 3, 1) := by decide +kernel
theorem dX2_isSame_71 : decode cX2_isSame 71 = .ok (.iload_n 3, 1) := by decide +kernel
theorem dX2_isSame_72 : decode cX2_isSame 72 = .ok (.iconst 2, 1) := by decide +kernel
theorem dX2_isSame_73 : decode cX2_isSame 73 = .ok (.if_icmp .ge 104, 3) := by decide +kernel
theorem dX2_isSame_76 : decode cX2_isSame 76 = .ok (.iconst 0, 1) := by decide +kernel
theorem dX2_isSame_77 : decode cX2_isSame 77 = .ok (.istore 4, 2) := by decide +kernel
theorem dX2_isSame_79 : decode cX2_isSame 79 = .ok (.aload_n 0, 1) := by decide +kernel
theorem dX2_isSame_80 : decode cX2_isSame 80 = .ok (.getfield 14, 3) := by decide +kernel
theorem dX2_isSame_83 : decode cX2_isSame 83 = .ok (.astore 5, 2) := by decide +kernel
theorem dX2_isSame_85 : decode cX2_isSame 85 = .ok (.aload 5, 2) := by decide +kernel
theorem dX2_isSame_87 : decode cX2_isSame 87 = .ok (.arraylength, 1) := by decide +kernel
theorem dX2_isSame_88 : decode cX2_isSame 88 = .ok (.istore 6, 2) := by decide +kernel
theorem dX2_isSame_90 : decode cX2_isSame 90 = .ok (.iconst 0, 1) := by decide +kernel
theorem dX2_isSame_91 : decode cX2_isSame 91 = .ok (.istore 7, 2) := by decide +kernel
theorem dX2_isSame_93 : decode cX2_isSame 93 = .ok (.iload 7, 2) := by decide +kernel
theorem dX2_isSame_95 : decode cX2_isSame 95 = .ok (.iload 6, 2) := by decide +kernel
theorem dX2_isSame_97 : decode cX2_isSame 97 = .ok (.if_icmp .ge 34, 3) := by decide +kernel
theorem dX2_isSame_100 : decode cX2_isSame 100 = .ok (.aload 5, 2) := by decide +kernel
theorem dX2_isSame_102 : decode cX2_isSame 102 = .ok (.iload 7, 2) := by decide +kernel
theorem dX2_isSame_104 : decode cX2_isSame 104 = .ok (.aaload, 1) := by decide +kernel
theorem dX2_isSame_105 : decode cX2_isSame 105 = .ok (.astore 8, 2) := by decide +kernel
theorem dX2_isSame_107 : decode cX2_isSame 107 = .ok (.iload 4, 2) := by decide +kernel
theorem dX2_isSame_109 : decode cX2_isSame 109 = .ok (.aload 8, 2) := by decide +kernel
theorem dX2_isSame_111 : decode cX2_isSame 111 = .ok (.iconst 1, 1) := by decide +kernel
theorem dX2_isSame_112 : decode cX2_isSame 112 = .ok (.iaload, 1) := by decide +kernel
theorem dX2_isSame_113 : decode cX2_isSame 113 = .ok (.iload_n 3, 1) := by decide +kernel
theorem dX2_isSame_114 : decode cX2_isSame 114 = .ok (.if_icmp .ne 7, 3) := by decide +kernel
theorem dX2_isSame_117 : decode cX2_isSame 117 = .ok (.iconst 1, 1) := by decide +kernel
theorem dX2_isSame_118 : decode cX2_isSame 118 = .ok (.goto 4, 3) := by decide +kernel
theorem dX2_isSame_121 : decode cX2_isSame 121 = .ok (.iconst 0, 1) := by decide +kernel
theorem dX2_isSame_122 : decode cX2_isSame 122 = .ok (.iadd, 1) := by decide +kernel
theorem dX2_isSame_123 : decode cX2_isSame 123 = .ok (.istore 4, 2) := by decide +kernel
theorem dX2_isSame_125 : decode cX2_isSame 125 = .ok (.iinc 7 1, 3) := by decide +kernel
theorem dX2_isSame_128 : decode cX2_isSame 128 = .ok (.goto (-35), 3) := by decide +kernel
theorem dX2_isSame_131 : decode cX2_isSame 131 = .ok (.aload_n 1, 1) := by decide +kernel
theorem dX2_isSame_132 : decode cX2_isSame 132 = .ok (.iload_n 3, 1) := by decide +kernel
theorem dX2_isSame_133 : decode cX2_isSame 133 = .ok (.invokevirtual 78, 3) := by decide +kernel
theorem dX2_isSame_136 : decode cX2_isSame 136 = .ok (.aload_n 0, 1) := by decide +kernel
theorem dX2_isSame_137 : decode cX2_isSame 137 = .ok (.getfield 21, 3) := by decide +kernel
theorem dX2_isSame_140 : decode cX2_isSame 140 = .ok (.iload_n 3, 1) := by decide +kernel
theorem dX2_isSame_141 : decode cX2_isSame 141 = .ok (.iaload, 1) := by decide +kernel
theorem dX2_isSame_142 : decode cX2_isSame 142 = .ok (.if_icmp .ne 27, 3) := by decide +kernel
theorem dX2_isSame_145 : decode cX2_isSame 145 = .ok (.aload_n 1, 1) := by decide +kernel
theorem dX2_isSame_146 : decode cX2_isSame 146 = .ok (.iload_n 3, 1) := by decide +kernel
theorem dX2_isSame_147 : decode cX2_isSame 147 = .ok (.invokevirtual 81, 3) := by decide +kernel
theorem dX2_isSame_150 : decode cX2_isSame 150 = .ok (.iload 4, 2) := by decide +kernel
theorem dX2_isSame_152 : decode cX2_isSame 152 = .ok (.if_icmp .ne 17, 3) := by decide +kernel
theorem dX2_isSame_155 : decode cX2_isSame 155 = .ok (.aload_n 1, 1) := by decide +kernel
theorem dX2_isSame_156 : decode cX2_isSame 156 = .ok (.iload_n 3, 1) := by decide +kernel
theorem dX2_isSame_157 : decode cX2_isSame 157 = .ok (.invokevirtual 84, 3) := by decide +kernel
theorem dX2_isSame_160 : decode cX2_isSame 160 = .ok (.aload_n 0, 1) := by decide +kernel
theorem dX2_isSame_161 : decode cX2_isSame 161 = .ok (.getfield 24, 3) := by decide +kernel
theorem dX2_isSame_164 : decode cX2_isSame 164 = .ok (.iload_n 3, 1) := by decide +kernel
theorem dX2_isSame_165 : decode cX2_isSame 165 = .ok (.iaload, 1) := by decide +kernel
theorem dX2_isSame_166 : decode cX2_isSame 166 = .ok (.if_icmp .eq 5, 3) := by decide +kernel
theorem dX2_isSame_169 : decode cX2_isSame 169 = .ok (.iconst 0, 1) := by decide +kernel
theorem dX2_isSame_170 : decode cX2_isSame 170 = .ok (.ireturn, 1) := by decide +kernel
theorem dX2_isSame_171 : decode cX2_isSame 171 = .ok (.iinc 3 1, 3) := by decide +kernel
theorem dX2_isSame_174 : decode cX2_isSame 174 = .ok (.goto (-103), 3) := by decide +kernel
theorem dX2_isSame_177 : decode cX2_isSame 177 = .ok (.iconst 0, 1) := by decide +kernel
theorem dX2_isSame_178 : decode cX2_isSame 178 = .ok (.istore_n 3, 1) := by decide +kernel
theorem dX2_isSame_179 : decode cX2_isSame 179 = .ok (.iload_n 3, 1) := by decide +kernel
theorem dX2_isSame_180 : decode cX2_isSame 180 = .ok (.aload_n 0, 1) := by decide +kernel
theorem dX2_isSame_181 : decode cX2_isSame 181 = .ok (.getfield 18, 3) := by decide +kernel
theorem dX2_isSame_184 : decode cX2_isSame 184 = .ok (.arraylength, 1) := by decide +kernel
theorem dX2_isSame_185 : decode cX2_isSame 185 = .ok (.if_icmp .ge 100, 3) := by decide +kernel
theorem dX2_isSame_188 : decode cX2_isSame 188 = .ok (.aload_n 0, 1) := by decide +kernel
theorem dX2_isSame_189 : decode cX2_isSame 189 = .ok (.getfield 18, 3) := by decide +kernel
theorem dX2_isSame_192 : decode cX2_isSame 192 = .ok (.iload_n 3, 1) := by decide +kernel
theorem dX2_isSame_193 : decode cX2_isSame 193 = .ok (.aaload, 1) := by decide +kernel
theorem dX2_isSame_194 : decode cX2_isSame 194 = .ok (.astore 4, 2) := by decide +kernel
theorem dX2_isSame_196 : decode cX2_isSame 196 = .ok (.iload_n 2, 1) := by decide +kernel
theorem dX2_isSame_197 : decode cX2_isSame 197 = .ok (.aload 4, 2) := by decide +kernel
theorem dX2_isSame_199 : decode cX2_isSame 199 = .ok (.iconst 0, 1) := by decide +kernel
theorem dX2_isSame_200 : decode cX2_isSame 200 = .ok (.iaload, 1) := by decide +kernel
theorem dX2_isSame_201 : decode cX2_isSame 201 = .ok (.iadd, 1) := by decide +kernel
theorem dX2_isSame_202 : decode cX2_isSame 202 = .ok (.istore_n 2, 1) := by decide +kernel
theorem dX2_isSame_203 : decode cX2_isSame 203 = .ok (.aload_n 1, 1) := by decide +kernel
theorem dX2_isSame_204 : decode cX2_isSame 204 = .ok (.iload_n 3, 1) := by decide +kernel
theorem dX2_isSame_205 : decode cX2_isSame 205 = .ok (.invokevirtual 87, 3) := by decide +kernel
theorem dX2_isSame_208 : decode cX2_isSame 208 = .ok (.aload 4, 2) := by decide +kernel
theorem dX2_isSame_210 : decode cX2_isSame 210 = .ok (.iconst 0, 1) := by decide +kernel
theorem dX2_isSame_211 : decode cX2_isSame 211 = .ok (.iaload, 1) := by decide +kernel
theorem dX2_isSame_212 : decode cX2_isSame 212 = .ok (.if_icmp .ne 65, 3) := by decide +kernel
theorem dX2_isSame_215 : decode cX2_isSame 215 = .ok (.aload_n 1, 1) := by decide +kernel
theorem dX2_isSame_216 : decode cX2_isSame 216 = .ok (.iload_n 3, 1) := by decide +kernel
theorem dX2_isSame_217 : decode cX2_isSame 217 = .ok (.invokevirtual 90, 3) := by decide +kernel
theorem dX2_isSame_220 : decode cX2_isSame 220 = .ok (.aload 4, 2) := by decide +kernel
theorem dX2_isSame_222 : decode cX2_isSame 222 = .ok (.iconst 0, 1) := by decide +kernel
theorem dX2_isSame_223 : decode cX2_isSame 223 = .ok (.iaload, 1) := by decide +kernel
theorem dX2_isSame_224 : decode cX2_isSame 224 = .ok (.ifCond .le 10, 3) := by decide +kernel
theorem dX2_isSame_227 : decode cX2_isSame 227 = .ok (.aload 4, 2) := by decide +kernel
theorem dX2_isSame_229 : decode cX2_isSame 229 = .ok (.iconst 1, 1) := by decide +kernel
theorem dX2_isSame_230 : decode cX2_isSame 230 = .ok (.iaload, 1) := by decide +kernel
theorem dX2_isSame_231 : decode cX2_isSame 231 = .ok (.goto 4, 3) := by decide +kernel
theorem dX2_isSame_234 : decode cX2_isSame 234 = .ok (.iconst (-1), 1) := by decide +kernel
theorem dX2_isSame_235 : decode cX2_isSame 235 = .ok (.if_icmp .ne 42, 3) := by decide +kernel
theorem dX2_isSame_238 : decode cX2_isSame 238 = .ok (.aload_n 1, 1) := by decide +kernel
theorem dX2_isSame_239 : decode cX2_isSame 239 = .ok (.iload_n 3, 1) := by decide +kernel
theorem dX2_isSame_240 : decode cX2_isSame 240 = .ok (.invokevirtual 93, 3) := by decide +kernel
theorem dX2_isSame_243 : decode cX2_isSame 243 = .ok (.aload 4, 2) := by decide +kernel
theorem dX2_isSame_245 : decode cX2_isSame 245 = .ok (.iconst 0, 1) := by decide +kernel
theorem dX2_isSame_246 : decode cX2_isSame 246 = .ok (.iaload, 1) := by decide +kernel
theorem dX2_isSame_247 : decode cX2_isSame 247 = .ok (.ifCond .le 14, 3) := by decide +kernel
theorem dX2_isSame_250 : decode cX2_isSame 250 = .ok (.aload 4, 2) := by decide +kernel
theorem dX2_isSame_252 : decode cX2_isSame 252 = .ok (.iconst 2, 1) := by decide +kernel
theorem dX2_isSame_253 : decode cX2_isSame 253 = .ok (.iaload, 1) := by decide +kernel
theorem dX2_isSame_254 : decode cX2_isSame 254 = .ok (.ifCond .le 7, 3) := by decide +kernel
theorem dX2_isSame_257 : decode cX2_isSame 257 = .ok (.iconst 1, 1) := by decide +kernel
theorem dX2_isSame_258 : decode cX2_isSame 258 = .ok (.goto 4, 3) := by decide +kernel
theorem dX2_isSame_261 : decode cX2_isSame 261 = .ok (.iconst 0, 1) := by decide +kernel
theorem dX2_isSame_262 : decode cX2_isSame 262 = .ok (.if_icmp .ne 15, 3) := by decide +kernel
theorem dX2_isSame_265 : decode cX2_isSame 265 = .ok (.aload_n 1, 1) := by decide +kernel
theorem dX2_isSame_266 : decode cX2_isSame 266 = .ok (.iload_n 3, 1) := by decide +kernel
theorem dX2_isSame_267 : decode cX2_isSame 267 = .ok (.invokevirtual 97, 3) := by decide +kernel
theorem dX2_isSame_270 : decode cX2_isSame 270 = .ok (.aload 4, 2) := by decide +kernel
theorem dX2_isSame_272 : decode cX2_isSame 272 = .ok (.iconst 3, 1) := by decide +kernel
theorem dX2_isSame_273 : decode cX2_isSame 273 = .ok (.iaload, 1) := by decide +kernel
theorem dX2_isSame_274 : decode cX2_isSame 274 = .ok (.if_icmp .eq 5, 3) := by decide +kernel
theorem dX2_isSame_277 : decode cX2_isSame 277 = .ok (.iconst 0, 1) := by decide +kernel
theorem dX2_isSame_278 : decode cX2_isSame 278 = .ok (.ireturn, 1) := by decide +kernel
theorem dX2_isSame_279 : decode cX2_isSame 279 = .ok (.iinc 3 1, 3) := by decide +kernel
theorem dX2_isSame_282 : decode cX2_isSame 282 = .ok (.goto (-103), 3) := by decide +kernel
theorem dX2_isSame_285 : decode cX2_isSame 285 = .ok (.iconst 0, 1) := by decide +kernel
theorem dX2_isSame_286 : decode cX2_isSame 286 = .ok (.istore_n 3, 1) := by decide +kernel
theorem dX2_isSame_287 : decode cX2_isSame 287 = .ok (.iload_n 3, 1) := by decide +kernel
theorem dX2_isSame_288 : decode cX2_isSame 288 = .ok (.bipush 32, 2) := by decide +kernel
theorem dX2_isSame_290 : decode cX2_isSame 290 = .ok (.if_icmp .ge 156, 3) := by decide +kernel
theorem dX2_isSame_293 : decode cX2_isSame 293 = .ok (.aload_n 0, 1) := by decide +kernel
theorem dX2_isSame_294 : decode cX2_isSame 294 = .ok (.iload_n 3, 1) := by decide +kernel
theorem dX2_isSame_295 : decode cX2_isSame 295 = .ok (.invokevirtual 52, 3) := by decide +kernel
theorem dX2_isSame_298 : decode cX2_isSame 298 = .ok (.istore 4, 2) := by decide +kernel
theorem dX2_isSame_300 : decode cX2_isSame 300 = .ok (.iload_n 3, 1) := by decide +kernel
theorem dX2_isSame_301 : decode cX2_isSame 301 = .ok (.iconst 1, 1) := by decide +kernel
theorem dX2_isSame_302 : decode cX2_isSame 302 = .ok (.iadd, 1) := by decide +kernel
theorem dX2_isSame_303 : decode cX2_isSame 303 = .ok (.istore 5, 2) := by decide +kernel
theorem dX2_isSame_305 : decode cX2_isSame 305 = .ok (.iload 5, 2) := by decide +kernel
theorem dX2_isSame_307 : decode cX2_isSame 307 = .ok (.bipush 32, 2) := by decide +kernel
theorem dX2_isSame_309 : decode cX2_isSame 309 = .ok (.if_icmp .ge 18, 3) := by decide +kernel
theorem dX2_isSame_312 : decode cX2_isSame 312 = .ok (.aload_n 0, 1) := by decide +kernel
theorem dX2_isSame_313 : decode cX2_isSame 313 = .ok (.iload 5, 2) := by decide +kernel
theorem dX2_isSame_315 : decode cX2_isSame 315 = .ok (.invokevirtual 48, 3) := by decide +kernel
theorem dX2_isSame_318 : decode cX2_isSame 318 = .ok (.ifCond .ge 9, 3) := by decide +kernel
theorem dX2_isSame_321 : decode cX2_isSame 321 = .ok (.iinc 5 1, 3) := by decide +kernel
theorem dX2_isSame_324 : decode cX2_isSame 324 = .ok (.goto (-19), 3) := by decide +kernel
theorem dX2_isSame_327 : decode cX2_isSame 327 = .ok (.iload_n 3, 1) := by decide +kernel
theorem dX2_isSame_328 : decode cX2_isSame 328 = .ok (.iconst 1, 1) := by decide +kernel
theorem dX2_isSame_329 : decode cX2_isSame 329 = .ok (.isub, 1) := by decide +kernel
theorem dX2_isSame_330 : decode cX2_isSame 330 = .ok (.istore 6, 2) := by decide +kernel
theorem dX2_isSame_332 : decode cX2_isSame 332 = .ok (.iload 6, 2) := by decide +kernel
theorem dX2_isSame_334 : decode cX2_isSame 334 = .ok (.ifCond .lt 18, 3) := by decide +kernel
theorem dX2_isSame_337 : decode cX2_isSame 337 = .ok (.aload_n 0, 1) := by decide +kernel
theorem dX2_isSame_338 : decode cX2_isSame 338 = .ok (.iload 6, 2) := by decide +kernel
theorem dX2_isSame_340 : decode cX2_isSame 340 = .ok (.invokevirtual 48, 3) := by decide +kernel
theorem dX2_isSame_343 : decode cX2_isSame 343 = .ok (.ifCond .ge 9, 3) := by decide +kernel
theorem dX2_isSame_346 : decode cX2_isSame 346 = .ok (.iinc 6 (-1), 3) := by decide +kernel
theorem dX2_isSame_349 : decode cX2_isSame 349 = .ok (.goto (-17), 3) := by decide +kernel
theorem dX2_isSame_352 : decode cX2_isSame 352 = .ok (.aload_n 1, 1) := by decide +kernel
theorem dX2_isSame_353 : decode cX2_isSame 353 = .ok (.iload_n 3, 1) := by decide +kernel
theorem dX2_isSame_354 : decode cX2_isSame 354 = .ok (.invokevirtual 100, 3) := by decide +kernel
theorem dX2_isSame_357 : decode cX2_isSame 357 = .ok (.aload_n 0, 1) := by decide +kernel
theorem dX2_isSame_358 : decode cX2_isSame 358 = .ok (.getfield 7, 3) := by decide +kernel
theorem dX2_isSame_361 : decode cX2_isSame 361 = .ok (.iload_n 3, 1) := by decide +kernel
theorem dX2_isSame_362 : decode cX2_isSame 362 = .ok (.iaload, 1) := by decide +kernel
theorem dX2_isSame_363 : decode cX2_isSame 363 = .ok (.if_icmp .ne 75, 3) := by decide +kernel
theorem dX2_isSame_366 : decode cX2_isSame 366 = .ok (.aload_n 1, 1) := by decide +kernel
theorem dX2_isSame_367 : decode cX2_isSame 367 = .ok (.iload_n 3, 1) := by decide +kernel
theorem dX2_isSame_368 : decode cX2_isSame 368 = .ok (.invokevirtual 103, 3) := by decide +kernel
theorem dX2_isSame_371 : decode cX2_isSame 371 = .ok (.aload_n 0, 1) := by decide +kernel
theorem dX2_isSame_372 : decode cX2_isSame 372 = .ok (.iload_n 3, 1) := by decide +kernel
theorem dX2_isSame_373 : decode cX2_isSame 373 = .ok (.invokevirtual 48, 3) := by decide +kernel
theorem dX2_isSame_376 : decode cX2_isSame 376 = .ok (.if_icmp .ne 62, 3) := by decide +kernel
theorem dX2_isSame_379 : decode cX2_isSame 379 = .ok (.aload_n 1, 1) := by decide +kernel
theorem dX2_isSame_380 : decode cX2_isSame 380 = .ok (.iload_n 3, 1) := by decide +kernel
theorem dX2_isSame_381 : decode cX2_isSame 381 = .ok (.invokevirtual 104, 3) := by decide +kernel
theorem dX2_isSame_384 : decode cX2_isSame 384 = .ok (.iload 4, 2) := by decide +kernel
theorem dX2_isSame_386 : decode cX2_isSame 386 = .ok (.ifCond .ge 7, 3) := by decide +kernel
theorem dX2_isSame_389 : decode cX2_isSame 389 = .ok (.iconst 0, 1) := by decide +kernel
theorem dX2_isSame_390 : decode cX2_isSame 390 = .ok (.goto 12, 3) := by decide +kernel
theorem dX2_isSame_393 : decode cX2_isSame 393 = .ok (.aload_n 0, 1) := by decide +kernel
theorem dX2_isSame_394 : decode cX2_isSame 394 = .ok (.getfield 18, 3) := by decide +kernel
theorem dX2_isSame_397 : decode cX2_isSame 397 = .ok (.iload 4, 2) := by decide +kernel
theorem dX2_isSame_399 : decode cX2_isSame 399 = .ok (.aaload, 1) := by decide +kernel
theorem dX2_isSame_400 : decode cX2_isSame 400 = .ok (.iconst 0, 1) := by decide +kernel
theorem dX2_isSame_401 : decode cX2_isSame 401 = .ok (.iaload, 1) := by decide +kernel
theorem dX2_isSame_402 : decode cX2_isSame 402 = .ok (.if_icmp .ne 36, 3) := by decide +kernel
theorem dX2_isSame_405 : decode cX2_isSame 405 = .ok (.aload_n 1, 1) := by decide +kernel
theorem dX2_isSame_406 : decode cX2_isSame 406 = .ok (.iload_n 3, 1) := by decide +kernel
theorem dX2_isSame_407 : decode cX2_isSame 407 = .ok (.iconst 1, 1) := by decide +kernel
theorem dX2_isSame_408 : decode cX2_isSame 408 = .ok (.invokevirtual 107, 3) := by decide +kernel
theorem dX2_isSame_411 : decode cX2_isSame 411 = .ok (.iload 5, 2) := by decide +kernel
theorem dX2_isSame_413 : decode cX2_isSame 413 = .ok (.bipush 31, 2) := by decide +kernel
theorem dX2_isSame_415 : decode cX2_isSame 415 = .ok (.if_icmp .le 7, 3) := by decide +kernel
theorem dX2_isSame_418 : decode cX2_isSame 418 = .ok (.iconst (-1), 1) := by decide +kernel
theorem dX2_isSame_419 : decode cX2_isSame 419 = .ok (.goto 5, 3) := by decide +kernel
theorem dX2_isSame_422 : decode cX2_isSame 422 = .ok (.iload 5, 2) := by decide +kernel
theorem dX2_isSame_424 : decode cX2_isSame 424 = .ok (.if_icmp .ne 14, 3) := by decide +kernel
theorem dX2_isSame_427 : decode cX2_isSame 427 = .ok (.aload_n 1, 1) := by decide +kernel
theorem dX2_isSame_428 : decode cX2_isSame 428 = .ok (.iload_n 3, 1) := by decide +kernel
theorem dX2_isSame_429 : decode cX2_isSame 429 = .ok (.iconst 0, 1) := by decide +kernel
theorem dX2_isSame_430 : decode cX2_isSame 430 = .ok (.invokevirtual 107, 3) := by decide +kernel
theorem dX2_isSame_433 : decode cX2_isSame 433 = .ok (.iload 6, 2) := by decide +kernel
theorem dX2_isSame_435 : decode cX2_isSame 435 = .ok (.if_icmp .eq 5, 3) := by decide +kernel
theorem dX2_isSame_438 : decode cX2_isSame 438 = .ok (.iconst 0, 1) := by decide +kernel
theorem dX2_isSame_439 : decode cX2_isSame 439 = .ok (.ireturn, 1) := by decide +kernel
theorem dX2_isSame_440 : decode cX2_isSame 440 = .ok (.iinc 3 1, 3) := by decide +kernel
theorem dX2_isSame_443 : decode cX2_isSame 443 = .ok (.goto (-156), 3) := by decide +kernel
theorem dX2_isSame_446 : decode cX2_isSame 446 = .ok (.aload_n 1, 1) := by decide +kernel
theorem dX2_isSame_447 : decode cX2_isSame 447 = .ok (.invokevirtual 111, 3) := by decide +kernel
theorem dX2_isSame_450 : decode cX2_isSame 450 = .ok (.aload_n 0, 1) := by decide +kernel
theorem dX2_isSame_451 : decode cX2_isSame 451 = .ok (.getfield 32, 3) := by decide +kernel
theorem dX2_isSame_454 : decode cX2_isSame 454 = .ok (.if_icmp .ne 91, 3) := by decide +kernel
theorem dX2_isSame_457 : decode cX2_isSame 457 = .ok (.aload_n 1, 1) := by decide +kernel
theorem dX2_isSame_458 : decode cX2_isSame 458 = .ok (.invokevirtual 113, 3) := by decide +kernel
theorem dX2_isSame_461 : decode cX2_isSame 461 = .ok (.aload_n 0, 1) := by decide +kernel
theorem dX2_isSame_462 : decode cX2_isSame 462 = .ok (.getfield 14, 3) := by decide +kernel
theorem dX2_isSame_465 : decode cX2_isSame 465 = .ok (.arraylength, 1) := by decide +kernel
theorem dX2_isSame_466 : decode cX2_isSame 466 = .ok (.if_icmp .ne 79, 3) := by decide +kernel
theorem dX2_isSame_469 : decode cX2_isSame 469 = .ok (.aload_n 1, 1) := by decide +kernel
theorem dX2_isSame_470 : decode cX2_isSame 470 = .ok (.invokevirtual 115, 3) := by decide +kernel
theorem dX2_isSame_473 : decode cX2_isSame 473 = .ok (.aload_n 0, 1) := by decide +kernel
theorem dX2_isSame_474 : decode cX2_isSame 474 = .ok (.getfield 18, 3) := by decide +kernel
theorem dX2_isSame_477 : decode cX2_isSame 477 = .ok (.arraylength, 1) := by decide +kernel
theorem dX2_isSame_478 : decode cX2_isSame 478 = .ok (.if_icmp .ne 67, 3) := by decide +kernel
theorem dX2_isSame_481 : decode cX2_isSame 481 = .ok (.aload_n 1, 1) := by decide +kernel
theorem dX2_isSame_482 : decode cX2_isSame 482 = .ok (.invokevirtual 117, 3) := by decide +kernel
theorem dX2_isSame_485 : decode cX2_isSame 485 = .ok (.aload_n 0, 1) := by decide +kernel
theorem dX2_isSame_486 : decode cX2_isSame 486 = .ok (.invokevirtual 120, 3) := by decide +kernel
theorem dX2_isSame_489 : decode cX2_isSame 489 = .ok (.if_icmp .ne 56, 3) := by decide +kernel
theorem dX2_isSame_492 : decode cX2_isSame 492 = .ok (.aload_n 1, 1) := by decide +kernel
theorem dX2_isSame_493 : decode cX2_isSame 493 = .ok (.invokevirtual 121, 3) := by decide +kernel
theorem dX2_isSame_496 : decode cX2_isSame 496 = .ok (.aload_n 0, 1) := by decide +kernel
theorem dX2_isSame_497 : decode cX2_isSame 497 = .ok (.getfield 36, 3) := by decide +kernel
theorem dX2_isSame_500 : decode cX2_isSame 500 = .ok (.if_icmp .ne 45, 3) := by decide +kernel
theorem dX2_isSame_503 : decode cX2_isSame 503 = .ok (.aload_n 1, 1) := by decide +kernel
theorem dX2_isSame_504 : decode cX2_isSame 504 = .ok (.invokevirtual 123, 3) := by decide +kernel
theorem dX2_isSame_507 : decode cX2_isSame 507 = .ok (.aload_n 0, 1) := by decide +kernel
theorem dX2_isSame_508 : decode cX2_isSame 508 = .ok (.getfield 39, 3) := by decide +kernel
theorem dX2_isSame_511 : decode cX2_isSame 511 = .ok (.if_icmp .ne 34, 3) := by decide +kernel
theorem dX2_isSame_514 : decode cX2_isSame 514 = .ok (.aload_n 1, 1) := by decide +kernel
theorem dX2_isSame_515 : decode cX2_isSame 515 = .ok (.invokevirtual 126, 3) := by decide +kernel
theorem dX2_isSame_518 : decode cX2_isSame 518 = .ok (.aload_n 0, 1) := by decide +kernel
theorem dX2_isSame_519 : decode cX2_isSame 519 = .ok (.invokevirtual 120, 3) := by decide +kernel
theorem dX2_isSame_522 : decode cX2_isSame 522 = .ok (.ifCond .ne 7, 3) := by decide +kernel
theorem dX2_isSame_525 : decode cX2_isSame 525 = .ok (.dconst 0, 1) := by decide +kernel
theorem dX2_isSame_526 : decode cX2_isSame 526 = .ok (.goto 11, 3) := by decide +kernel
theorem dX2_isSame_529 : decode cX2_isSame 529 = .ok (.iload_n 2, 1) := by decide +kernel
theorem dX2_isSame_530 : decode cX2_isSame 530 = .ok (.i2d, 1) := by decide +kernel
theorem dX2_isSame_531 : decode cX2_isSame 531 = .ok (.aload_n 0, 1) := by decide +kernel
theorem dX2_isSame_532 : decode cX2_isSame 532 = .ok (.invokevirtual 120, 3) := by decide +kernel
theorem dX2_isSame_535 : decode cX2_isSame 535 = .ok (.i2d, 1) := by decide +kernel
theorem dX2_isSame_536 : decode cX2_isSame 536 = .ok (.ddiv, 1) := by decide +kernel
theorem dX2_isSame_537 : decode cX2_isSame 537 = .ok (.dcmp .l, 1) := by decide +kernel
theorem dX2_isSame_538 : decode cX2_isSame 538 = .ok (.ifCond .ne 7, 3) := by decide +kernel
theorem dX2_isSame_541 : decode cX2_isSame 541 = .ok (.iconst 1, 1) := by decide +kernel
theorem dX2_isSame_542 : decode cX2_isSame 542 = .ok (.goto 4, 3) := by decide +kernel
theorem dX2_isSame_545 : decode cX2_isSame 545 = .ok (.iconst 0, 1) := by decide +kernel
theorem dX2_isSame_546 : decode cX2_isSame 546 = .ok (.ireturn, 1) := by decide +kernel
