theorem dX0_init_0 : decode cX0_init 0 = .ok (.aload_n 0, 1) := by decide +kernel
theorem dX0_init_1 : decode cX0_init 1 = .ok (.invokespecial 3, 3) := by decide +kernel
theorem dX0_init_4 : decode cX0_init 4 = .ok (.aload_n 0, 1) := by decide +kernel
theorem dX0_init_5 : decode cX0_init 5 = .ok (.iload_n 1, 1) := by decide +kernel
theorem dX0_init_6 : decode cX0_init 6 = .ok (.putfield 9, 3) := by decide +kernel
theorem dX0_init_9 : decode cX0_init 9 = .ok (.aload_n 0, 1) := by decide +kernel
theorem dX0_init_10 : decode cX0_init 10 = .ok (.iload_n 2, 1) := by decide +kernel
theorem dX0_init_11 : decode cX0_init 11 = .ok (.putfield 15, 3) := by decide +kernel
theorem dX0_init_14 : decode cX0_init 14 = .ok (.aload_n 0, 1) := by decide +kernel
theorem dX0_init_15 : decode cX0_init 15 = .ok (.iload_n 3, 1) := by decide +kernel
theorem dX0_init_16 : decode cX0_init 16 = .ok (.putfield 18, 3) := by decide +kernel
theorem dX0_init_19 : decode cX0_init 19 = .ok (.aload_n 0, 1) := by decide +kernel
theorem dX0_init_20 : decode cX0_init 20 = .ok (.iload 4, 2) := by decide +kernel
theorem dX0_init_22 : decode cX0_init 22 = .ok (.putfield 21, 3) := by decide +kernel
theorem dX0_init_25 : decode cX0_init 25 = .ok (.aload_n 0, 1) := by decide +kernel
theorem dX0_init_26 : decode cX0_init 26 = .ok (.iload_n 2, 1) := by decide +kernel
theorem dX0_init_27 : decode cX0_init 27 = .ok (.putfield 24, 3) := by decide +kernel
theorem dX0_init_30 : decode cX0_init 30 = .ok (.return_, 1) := by decide +kernel
theorem dX0_isTaken_0 : decode cX0_isTaken 0 = .ok (.iload_n 1, 1) := by decide +kernel
theorem dX0_isTaken_1 : decode cX0_isTaken 1 = .ok (.aload_n 0, 1) := by decide +kernel
theorem dX0_isTaken_2 : decode cX0_isTaken 2 = .ok (.getfield 24, 3) := by decide +kernel
theorem dX0_isTaken_5 : decode cX0_isTaken 5 = .ok (.if_icmp .lt 20, 3) := by decide +kernel
theorem dX0_isTaken_8 : decode cX0_isTaken 8 = .ok (.iload_n 1, 1) := by decide +kernel
theorem dX0_isTaken_9 : decode cX0_isTaken 9 = .ok (.aload_n 0, 1) := by decide +kernel
theorem dX0_isTaken_10 : decode cX0_isTaken 10 = .ok (.getfield 24, 3) := by decide +kernel
theorem dX0_isTaken_13 : decode cX0_isTaken 13 = .ok (.aload_n 0, 1) := by decide +kernel
theorem dX0_isTaken_14 : decode cX0_isTaken 14 = .ok (.getfield 27, 3) := by decide +kernel
theorem dX0_isTaken_17 : decode cX0_isTaken 17 = .ok (.iadd, 1) := by decide +kernel
theorem dX0_isTaken_18 : decode cX0_isTaken 18 = .ok (.if_icmp .ge 7, 3) := by decide +kernel
theorem dX0_isTaken_21 : decode cX0_isTaken 21 = .ok (.iconst 1, 1) := by decide +kernel
theorem dX0_isTaken_22 : decode cX0_isTaken 22 = .ok (.goto 4, 3) := by decide +kernel
theorem dX0_isTaken_25 : decode cX0_isTaken 25 = .ok (.iconst 0, 1) := by decide +kernel
theorem dX0_isTaken_26 : decode cX0_isTaken 26 = .ok (.ireturn, 1) := by decide +kernel
theorem dX0_isInFrom_0 : decode cX0_isInFrom 0 = .ok (.aload_n 0, 1) := by decide +kernel
theorem dX0_isInFrom_1 : decode cX0_isInFrom 1 = .ok (.getfield 30, 3) := by decide +kernel
theorem dX0_isInFrom_4 : decode cX0_isInFrom 4 = .ok (.ifCond .eq 28, 3) := by decide +kernel
theorem dX0_isInFrom_7 : decode cX0_isInFrom 7 = .ok (.iload_n 1, 1) := by decide +kernel
theorem dX0_isInFrom_8 : decode cX0_isInFrom 8 = .ok (.aload_n 0, 1) := by decide +kernel
theorem dX0_isInFrom_9 : decode cX0_isInFrom 9 = .ok (.getfield 30, 3) := by decide +kernel
theorem dX0_isInFrom_12 : decode cX0_isInFrom 12 = .ok (.if_icmp .lt 20, 3) := by decide +kernel
theorem dX0_isInFrom_15 : decode cX0_isInFrom 15 = .ok (.iload_n 1, 1) := by decide +kernel
theorem dX0_isInFrom_16 : decode cX0_isInFrom 16 = .ok (.aload_n 0, 1) := by decide +kernel
theorem dX0_isInFrom_17 : decode cX0_isInFrom 17 = .ok (.getfield 30, 3) := by decide +kernel
theorem dX0_isInFrom_20 : decode cX0_isInFrom 20 = .ok (.aload_n 0, 1) := by decide +kernel
theorem dX0_isInFrom_21 : decode cX0_isInFrom 21 = .ok (.getfield 18, 3) := by decide +kernel
theorem dX0_isInFrom_24 : decode cX0_isInFrom 24 = .ok (.iadd, 1) := by decide +kernel
theorem dX0_isInFrom_25 : decode cX0_isInFrom 25 = .ok (.if_icmp .ge 7, 3) := by decide +kernel
theorem dX0_isInFrom_28 : decode cX0_isInFrom 28 = .ok (.iconst 1, 1) := by decide +kernel
theorem dX0_isInFrom_29 : decode cX0_isInFrom 29 = .ok (.goto 4, 3) := by decide +kernel
theorem dX0_isInFrom_32 : decode cX0_isInFrom 32 = .ok (.iconst 0, 1) := by decide +kernel
theorem dX0_isInFrom_33 : decode cX0_isInFrom 33 = .ok (.ireturn, 1) := by decide +kernel
theorem dX0_fits_0 : decode cX0_fits 0 = .ok (.aload_n 0, 1) := by decide +kernel
theorem dX0_fits_1 : decode cX0_fits 1 = .ok (.getfield 27, 3) := by decide +kernel
theorem dX0_fits_4 : decode cX0_fits 4 = .ok (.aload_n 0, 1) := by decide +kernel
theorem dX0_fits_5 : decode cX0_fits 5 = .ok (.getfield 33, 3) := by decide +kernel
theorem dX0_fits_8 : decode cX0_fits 8 = .ok (.iadd, 1) := by decide +kernel
theorem dX0_fits_9 : decode cX0_fits 9 = .ok (.iload_n 1, 1) := by decide +kernel
theorem dX0_fits_10 : decode cX0_fits 10 = .ok (.iadd, 1) := by decide +kernel
theorem dX0_fits_11 : decode cX0_fits 11 = .ok (.aload_n 0, 1) := by decide +kernel
theorem dX0_fits_12 : decode cX0_fits 12 = .ok (.getfield 18, 3) := by decide +kernel
theorem dX0_fits_15 : decode cX0_fits 15 = .ok (.if_icmp .gt 7, 3) := by decide +kernel
theorem dX0_fits_18 : decode cX0_fits 18 = .ok (.iconst 1, 1) := by decide +kernel
theorem dX0_fits_19 : decode cX0_fits 19 = .ok (.goto 4, 3) := by decide +kernel
theorem dX0_fits_22 : decode cX0_fits 22 = .ok (.iconst 0, 1) := by decide +kernel
theorem dX0_fits_23 : decode cX0_fits 23 = .ok (.ireturn, 1) := by decide +kernel
theorem dX0_take_0 : decode cX0_take 0 = .ok (.aload_n 0, 1) := by decide +kernel
theorem dX0_take_1 : decode cX0_take 1 = .ok (.getfield 24, 3) := by decide +kernel
theorem dX0_take_4 : decode cX0_take 4 = .ok (.aload_n 0, 1) := by decide +kernel
theorem dX0_take_5 : decode cX0_take 5 = .ok (.getfield 27, 3) := by decide +kernel
theorem dX0_take_8 : decode cX0_take 8 = .ok (.iadd, 1) := by decide +kernel
theorem dX0_take_9 : decode cX0_take 9 = .ok (.istore_n 2, 1) := by decide +kernel
theorem dX0_take_10 : decode cX0_take 10 = .ok (.aload_n 0, 1) := by decide +kernel
theorem dX0_take_11 : decode cX0_take 11 = .ok (.dup, 1) := by decide +kernel
theorem dX0_take_12 : decode cX0_take 12 = .ok (.getfield 27, 3) := by decide +kernel
theorem dX0_take_15 : decode cX0_take 15 = .ok (.iload_n 1, 1) := by decide +kernel
theorem dX0_take_16 : decode cX0_take 16 = .ok (.iadd, 1) := by decide +kernel
theorem dX0_take_17 : decode cX0_take 17 = .ok (.putfield 27, 3) := by decide +kernel
theorem dX0_take_20 : decode cX0_take 20 = .ok (.iload_n 2, 1) := by decide +kernel
theorem dX0_take_21 : decode cX0_take 21 = .ok (.ireturn, 1) := by decide +kernel
theorem dX0_begin_0 : decode cX0_begin 0 = .ok (.iload_n 1, 1) := by decide +kernel
theorem dX0_begin_1 : decode cX0_begin 1 = .ok (.ifCond .eq 55, 3) := by decide +kernel
theorem dX0_begin_4 : decode cX0_begin 4 = .ok (.aload_n 0, 1) := by decide +kernel
theorem dX0_begin_5 : decode cX0_begin 5 = .ok (.aload_n 0, 1) := by decide +kernel
theorem dX0_begin_6 : decode cX0_begin 6 = .ok (.getfield 24, 3) := by decide +kernel
theorem dX0_begin_9 : decode cX0_begin 9 = .ok (.putfield 30, 3) := by decide +kernel
theorem dX0_begin_12 : decode cX0_begin 12 = .ok (.aload_n 0, 1) := by decide +kernel
theorem dX0_begin_13 : decode cX0_begin 13 = .ok (.aload_n 0, 1) := by decide +kernel
theorem dX0_begin_14 : decode cX0_begin 14 = .ok (.getfield 27, 3) := by decide +kernel
theorem dX0_begin_17 : decode cX0_begin 17 = .ok (.putfield 33, 3) := by decide +kernel
theorem dX0_begin_20 : decode cX0_begin 20 = .ok (.aload_n 0, 1) := by decide +kernel
theorem dX0_begin_21 : decode cX0_begin 21 = .ok (.aload_n 0, 1) := by decide +kernel
theorem dX0_begin_22 : decode cX0_begin 22 = .ok (.getfield 30, 3) := by decide +kernel
theorem dX0_begin_25 : decode cX0_begin 25 = .ok (.aload_n 0, 1) := by decide +kernel
theorem dX0_begin_26 : decode cX0_begin 26 = .ok (.getfield 15, 3) := by decide +kernel
theorem dX0_begin_29 : decode cX0_begin 29 = .ok (.if_icmp .ne 15, 3) := by decide +kernel
theorem dX0_begin_32 : decode cX0_begin 32 = .ok (.aload_n 0, 1) := by decide +kernel
theorem dX0_begin_33 : decode cX0_begin 33 = .ok (.getfield 15, 3) := by decide +kernel
theorem dX0_begin_36 : decode cX0_begin 36 = .ok (.aload_n 0, 1) := by decide +kernel
theorem dX0_begin_37 : decode cX0_begin 37 = .ok (.getfield 18, 3) := by decide +kernel
theorem dX0_begin_40 : decode cX0_begin 40 = .ok (.iadd, 1) := by decide +kernel
theorem dX0_begin_41 : decode cX0_begin 41 = .ok (.goto 7, 3) := by decide +kernel
theorem dX0_begin_44 : decode cX0_begin 44 = .ok (.aload_n 0, 1) := by decide +kernel
theorem dX0_begin_45 : decode cX0_begin 45 = .ok (.getfield 15, 3) := by decide +kernel
theorem dX0_begin_48 : decode cX0_begin 48 = .ok (.putfield 24, 3) := by decide +kernel
theorem dX0_begin_51 : decode cX0_begin 51 = .ok (.aload_n 0, 1) := by decide +kernel
theorem dX0_begin_52 : decode cX0_begin 52 = .ok (.iconst 0, 1) := by decide +kernel
theorem dX0_begin_53 : decode cX0_begin 53 = .ok (.putfield 27, 3) := by decide +kernel
theorem dX0_begin_56 : decode cX0_begin 56 = .ok (.aload_n 0, 1) := by decide +kernel
theorem dX0_begin_57 : decode cX0_begin 57 = .ok (.aload_n 0, 1) := by decide +kernel
theorem dX0_begin_58 : decode cX0_begin 58 = .ok (.getfield 27, 3) := by decide +kernel
theorem dX0_begin_61 : decode cX0_begin 61 = .ok (.putfield 36, 3) := by decide +kernel
theorem dX0_begin_64 : decode cX0_begin 64 = .ok (.return_, 1) := by decide +kernel
theorem dX0_end_0 : decode cX0_end 0 = .ok (.aload_n 0, 1) := by decide +kernel
theorem dX0_end_1 : decode cX0_end 1 = .ok (.iconst 0, 1) := by decide +kernel
theorem dX0_end_2 : decode cX0_end 2 = .ok (.putfield 30, 3) := by decide +kernel
theorem dX0_end_5 : decode cX0_end 5 = .ok (.aload_n 0, 1) := by decide +kernel
theorem dX0_end_6 : decode cX0_end 6 = .ok (.iconst 0, 1) := by decide +kernel
theorem dX0_end_7 : decode cX0_end 7 = .ok (.putfield 33, 3) := by decide +kernel
theorem dX0_end_10 : decode cX0_end 10 = .ok (.return_, 1) := by decide +kernel
theorem dX1_init_0 : decode cX1_init 0 = .ok (.aload_n 0, 1) := by decide +kernel
theorem dX1_init_1 : decode cX1_init 1 = .ok (.invokespecial 3, 3) := by decide +kernel
theorem dX1_init_4 : decode cX1_init 4 = .ok (.aload_n 0, 1) := by decide +kernel
theorem dX1_init_5 : decode cX1_init 5 = .ok (.iconst 3, 1) := by decide +kernel
theorem dX1_init_6 : decode cX1_init 6 = .ok (.anewarray 9, 3) := by decide +kernel
theorem dX1_init_9 : decode cX1_init 9 = .ok (.putfield 11, 3) := by decide +kernel
theorem dX1_init_12 : decode cX1_init 12 = .ok (.aload_n 0, 1) := by decide +kernel
theorem dX1_init_13 : decode cX1_init 13 = .ok (.new 17, 3) := by decide +kernel
theorem dX1_init_16 : decode cX1_init 16 = .ok (.dup, 1) := by decide +kernel
theorem dX1_init_17 : decode cX1_init 17 = .ok (.bipush 16, 2) := by decide +kernel
theorem dX1_init_19 : decode cX1_init 19 = .ok (.bipush 16, 2) := by decide +kernel
theorem dX1_init_21 : decode cX1_init 21 = .ok (.invokespecial 19, 3) := by decide +kernel
theorem dX1_init_24 : decode cX1_init 24 = .ok (.putfield 22, 3) := by decide +kernel
theorem dX1_init_27 : decode cX1_init 27 = .ok (.aload_n 0, 1) := by decide +kernel
theorem dX1_init_28 : decode cX1_init 28 = .ok (.new 17, 3) := by decide +kernel
theorem dX1_init_31 : decode cX1_init 31 = .ok (.dup, 1) := by decide +kernel
theorem dX1_init_32 : decode cX1_init 32 = .ok (.bipush 40, 2) := by decide +kernel
theorem dX1_init_34 : decode cX1_init 34 = .ok (.iconst 0, 1) := by decide +kernel
theorem dX1_init_35 : decode cX1_init 35 = .ok (.invokespecial 19, 3) := by decide +kernel
theorem dX1_init_38 : decode cX1_init 38 = .ok (.putfield 26, 3) := by decide +kernel
theorem dX1_init_41 : decode cX1_init 41 = .ok (.aload_n 0, 1) := by decide +kernel
theorem dX1_init_42 : decode cX1_init 42 = .ok (.new 17, 3) := by decide +kernel
theorem dX1_init_45 : decode cX1_init 45 = .ok (.dup, 1) := by decide +kernel
theorem dX1_init_46 : decode cX1_init 46 = .ok (.bipush 8, 2) := by decide +kernel
theorem dX1_init_48 : decode cX1_init 48 = .ok (.bipush 8, 2) := by decide +kernel
theorem dX1_init_50 : decode cX1_init 50 = .ok (.invokespecial 19, 3) := by decide +kernel
theorem dX1_init_53 : decode cX1_init 53 = .ok (.putfield 29, 3) := by decide +kernel
theorem dX1_init_56 : decode cX1_init 56 = .ok (.aload_n 0, 1) := by decide +kernel
theorem dX1_init_57 : decode cX1_init 57 = .ok (.iconst 1, 1) := by decide +kernel
theorem dX1_init_58 : decode cX1_init 58 = .ok (.bipush 14, 2) := by decide +kernel
theorem dX1_init_60 : decode cX1_init 60 = .ok (.iload_n 1, 1) := by decide +kernel
theorem dX1_init_61 : decode cX1_init 61 = .ok (.imul, 1) := by decide +kernel
theorem dX1_init_62 : decode cX1_init 62 = .ok (.iadd, 1) := by decide +kernel
theorem dX1_init_63 : decode cX1_init 63 = .ok (.newarray .int, 2) := by decide +kernel
theorem dX1_init_65 : decode cX1_init 65 = .ok (.putfield 32, 3) := by decide +kernel
theorem dX1_init_68 : decode cX1_init 68 = .ok (.aload_n 0, 1) := by decide +kernel
theorem dX1_init_69 : decode cX1_init 69 = .ok (.getfield 11, 3) := by decide +kernel
theorem dX1_init_72 : decode cX1_init 72 = .ok (.iconst 0, 1) := by decide +kernel
theorem dX1_init_73 : decode cX1_init 73 = .ok (.new 9, 3) := by decide +kernel
theorem dX1_init_76 : decode cX1_init 76 = .ok (.dup, 1) := by decide +kernel
theorem dX1_init_77 : decode cX1_init 77 = .ok (.iconst 0, 1) := by decide +kernel
theorem dX1_init_78 : decode cX1_init 78 = .ok (.iconst 1, 1) := by decide +kernel
theorem dX1_init_79 : decode cX1_init 79 = .ok (.iload_n 1, 1) := by decide +kernel
theorem dX1_init_80 : decode cX1_init 80 = .ok (.iload_n 2, 1) := by decide +kernel
theorem dX1_init_81 : decode cX1_init 81 = .ok (.invokespecial 36, 3) := by decide +kernel
theorem dX1_init_84 : decode cX1_init 84 = .ok (.aastore, 1) := by decide +kernel
theorem dX1_init_85 : decode cX1_init 85 = .ok (.aload_n 0, 1) := by decide +kernel
theorem dX1_init_86 : decode cX1_init 86 = .ok (.getfield 11, 3) := by decide +kernel
theorem dX1_init_89 : decode cX1_init 89 = .ok (.iconst 1, 1) := by decide +kernel
theorem dX1_init_90 : decode cX1_init 90 = .ok (.new 9, 3) := by decide +kernel
theorem dX1_init_93 : decode cX1_init 93 = .ok (.dup, 1) := by decide +kernel
theorem dX1_init_94 : decode cX1_init 94 = .ok (.iconst 1, 1) := by decide +kernel
theorem dX1_init_95 : decode cX1_init 95 = .ok (.iconst 1, 1) := by decide +kernel
theorem dX1_init_96 : decode cX1_init 96 = .ok (.iconst 2, 1) := by decide +kernel
theorem dX1_init_97 : decode cX1_init 97 = .ok (.iload_n 1, 1) := by decide +kernel
theorem dX1_init_98 : decode cX1_init 98 = .ok (.imul, 1) := by decide +kernel
theorem dX1_init_99 : decode cX1_init 99 = .ok (.iadd, 1) := by decide +kernel
theorem dX1_init_100 : decode cX1_init 100 = .ok (.iconst 2, 1) := by decide +kernel
theorem dX1_init_101 : decode cX1_init 101 = .ok (.iload_n 1, 1) := by decide +kernel
theorem dX1_init_102 : decode cX1_init 102 = .ok (.imul, 1) := by decide +kernel
theorem dX1_init_103 : decode cX1_init 103 = .ok (.iload_n 3, 1) := by decide +kernel
theorem dX1_init_104 : decode cX1_init 104 = .ok (.invokespecial 36, 3) := by decide +kernel
theorem dX1_init_107 : decode cX1_init 107 = .ok (.aastore, 1) := by decide +kernel
theorem dX1_init_108 : decode cX1_init 108 = .ok (.aload_n 0, 1) := by decide +kernel
theorem dX1_init_109 : decode cX1_init 109 = .ok (.getfield 11, 3) := by decide +kernel
theorem dX1_init_112 : decode cX1_init 112 = .ok (.iconst 2, 1) := by decide +kernel
theorem dX1_init_113 : decode cX1_init 113 = .ok (.new 9, 3) := by decide +kernel
theorem dX1_init_116 : decode cX1_init 116 = .ok (.dup, 1) := by decide +kernel
theorem dX1_init_117 : decode cX1_init 117 = .ok (.iconst 2, 1) := by decide +kernel
theorem dX1_init_118 : decode cX1_init 118 = .ok (.iconst 1, 1) := by decide +kernel
theorem dX1_init_119 : decode cX1_init 119 = .ok (.bipush 6, 2) := by decide +kernel
theorem dX1_init_121 : decode cX1_init 121 = .ok (.iload_n 1, 1) := by decide +kernel
theorem dX1_init_122 : decode cX1_init 122 = .ok (.imul, 1) := by decide +kernel
theorem dX1_init_123 : decode cX1_init 123 = .ok (.iadd, 1) := by decide +kernel
theorem dX1_init_124 : decode cX1_init 124 = .ok (.iconst 4, 1) := by decide +kernel
theorem dX1_init_125 : decode cX1_init 125 = .ok (.iload_n 1, 1) := by decide +kernel
theorem dX1_init_126 : decode cX1_init 126 = .ok (.imul, 1) := by decide +kernel
theorem dX1_init_127 : decode cX1_init 127 = .ok (.bipush 7, 2) := by decide +kernel
theorem dX1_init_129 : decode cX1_init 129 = .ok (.invokespecial 36, 3) := by decide +kernel
theorem dX1_init_132 : decode cX1_init 132 = .ok (.aastore, 1) := by decide +kernel
theorem dX1_init_133 : decode cX1_init 133 = .ok (.aload_n 0, 1) := by decide +kernel
theorem dX1_init_134 : decode cX1_init 134 = .ok (.new 17, 3) := by decide +kernel
theorem dX1_init_137 : decode cX1_init 137 = .ok (.dup, 1) := by decide +kernel
theorem dX1_init_138 : decode cX1_init 138 = .ok (.bipush 7, 2) := by decide +kernel
theorem dX1_init_140 : decode cX1_init 140 = .ok (.iload_n 1, 1) := by decide +kernel
theorem dX1_init_141 : decode cX1_init 141 = .ok (.imul, 1) := by decide +kernel
theorem dX1_init_142 : decode cX1_init 142 = .ok (.iconst 2, 1) := by decide +kernel
theorem dX1_init_143 : decode cX1_init 143 = .ok (.idiv, 1) := by decide +kernel
theorem dX1_init_144 : decode cX1_init 144 = .ok (.iconst 0, 1) := by decide +kernel
theorem dX1_init_145 : decode cX1_init 145 = .ok (.invokespecial 19, 3) := by decide +kernel
theorem dX1_init_148 : decode cX1_init 148 = .ok (.putfield 39, 3) := by decide +kernel
theorem dX1_init_151 : decode cX1_init 151 = .ok (.aload_n 0, 1) := by decide +kernel
theorem dX1_init_152 : decode cX1_init 152 = .ok (.new 17, 3) := by decide +kernel
theorem dX1_init_155 : decode cX1_init 155 = .ok (.dup, 1) := by decide +kernel
theorem dX1_init_156 : decode cX1_init 156 = .ok (.bipush 7, 2) := by decide +kernel
theorem dX1_init_158 : decode cX1_init 158 = .ok (.iload_n 1, 1) := by decide +kernel
theorem dX1_init_159 : decode cX1_init 159 = .ok (.imul, 1) := by decide +kernel
theorem dX1_init_160 : decode cX1_init 160 = .ok (.iconst 2, 1) := by decide +kernel
theorem dX1_init_161 : decode cX1_init 161 = .ok (.idiv, 1) := by decide +kernel
theorem dX1_init_162 : decode cX1_init 162 = .ok (.iconst 0, 1) := by decide +kernel
theorem dX1_init_163 : decode cX1_init 163 = .ok (.invokespecial 19, 3) := by decide +kernel
theorem dX1_init_166 : decode cX1_init 166 = .ok (.putfield 42, 3) := by decide +kernel
theorem dX1_init_169 : decode cX1_init 169 = .ok (.aload_n 0, 1) := by decide +kernel
theorem dX1_init_170 : decode cX1_init 170 = .ok (.new 17, 3) := by decide +kernel
theorem dX1_init_173 : decode cX1_init 173 = .ok (.dup, 1) := by decide +kernel
theorem dX1_init_174 : decode cX1_init 174 = .ok (.iload 4, 2) := by decide +kernel
theorem dX1_init_176 : decode cX1_init 176 = .ok (.iconst 0, 1) := by decide +kernel
theorem dX1_init_177 : decode cX1_init 177 = .ok (.invokespecial 19, 3) := by decide +kernel
theorem dX1_init_180 : decode cX1_init 180 = .ok (.putfield 45, 3) := by decide +kernel
theorem dX1_init_183 : decode cX1_init 183 = .ok (.aload_n 0, 1) := by decide +kernel
theorem dX1_init_184 : decode cX1_init 184 = .ok (.iload_n 1, 1) := by decide +kernel
theorem dX1_init_185 : decode cX1_init 185 = .ok (.invokestatic 48, 3) := by decide +kernel
theorem dX1_init_188 : decode cX1_init 188 = .ok (.putfield 52, 3) := by decide +kernel
theorem dX1_init_191 : decode cX1_init 191 = .ok (.aload_n 0, 1) := by decide +kernel
theorem dX1_init_192 : decode cX1_init 192 = .ok (.iload_n 1, 1) := by decide +kernel
theorem dX1_init_193 : decode cX1_init 193 = .ok (.invokestatic 48, 3) := by decide +kernel
theorem dX1_init_196 : decode cX1_init 196 = .ok (.putfield 56, 3) := by decide +kernel
theorem dX1_init_199 : decode cX1_init 199 = .ok (.return_, 1) := by decide +kernel
theorem dX1_newRows_0 : decode cX1_newRows 0 = .ok (.iconst 2, 1) := by decide +kernel
theorem dX1_newRows_1 : decode cX1_newRows 1 = .ok (.anewarray 17, 3) := by decide +kernel
theorem dX1_newRows_4 : decode cX1_newRows 4 = .ok (.astore_n 1, 1) := by decide +kernel
theorem dX1_newRows_5 : decode cX1_newRows 5 = .ok (.aload_n 1, 1) := by decide +kernel
theorem dX1_newRows_6 : decode cX1_newRows 6 = .ok (.iconst 0, 1) := by decide +kernel
theorem dX1_newRows_7 : decode cX1_newRows 7 = .ok (.new 17, 3) := by decide +kernel
theorem dX1_newRows_10 : decode cX1_newRows 10 = .ok (.dup, 1) := by decide +kernel
theorem dX1_newRows_11 : decode cX1_newRows 11 = .ok (.bipush 6, 2) := by decide +kernel
theorem dX1_newRows_13 : decode cX1_newRows 13 = .ok (.iload_n 0, 1) := by decide +kernel
theorem dX1_newRows_14 : decode cX1_newRows 14 = .ok (.imul, 1) := by decide +kernel
theorem dX1_newRows_15 : decode cX1_newRows 15 = .ok (.iconst 0, 1) := by decide +kernel
theorem dX1_newRows_16 : decode cX1_newRows 16 = .ok (.invokespecial 19, 3) := by decide +kernel
theorem dX1_newRows_19 : decode cX1_newRows 19 = .ok (.aastore, 1) := by decide +kernel
theorem dX1_newRows_20 : decode cX1_newRows 20 = .ok (.aload_n 1, 1) := by decide +kernel
theorem dX1_newRows_21 : decode cX1_newRows 21 = .ok (.iconst 1, 1) := by decide +kernel
theorem dX1_newRows_22 : decode cX1_newRows 22 = .ok (.new 17, 3) := by decide +kernel
theorem dX1_newRows_25 : decode cX1_newRows 25 = .ok (.dup, 1) := by decide +kernel
theorem dX1_newRows_26 : decode cX1_newRows 26 = .ok (.iconst 4, 1) := by decide +kernel
theorem dX1_newRows_27 : decode cX1_newRows 27 = .ok (.iload_n 0, 1) := by decide +kernel
theorem dX1_newRows_28 : decode cX1_newRows 28 = .ok (.imul, 1) := by decide +kernel
theorem dX1_newRows_29 : decode cX1_newRows 29 = .ok (.iconst 0, 1) := by decide +kernel
theorem dX1_newRows_30 : decode cX1_newRows 30 = .ok (.invokespecial 19, 3) := by decide +kernel
theorem dX1_newRows_33 : decode cX1_newRows 33 = .ok (.aastore, 1) := by decide +kernel
theorem dX1_newRows_34 : decode cX1_newRows 34 = .ok (.aload_n 1, 1) := by decide +kernel
theorem dX1_newRows_35 : decode cX1_newRows 35 = .ok (.areturn, 1) := by decide +kernel
theorem dX1_fieldsOf_0 : decode cX1_fieldsOf 0 = .ok (.aload_n 0, 1) := by decide +kernel
theorem dX1_fieldsOf_1 : decode cX1_fieldsOf 1 = .ok (.getfield 32, 3) := by decide +kernel
theorem dX1_fieldsOf_4 : decode cX1_fieldsOf 4 = .ok (.iload_n 1, 1) := by decide +kernel
theorem dX1_fieldsOf_5 : decode cX1_fieldsOf 5 = .ok (.iaload, 1) := by decide +kernel
theorem dX1_fieldsOf_6 : decode cX1_fieldsOf 6 = .ok (.bipush 7, 2) := by decide +kernel
theorem dX1_fieldsOf_8 : decode cX1_fieldsOf 8 = .ok (.iand, 1) := by decide +kernel
theorem dX1_fieldsOf_9 : decode cX1_fieldsOf 9 = .ok (.ireturn, 1) := by decide +kernel
theorem dX1_ageOf_0 : decode cX1_ageOf 0 = .ok (.aload_n 0, 1) := by decide +kernel
theorem dX1_ageOf_1 : decode cX1_ageOf 1 = .ok (.getfield 32, 3) := by decide +kernel
theorem dX1_ageOf_4 : decode cX1_ageOf 4 = .ok (.iload_n 1, 1) := by decide +kernel
theorem dX1_ageOf_5 : decode cX1_ageOf 5 = .ok (.iaload, 1) := by decide +kernel
theorem dX1_ageOf_6 : decode cX1_ageOf 6 = .ok (.iconst 3, 1) := by decide +kernel
theorem dX1_ageOf_7 : decode cX1_ageOf 7 = .ok (.ishr, 1) := by decide +kernel
theorem dX1_ageOf_8 : decode cX1_ageOf 8 = .ok (.bipush 7, 2) := by decide +kernel
theorem dX1_ageOf_10 : decode cX1_ageOf 10 = .ok (.iand, 1) := by decide +kernel
theorem dX1_ageOf_11 : decode cX1_ageOf 11 = .ok (.ireturn, 1) := by decide +kernel
theorem dX1_isKeen_0 : decode cX1_isKeen 0 = .ok (.aload_n 0, 1) := by decide +kernel
theorem dX1_isKeen_1 : decode cX1_isKeen 1 = .ok (.getfield 32, 3) := by decide +kernel
theorem dX1_isKeen_4 : decode cX1_isKeen 4 = .ok (.iload_n 1, 1) := by decide +kernel
theorem dX1_isKeen_5 : decode cX1_isKeen 5 = .ok (.iaload, 1) := by decide +kernel
theorem dX1_isKeen_6 : decode cX1_isKeen 6 = .ok (.bipush 64, 2) := by decide +kernel
theorem dX1_isKeen_8 : decode cX1_isKeen 8 = .ok (.iand, 1) := by decide +kernel
theorem dX1_isKeen_9 : decode cX1_isKeen 9 = .ok (.ifCond .eq 7, 3) := by decide +kernel
theorem dX1_isKeen_12 : decode cX1_isKeen 12 = .ok (.iconst 1, 1) := by decide +kernel
theorem dX1_isKeen_13 : decode cX1_isKeen 13 = .ok (.goto 4, 3) := by decide +kernel
theorem dX1_isKeen_16 : decode cX1_isKeen 16 = .ok (.iconst 0, 1) := by decide +kernel
theorem dX1_isKeen_17 : decode cX1_isKeen 17 = .ok (.ireturn, 1) := by decide +kernel
theorem dX1_labelOf_0 : decode cX1_labelOf 0 = .ok (.aload_n 0, 1) := by decide +kernel
theorem dX1_labelOf_1 : decode cX1_labelOf 1 = .ok (.getfield 32, 3) := by decide +kernel
theorem dX1_labelOf_4 : decode cX1_labelOf 4 = .ok (.iload_n 1, 1) := by decide +kernel
theorem dX1_labelOf_5 : decode cX1_labelOf 5 = .ok (.iconst 1, 1) := by decide +kernel
theorem dX1_labelOf_6 : decode cX1_labelOf 6 = .ok (.iadd, 1) := by decide +kernel
theorem dX1_labelOf_7 : decode cX1_labelOf 7 = .ok (.iaload, 1) := by decide +kernel
theorem dX1_labelOf_8 : decode cX1_labelOf 8 = .ok (.ireturn, 1) := by decide +kernel
theorem dX1_hasField_0 : decode cX1_hasField 0 = .ok (.iload_n 2, 1) := by decide +kernel
theorem dX1_hasField_1 : decode cX1_hasField 1 = .ok (.ifCond .lt 16, 3) := by decide +kernel
theorem dX1_hasField_4 : decode cX1_hasField 4 = .ok (.iload_n 2, 1) := by decide +kernel
theorem dX1_hasField_5 : decode cX1_hasField 5 = .ok (.aload_n 0, 1) := by decide +kernel
theorem dX1_hasField_6 : decode cX1_hasField 6 = .ok (.iload_n 1, 1) := by decide +kernel
theorem dX1_hasField_7 : decode cX1_hasField 7 = .ok (.invokevirtual 59, 3) := by decide +kernel
theorem dX1_hasField_10 : decode cX1_hasField 10 = .ok (.if_icmp .ge 7, 3) := by decide +kernel
theorem dX1_hasField_13 : decode cX1_hasField 13 = .ok (.iconst 1, 1) := by decide +kernel
theorem dX1_hasField_14 : decode cX1_hasField 14 = .ok (.goto 4, 3) := by decide +kernel
theorem dX1_hasField_17 : decode cX1_hasField 17 = .ok (.iconst 0, 1) := by decide +kernel
theorem dX1_hasField_18 : decode cX1_hasField 18 = .ok (.ireturn, 1) := by decide +kernel
theorem dX1_fieldOf_0 : decode cX1_fieldOf 0 = .ok (.aload_n 0, 1) := by decide +kernel
theorem dX1_fieldOf_1 : decode cX1_fieldOf 1 = .ok (.getfield 32, 3) := by decide +kernel
theorem dX1_fieldOf_4 : decode cX1_fieldOf 4 = .ok (.iload_n 1, 1) := by decide +kernel
theorem dX1_fieldOf_5 : decode cX1_fieldOf 5 = .ok (.iconst 2, 1) := by decide +kernel
theorem dX1_fieldOf_6 : decode cX1_fieldOf 6 = .ok (.iadd, 1) := by decide +kernel
theorem dX1_fieldOf_7 : decode cX1_fieldOf 7 = .ok (.iload_n 2, 1) := by decide +kernel
theorem dX1_fieldOf_8 : decode cX1_fieldOf 8 = .ok (.iadd, 1) := by decide +kernel
theorem dX1_fieldOf_9 : decode cX1_fieldOf 9 = .ok (.iaload, 1) := by decide +kernel
theorem dX1_fieldOf_10 : decode cX1_fieldOf 10 = .ok (.ireturn, 1) := by decide +kernel
theorem dX1_rootOrNull_0 : decode cX1_rootOrNull 0 = .ok (.iload_n 1, 1) := by decide +kernel
theorem dX1_rootOrNull_1 : decode cX1_rootOrNull 1 = .ok (.iconst (-1), 1) := by decide +kernel
theorem dX1_rootOrNull_2 : decode cX1_rootOrNull 2 = .ok (.if_icmp .ne 7, 3) := by decide +kernel
theorem dX1_rootOrNull_5 : decode cX1_rootOrNull 5 = .ok (.iconst 0, 1) := by decide +kernel
theorem dX1_rootOrNull_6 : decode cX1_rootOrNull 6 = .ok (.goto 12, 3) := by decide +kernel
theorem dX1_rootOrNull_9 : decode cX1_rootOrNull 9 = .ok (.aload_n 0, 1) := by decide +kernel
theorem dX1_rootOrNull_10 : decode cX1_rootOrNull 10 = .ok (.getfield 22, 3) := by decide +kernel
theorem dX1_rootOrNull_13 : decode cX1_rootOrNull 13 = .ok (.getfield 63, 3) := by decide +kernel
theorem dX1_rootOrNull_16 : decode cX1_rootOrNull 16 = .ok (.iload_n 1, 1) := by decide +kernel
theorem dX1_rootOrNull_17 : decode cX1_rootOrNull 17 = .ok (.iaload, 1) := by decide +kernel
theorem dX1_rootOrNull_18 : decode cX1_rootOrNull 18 = .ok (.ireturn, 1) := by decide +kernel
theorem dX1_homeOf_0 : decode cX1_homeOf 0 = .ok (.iconst 2, 1) := by decide +kernel
theorem dX1_homeOf_1 : decode cX1_homeOf 1 = .ok (.istore_n 2, 1) := by decide +kernel
theorem dX1_homeOf_2 : decode cX1_homeOf 2 = .ok (.iload_n 2, 1) := by decide +kernel
theorem dX1_homeOf_3 : decode cX1_homeOf 3 = .ok (.ifCond .le 29, 3) := by decide +kernel
theorem dX1_homeOf_6 : decode cX1_homeOf 6 = .ok (.iload_n 1, 1) := by decide +kernel
theorem dX1_homeOf_7 : decode cX1_homeOf 7 = .ok (.aload_n 0, 1) := by decide +kernel
theorem dX1_homeOf_8 : decode cX1_homeOf 8 = .ok (.getfield 11, 3) := by decide +kernel
theorem dX1_homeOf_11 : decode cX1_homeOf 11 = .ok (.iload_n 2, 1) := by decide +kernel
theorem dX1_homeOf_12 : decode cX1_homeOf 12 = .ok (.aaload, 1) := by decide +kernel
theorem dX1_homeOf_13 : decode cX1_homeOf 13 = .ok (.getfield 66, 3) := by decide +kernel
theorem dX1_homeOf_16 : decode cX1_homeOf 16 = .ok (.if_icmp .lt 10, 3) := by decide +kernel
theorem dX1_homeOf_19 : decode cX1_homeOf 19 = .ok (.aload_n 0, 1) := by decide +kernel
theorem dX1_homeOf_20 : decode cX1_homeOf 20 = .ok (.getfield 11, 3) := by decide +kernel
theorem dX1_homeOf_23 : decode cX1_homeOf 23 = .ok (.iload_n 2, 1) := by decide +kernel
theorem dX1_homeOf_24 : decode cX1_homeOf 24 = .ok (.aaload, 1) := by decide +kernel
theorem dX1_homeOf_25 : decode cX1_homeOf 25 = .ok (.areturn, 1) := by decide +kernel
theorem dX1_homeOf_26 : decode cX1_homeOf 26 = .ok (.iinc 2 (-1), 3) := by decide +kernel
theorem dX1_homeOf_29 : decode cX1_homeOf 29 = .ok (.goto (-27), 3) := by decide +kernel
theorem dX1_homeOf_32 : decode cX1_homeOf 32 = .ok (.aload_n 0, 1) := by decide +kernel
theorem dX1_homeOf_33 : decode cX1_homeOf 33 = .ok (.getfield 11, 3) := by decide +kernel
theorem dX1_homeOf_36 : decode cX1_homeOf 36 = .ok (.iconst 0, 1) := by decide +kernel
theorem dX1_homeOf_37 : decode cX1_homeOf 37 = .ok (.aaload, 1) := by decide +kernel
theorem dX1_homeOf_38 : decode cX1_homeOf 38 = .ok (.areturn, 1) := by decide +kernel
theorem dX1_isTaken_0 : decode cX1_isTaken 0 = .ok (.aload_n 0, 1) := by decide +kernel
theorem dX1_isTaken_1 : decode cX1_isTaken 1 = .ok (.iload_n 1, 1) := by decide +kernel
theorem dX1_isTaken_2 : decode cX1_isTaken 2 = .ok (.invokevirtual 70, 3) := by decide +kernel
theorem dX1_isTaken_5 : decode cX1_isTaken 5 = .ok (.iload_n 1, 1) := by decide +kernel
theorem dX1_isTaken_6 : decode cX1_isTaken 6 = .ok (.invokevirtual 74, 3) := by decide +kernel
theorem dX1_isTaken_9 : decode cX1_isTaken 9 = .ok (.ireturn, 1) := by decide +kernel
theorem dX1_rowOf_0 : decode cX1_rowOf 0 = .ok (.iload_n 1, 1) := by decide +kernel
theorem dX1_rowOf_1 : decode cX1_rowOf 1 = .ok (.tableswitch 75 0 6 #[43, 43, 50, 55, 60, 65, 70], 43) := by decide +kernel
theorem dX1_rowOf_44 : decode cX1_rowOf 44 = .ok (.aload_n 0, 1) := by decide +kernel
theorem dX1_rowOf_45 : decode cX1_rowOf 45 = .ok (.getfield 52, 3) := by decide +kernel
theorem dX1_rowOf_48 : decode cX1_rowOf 48 = .ok (.iload_n 1, 1) := by decide +kernel
theorem dX1_rowOf_49 : decode cX1_rowOf 49 = .ok (.aaload, 1) := by decide +kernel
theorem dX1_rowOf_50 : decode cX1_rowOf 50 = .ok (.areturn, 1) := by decide +kernel
theorem dX1_rowOf_51 : decode cX1_rowOf 51 = .ok (.aload_n 0, 1) := by decide +kernel
theorem dX1_rowOf_52 : decode cX1_rowOf 52 = .ok (.getfield 45, 3) := by decide +kernel
theorem dX1_rowOf_55 : decode cX1_rowOf 55 = .ok (.areturn, 1) := by decide +kernel
theorem dX1_rowOf_56 : decode cX1_rowOf 56 = .ok (.aload_n 0, 1) := by decide +kernel
theorem dX1_rowOf_57 : decode cX1_rowOf 57 = .ok (.getfield 26, 3) := by decide +kernel
theorem dX1_rowOf_60 : decode cX1_rowOf 60 = .ok (.areturn, 1) := by decide +kernel
theorem dX1_rowOf_61 : decode cX1_rowOf 61 = .ok (.aload_n 0, 1) := by decide +kernel
theorem dX1_rowOf_62 : decode cX1_rowOf 62 = .ok (.getfield 39, 3) := by decide +kernel
theorem dX1_rowOf_65 : decode cX1_rowOf 65 = .ok (.areturn, 1) := by decide +kernel
theorem dX1_rowOf_66 : decode cX1_rowOf 66 = .ok (.aload_n 0, 1) := by decide +kernel
theorem dX1_rowOf_67 : decode cX1_rowOf 67 = .ok (.getfield 42, 3) := by decide +kernel
theorem dX1_rowOf_70 : decode cX1_rowOf 70 = .ok (.areturn, 1) := by decide +kernel
theorem dX1_rowOf_71 : decode cX1_rowOf 71 = .ok (.aload_n 0, 1) := by decide +kernel
theorem dX1_rowOf_72 : decode cX1_rowOf 72 = .ok (.getfield 29, 3) := by decide +kernel
theorem dX1_rowOf_75 : decode cX1_rowOf 75 = .ok (.areturn, 1) := by decide +kernel
theorem dX1_rowOf_76 : decode cX1_rowOf 76 = .ok (.aconst_null, 1) := by decide +kernel
theorem dX1_rowOf_77 : decode cX1_rowOf 77 = .ok (.areturn, 1) := by decide +kernel
theorem dX1_countOf_0 : decode cX1_countOf 0 = .ok (.iload_n 1, 1) := by decide +kernel
theorem dX1_countOf_1 : decode cX1_countOf 1 = .ok (.tableswitch 113 0 14 #[75, 75, 75, 113, 113, 113, 113, 113, 113, 85, 85, 85, 98, 103, 108], 75) := by decide +kernel
theorem dX1_countOf_76 : decode cX1_countOf 76 = .ok (.aload_n 0, 1) := by decide +kernel
theorem dX1_countOf_77 : decode cX1_countOf 77 = .ok (.getfield 11, 3) := by decide +kernel
theorem dX1_countOf_80 : decode cX1_countOf 80 = .ok (.iload_n 1, 1) := by decide +kernel
theorem dX1_countOf_81 : decode cX1_countOf 81 = .ok (.aaload, 1) := by decide +kernel
theorem dX1_countOf_82 : decode cX1_countOf 82 = .ok (.getfield 78, 3) := by decide +kernel
theorem dX1_countOf_85 : decode cX1_countOf 85 = .ok (.ireturn, 1) := by decide +kernel
theorem dX1_countOf_86 : decode cX1_countOf 86 = .ok (.aload_n 0, 1) := by decide +kernel
theorem dX1_countOf_87 : decode cX1_countOf 87 = .ok (.getfield 11, 3) := by decide +kernel
theorem dX1_countOf_90 : decode cX1_countOf 90 = .ok (.iload_n 1, 1) := by decide +kernel
theorem dX1_countOf_91 : decode cX1_countOf 91 = .ok (.bipush 9, 2) := by decide +kernel
theorem dX1_countOf_93 : decode cX1_countOf 93 = .ok (.isub, 1) := by decide +kernel
theorem dX1_countOf_94 : decode cX1_countOf 94 = .ok (.aaload, 1) := by decide +kernel
theorem dX1_countOf_95 : decode cX1_countOf 95 = .ok (.getfield 81, 3) := by decide +kernel
theorem dX1_countOf_98 : decode cX1_countOf 98 = .ok (.ireturn, 1) := by decide +kernel
theorem dX1_countOf_99 : decode cX1_countOf 99 = .ok (.aload_n 0, 1) := by decide +kernel
theorem dX1_countOf_100 : decode cX1_countOf 100 = .ok (.getfield 84, 3) := by decide +kernel
theorem dX1_countOf_103 : decode cX1_countOf 103 = .ok (.ireturn, 1) := by decide +kernel
theorem dX1_countOf_104 : decode cX1_countOf 104 = .ok (.aload_n 0, 1) := by decide +kernel
theorem dX1_countOf_105 : decode cX1_countOf 105 = .ok (.getfield 87, 3) := by decide +kernel
theorem dX1_countOf_108 : decode cX1_countOf 108 = .ok (.ireturn, 1) := by decide +kernel
theorem dX1_countOf_109 : decode cX1_countOf 109 = .ok (.aload_n 0, 1) := by decide +kernel
theorem dX1_countOf_110 : decode cX1_countOf 110 = .ok (.getfield 90, 3) := by decide +kernel
theorem dX1_countOf_113 : decode cX1_countOf 113 = .ok (.ireturn, 1) := by decide +kernel
theorem dX1_countOf_114 : decode cX1_countOf 114 = .ok (.aload_n 0, 1) := by decide +kernel
theorem dX1_countOf_115 : decode cX1_countOf 115 = .ok (.iload_n 1, 1) := by decide +kernel
theorem dX1_countOf_116 : decode cX1_countOf 116 = .ok (.iconst 3, 1) := by decide +kernel
theorem dX1_countOf_117 : decode cX1_countOf 117 = .ok (.isub, 1) := by decide +kernel
theorem dX1_countOf_118 : decode cX1_countOf 118 = .ok (.invokevirtual 93, 3) := by decide +kernel
theorem dX1_countOf_121 : decode cX1_countOf 121 = .ok (.astore_n 2, 1) := by decide +kernel
theorem dX1_countOf_122 : decode cX1_countOf 122 = .ok (.aload_n 2, 1) := by decide +kernel
theorem dX1_countOf_123 : decode cX1_countOf 123 = .ok (.ifnonnull 7, 3) := by decide +kernel
theorem dX1_countOf_126 : decode cX1_countOf 126 = .ok (.iconst 0, 1) := by decide +kernel
theorem dX1_countOf_127 : decode cX1_countOf 127 = .ok (.goto 7, 3) := by decide +kernel
theorem dX1_countOf_130 : decode cX1_countOf 130 = .ok (.aload_n 2, 1) := by decide +kernel
theorem dX1_countOf_131 : decode cX1_countOf 131 = .ok (.getfield 97, 3) := by decide +kernel
theorem dX1_countOf_134 : decode cX1_countOf 134 = .ok (.ireturn, 1) := by decide +kernel
theorem dX1_newObject_0 : decode cX1_newObject 0 = .ok (.iconst 2, 1) := by decide +kernel
theorem dX1_newObject_1 : decode cX1_newObject 1 = .ok (.iload_n 1, 1) := by decide +kernel
theorem dX1_newObject_2 : decode cX1_newObject 2 = .ok (.iadd, 1) := by decide +kernel
theorem dX1_newObject_3 : decode cX1_newObject 3 = .ok (.istore 4, 2) := by decide +kernel
theorem dX1_newObject_5 : decode cX1_newObject 5 = .ok (.aload_n 0, 1) := by decide +kernel
theorem dX1_newObject_6 : decode cX1_newObject 6 = .ok (.getfield 11, 3) := by decide +kernel
theorem dX1_newObject_9 : decode cX1_newObject 9 = .ok (.iconst 0, 1) := by decide +kernel
theorem dX1_newObject_10 : decode cX1_newObject 10 = .ok (.aaload, 1) := by decide +kernel
theorem dX1_newObject_11 : decode cX1_newObject 11 = .ok (.astore 5, 2) := by decide +kernel
theorem dX1_newObject_13 : decode cX1_newObject 13 = .ok (.iconst 0, 1) := by decide +kernel
theorem dX1_newObject_14 : decode cX1_newObject 14 = .ok (.istore 6, 2) := by decide +kernel
theorem dX1_newObject_16 : decode cX1_newObject 16 = .ok (.iload 6, 2) := by decide +kernel
theorem dX1_newObject_18 : decode cX1_newObject 18 = .ok (.iconst 3, 1) := by decide +kernel
theorem dX1_newObject_19 : decode cX1_newObject 19 = .ok (.if_icmp .ge 26, 3) := by decide +kernel
theorem dX1_newObject_22 : decode cX1_newObject 22 = .ok (.aload 5, 2) := by decide +kernel
theorem dX1_newObject_24 : decode cX1_newObject 24 = .ok (.iload 4, 2) := by decide +kernel
theorem dX1_newObject_26 : decode cX1_newObject 26 = .ok (.invokevirtual 100, 3) := by decide +kernel
theorem dX1_newObject_29 : decode cX1_newObject 29 = .ok (.ifCond .ne 16, 3) := by decide +kernel
theorem dX1_newObject_32 : decode cX1_newObject 32 = .ok (.aload_n 0, 1) := by decide +kernel
theorem dX1_newObject_33 : decode cX1_newObject 33 = .ok (.iload 6, 2) := by decide +kernel
theorem dX1_newObject_35 : decode cX1_newObject 35 = .ok (.invokevirtual 103, 3) := by decide +kernel
theorem dX1_newObject_38 : decode cX1_newObject 38 = .ok (.pop, 1) := by decide +kernel
theorem dX1_newObject_39 : decode cX1_newObject 39 = .ok (.iinc 6 1, 3) := by decide +kernel
theorem dX1_newObject_42 : decode cX1_newObject 42 = .ok (.goto (-26), 3) := by decide +kernel
theorem dX1_newObject_45 : decode cX1_newObject 45 = .ok (.aload 5, 2) := by decide +kernel
theorem dX1_newObject_47 : decode cX1_newObject 47 = .ok (.iload 4, 2) := by decide +kernel
theorem dX1_newObject_49 : decode cX1_newObject 49 = .ok (.invokevirtual 100, 3) := by decide +kernel
theorem dX1_newObject_52 : decode cX1_newObject 52 = .ok (.ifCond .ne 5, 3) := by decide +kernel
theorem dX1_newObject_55 : decode cX1_newObject 55 = .ok (.iconst 0, 1) := by decide +kernel
theorem dX1_newObject_56 : decode cX1_newObject 56 = .ok (.ireturn, 1) := by decide +kernel
theorem dX1_newObject_57 : decode cX1_newObject 57 = .ok (.aload 5, 2) := by decide +kernel
theorem dX1_newObject_59 : decode cX1_newObject 59 = .ok (.iload 4, 2) := by decide +kernel
theorem dX1_newObject_61 : decode cX1_newObject 61 = .ok (.invokevirtual 106, 3) := by decide +kernel
theorem dX1_newObject_64 : decode cX1_newObject 64 = .ok (.istore 6, 2) := by decide +kernel
theorem dX1_newObject_66 : decode cX1_newObject 66 = .ok (.aload_n 0, 1) := by decide +kernel
theorem dX1_newObject_67 : decode cX1_newObject 67 = .ok (.getfield 32, 3) := by decide +kernel
theorem dX1_newObject_70 : decode cX1_newObject 70 = .ok (.iload 6, 2) := by decide +kernel
theorem dX1_newObject_72 : decode cX1_newObject 72 = .ok (.iload_n 3, 1) := by decide +kernel
theorem dX1_newObject_73 : decode cX1_newObject 73 = .ok (.ifCond .eq 10, 3) := by decide +kernel
theorem dX1_newObject_76 : decode cX1_newObject 76 = .ok (.iload_n 1, 1) := by decide +kernel
theorem dX1_newObject_77 : decode cX1_newObject 77 = .ok (.bipush 64, 2) := by decide +kernel
theorem dX1_newObject_79 : decode cX1_newObject 79 = .ok (.iadd, 1) := by decide +kernel
theorem dX1_newObject_80 : decode cX1_newObject 80 = .ok (.goto 4, 3) := by decide +kernel
theorem dX1_newObject_83 : decode cX1_newObject 83 = .ok (.iload_n 1, 1) := by decide +kernel
theorem dX1_newObject_84 : decode cX1_newObject 84 = .ok (.iastore, 1) := by decide +kernel
theorem dX1_newObject_85 : decode cX1_newObject 85 = .ok (.aload_n 0, 1) := by decide +kernel
theorem dX1_newObject_86 : decode cX1_newObject 86 = .ok (.getfield 32, 3) := by decide +kernel
theorem dX1_newObject_89 : decode cX1_newObject 89 = .ok (.iload 6, 2) := by decide +kernel
theorem dX1_newObject_91 : decode cX1_newObject 91 = .ok (.iconst 1, 1) := by decide +kernel
theorem dX1_newObject_92 : decode cX1_newObject 92 = .ok (.iadd, 1) := by decide +kernel
theorem dX1_newObject_93 : decode cX1_newObject 93 = .ok (.iload_n 2, 1) := by decide +kernel
theorem dX1_newObject_94 : decode cX1_newObject 94 = .ok (.iastore, 1) := by decide +kernel
theorem dX1_newObject_95 : decode cX1_newObject 95 = .ok (.iconst 0, 1) := by decide +kernel
theorem dX1_newObject_96 : decode cX1_newObject 96 = .ok (.istore 7, 2) := by decide +kernel
theorem dX1_newObject_98 : decode cX1_newObject 98 = .ok (.iload 7, 2) := by decide +kernel
theorem dX1_newObject_100 : decode cX1_newObject 100 = .ok (.iload_n 1, 1) := by decide +kernel
theorem dX1_newObject_101 : decode cX1_newObject 101 = .ok (.if_icmp .ge 22, 3) := by decide +kernel
theorem dX1_newObject_104 : decode cX1_newObject 104 = .ok (.aload_n 0, 1) := by decide +kernel
theorem dX1_newObject_105 : decode cX1_newObject 105 = .ok (.getfield 32, 3) := by decide +kernel
theorem dX1_newObject_108 : decode cX1_newObject 108 = .ok (.iload 6, 2) := by decide +kernel
theorem dX1_newObject_110 : decode cX1_newObject 110 = .ok (.iconst 2, 1) := by decide +kernel
theorem dX1_newObject_111 : decode cX1_newObject 111 = .ok (.iadd, 1) := by decide +kernel
theorem dX1_newObject_112 : decode cX1_newObject 112 = .ok (.iload 7, 2) := by decide +kernel
theorem dX1_newObject_114 : decode cX1_newObject 114 = .ok (.iadd, 1) := by decide +kernel
theorem dX1_newObject_115 : decode cX1_newObject 115 = .ok (.iconst 0, 1) := by decide +kernel
theorem dX1_newObject_116 : decode cX1_newObject 116 = .ok (.iastore, 1) := by decide +kernel
theorem dX1_newObject_117 : decode cX1_newObject 117 = .ok (.iinc 7 1, 3) := by decide +kernel
theorem dX1_newObject_120 : decode cX1_newObject 120 = .ok (.goto (-22), 3) := by decide +kernel
theorem dX1_newObject_123 : decode cX1_newObject 123 = .ok (.iload_n 3, 1) := by decide +kernel
theorem dX1_newObject_124 : decode cX1_newObject 124 = .ok (.ifCond .eq 12, 3) := by decide +kernel
theorem dX1_newObject_127 : decode cX1_newObject 127 = .ok (.aload_n 0, 1) := by decide +kernel
theorem dX1_newObject_128 : decode cX1_newObject 128 = .ok (.getfield 39, 3) := by decide +kernel
theorem dX1_newObject_131 : decode cX1_newObject 131 = .ok (.iload 6, 2) := by decide +kernel
theorem dX1_newObject_133 : decode cX1_newObject 133 = .ok (.invokevirtual 109, 3) := by decide +kernel
theorem dX1_newObject_136 : decode cX1_newObject 136 = .ok (.iload 6, 2) := by decide +kernel
theorem dX1_newObject_138 : decode cX1_newObject 138 = .ok (.ireturn, 1) := by decide +kernel
theorem dX1_store_0 : decode cX1_store 0 = .ok (.iload_n 1, 1) := by decide +kernel
theorem dX1_store_1 : decode cX1_store 1 = .ok (.iconst 2, 1) := by decide +kernel
theorem dX1_store_2 : decode cX1_store 2 = .ok (.iadd, 1) := by decide +kernel
theorem dX1_store_3 : decode cX1_store 3 = .ok (.iload_n 2, 1) := by decide +kernel
theorem dX1_store_4 : decode cX1_store 4 = .ok (.iadd, 1) := by decide +kernel
theorem dX1_store_5 : decode cX1_store 5 = .ok (.istore 4, 2) := by decide +kernel
theorem dX1_store_7 : decode cX1_store 7 = .ok (.aload_n 0, 1) := by decide +kernel
theorem dX1_store_8 : decode cX1_store 8 = .ok (.getfield 32, 3) := by decide +kernel
theorem dX1_store_11 : decode cX1_store 11 = .ok (.iload 4, 2) := by decide +kernel
theorem dX1_store_13 : decode cX1_store 13 = .ok (.iload_n 3, 1) := by decide +kernel
theorem dX1_store_14 : decode cX1_store 14 = .ok (.iastore, 1) := by decide +kernel
theorem dX1_store_15 : decode cX1_store 15 = .ok (.iload_n 3, 1) := by decide +kernel
theorem dX1_store_16 : decode cX1_store 16 = .ok (.ifCond .ne 4, 3) := by decide +kernel
theorem dX1_store_19 : decode cX1_store 19 = .ok (.return_, 1) := by decide +kernel
theorem dX1_store_20 : decode cX1_store 20 = .ok (.aload_n 0, 1) := by decide +kernel
theorem dX1_store_21 : decode cX1_store 21 = .ok (.getfield 45, 3) := by decide +kernel
theorem dX1_store_24 : decode cX1_store 24 = .ok (.invokevirtual 113, 3) := by decide +kernel
theorem dX1_store_27 : decode cX1_store 27 = .ok (.ifCond .eq 17, 3) := by decide +kernel
theorem dX1_store_30 : decode cX1_store 30 = .ok (.aload_n 0, 1) := by decide +kernel
theorem dX1_store_31 : decode cX1_store 31 = .ok (.dup, 1) := by decide +kernel
theorem dX1_store_32 : decode cX1_store 32 = .ok (.getfield 84, 3) := by decide +kernel
theorem dX1_store_35 : decode cX1_store 35 = .ok (.iconst 1, 1) := by decide +kernel
theorem dX1_store_36 : decode cX1_store 36 = .ok (.iadd, 1) := by decide +kernel
theorem dX1_store_37 : decode cX1_store 37 = .ok (.putfield 84, 3) := by decide +kernel
theorem dX1_store_40 : decode cX1_store 40 = .ok (.aload_n 0, 1) := by decide +kernel
theorem dX1_store_41 : decode cX1_store 41 = .ok (.invokevirtual 117, 3) := by decide +kernel
theorem dX1_store_44 : decode cX1_store 44 = .ok (.aload_n 0, 1) := by decide +kernel
theorem dX1_store_45 : decode cX1_store 45 = .ok (.getfield 45, 3) := by decide +kernel
theorem dX1_store_48 : decode cX1_store 48 = .ok (.iload 4, 2) := by decide +kernel
theorem dX1_store_50 : decode cX1_store 50 = .ok (.invokevirtual 109, 3) := by decide +kernel
theorem dX1_store_53 : decode cX1_store 53 = .ok (.return_, 1) := by decide +kernel
theorem dX1_filter_0 : decode cX1_filter 0 = .ok (.iconst 0, 1) := by decide +kernel
theorem dX1_filter_1 : decode cX1_filter 1 = .ok (.istore_n 1, 1) := by decide +kernel
theorem dX1_filter_2 : decode cX1_filter 2 = .ok (.iload_n 1, 1) := by decide +kernel
theorem dX1_filter_3 : decode cX1_filter 3 = .ok (.aload_n 0, 1) := by decide +kernel
theorem dX1_filter_4 : decode cX1_filter 4 = .ok (.getfield 45, 3) := by decide +kernel
theorem dX1_filter_7 : decode cX1_filter 7 = .ok (.getfield 97, 3) := by decide +kernel
theorem dX1_filter_10 : decode cX1_filter 10 = .ok (.if_icmp .ge 22, 3) := by decide +kernel
theorem dX1_filter_13 : decode cX1_filter 13 = .ok (.aload_n 0, 1) := by decide +kernel
theorem dX1_filter_14 : decode cX1_filter 14 = .ok (.aload_n 0, 1) := by decide +kernel
theorem dX1_filter_15 : decode cX1_filter 15 = .ok (.getfield 45, 3) := by decide +kernel
theorem dX1_filter_18 : decode cX1_filter 18 = .ok (.getfield 63, 3) := by decide +kernel
theorem dX1_filter_21 : decode cX1_filter 21 = .ok (.iload_n 1, 1) := by decide +kernel
theorem dX1_filter_22 : decode cX1_filter 22 = .ok (.iaload, 1) := by decide +kernel
theorem dX1_filter_23 : decode cX1_filter 23 = .ok (.invokevirtual 120, 3) := by decide +kernel
theorem dX1_filter_26 : decode cX1_filter 26 = .ok (.iinc 1 1, 3) := by decide +kernel
theorem dX1_filter_29 : decode cX1_filter 29 = .ok (.goto (-27), 3) := by decide +kernel
theorem dX1_filter_32 : decode cX1_filter 32 = .ok (.aload_n 0, 1) := by decide +kernel
theorem dX1_filter_33 : decode cX1_filter 33 = .ok (.getfield 45, 3) := by decide +kernel
theorem dX1_filter_36 : decode cX1_filter 36 = .ok (.iconst 0, 1) := by decide +kernel
theorem dX1_filter_37 : decode cX1_filter 37 = .ok (.putfield 97, 3) := by decide +kernel
theorem dX1_filter_40 : decode cX1_filter 40 = .ok (.return_, 1) := by decide +kernel
theorem dX1_remember_0 : decode cX1_remember 0 = .ok (.aload_n 0, 1) := by decide +kernel
theorem dX1_remember_1 : decode cX1_remember 1 = .ok (.getfield 32, 3) := by decide +kernel
theorem dX1_remember_4 : decode cX1_remember 4 = .ok (.iload_n 1, 1) := by decide +kernel
theorem dX1_remember_5 : decode cX1_remember 5 = .ok (.iaload, 1) := by decide +kernel
theorem dX1_remember_6 : decode cX1_remember 6 = .ok (.istore_n 2, 1) := by decide +kernel
theorem dX1_remember_7 : decode cX1_remember 7 = .ok (.iload_n 2, 1) := by decide +kernel
theorem dX1_remember_8 : decode cX1_remember 8 = .ok (.ifCond .ne 4, 3) := by decide +kernel
theorem dX1_remember_11 : decode cX1_remember 11 = .ok (.return_, 1) := by decide +kernel
theorem dX1_remember_12 : decode cX1_remember 12 = .ok (.aload_n 0, 1) := by decide +kernel
theorem dX1_remember_13 : decode cX1_remember 13 = .ok (.iload_n 2, 1) := by decide +kernel
theorem dX1_remember_14 : decode cX1_remember 14 = .ok (.invokevirtual 70, 3) := by decide +kernel
theorem dX1_remember_17 : decode cX1_remember 17 = .ok (.getfield 123, 3) := by decide +kernel
theorem dX1_remember_20 : decode cX1_remember 20 = .ok (.istore_n 3, 1) := by decide +kernel
theorem dX1_remember_21 : decode cX1_remember 21 = .ok (.iload_n 3, 1) := by decide +kernel
theorem dX1_remember_22 : decode cX1_remember 22 = .ok (.aload_n 0, 1) := by decide +kernel
theorem dX1_remember_23 : decode cX1_remember 23 = .ok (.iload_n 1, 1) := by decide +kernel
theorem dX1_remember_24 : decode cX1_remember 24 = .ok (.invokevirtual 70, 3) := by decide +kernel
theorem dX1_remember_27 : decode cX1_remember 27 = .ok (.getfield 123, 3) := by decide +kernel
theorem dX1_remember_30 : decode cX1_remember 30 = .ok (.if_icmp .ge 26, 3) := by decide +kernel
theorem dX1_remember_33 : decode cX1_remember 33 = .ok (.aload_n 0, 1) := by decide +kernel
theorem dX1_remember_34 : decode cX1_remember 34 = .ok (.getfield 52, 3) := by decide +kernel
theorem dX1_remember_37 : decode cX1_remember 37 = .ok (.iload_n 3, 1) := by decide +kernel
theorem dX1_remember_38 : decode cX1_remember 38 = .ok (.aaload, 1) := by decide +kernel
theorem dX1_remember_39 : decode cX1_remember 39 = .ok (.iload_n 1, 1) := by decide +kernel
theorem dX1_remember_40 : decode cX1_remember 40 = .ok (.invokevirtual 126, 3) := by decide +kernel
theorem dX1_remember_43 : decode cX1_remember 43 = .ok (.ifCond .ne 13, 3) := by decide +kernel
theorem dX1_remember_46 : decode cX1_remember 46 = .ok (.aload_n 0, 1) := by decide +kernel
theorem dX1_remember_47 : decode cX1_remember 47 = .ok (.getfield 52, 3) := by decide +kernel
theorem dX1_remember_50 : decode cX1_remember 50 = .ok (.iload_n 3, 1) := by decide +kernel
theorem dX1_remember_51 : decode cX1_remember 51 = .ok (.aaload, 1) := by decide +kernel
theorem dX1_remember_52 : decode cX1_remember 52 = .ok (.iload_n 1, 1) := by decide +kernel
theorem dX1_remember_53 : decode cX1_remember 53 = .ok (.invokevirtual 109, 3) := by decide +kernel
theorem dX1_remember_56 : decode cX1_remember 56 = .ok (.return_, 1) := by decide +kernel
theorem dX1_gather_0 : decode cX1_gather 0 = .ok (.aload_n 0, 1) := by decide +kernel
theorem dX1_gather_1 : decode cX1_gather 1 = .ok (.getfield 87, 3) := by decide +kernel
theorem dX1_gather_4 : decode cX1_gather 4 = .ok (.istore_n 2, 1) := by decide +kernel
theorem dX1_gather_5 : decode cX1_gather 5 = .ok (.aload_n 0, 1) := by decide +kernel
theorem dX1_gather_6 : decode cX1_gather 6 = .ok (.invokevirtual 117, 3) := by decide +kernel
theorem dX1_gather_9 : decode cX1_gather 9 = .ok (.iconst 0, 1) := by decide +kernel
theorem dX1_gather_10 : decode cX1_gather 10 = .ok (.istore_n 3, 1) := by decide +kernel
theorem dX1_gather_11 : decode cX1_gather 11 = .ok (.iload_n 3, 1) := by decide +kernel
theorem dX1_gather_12 : decode cX1_gather 12 = .ok (.iconst 3, 1) := by decide +kernel
theorem dX1_gather_13 : decode cX1_gather 13 = .ok (.if_icmp .ge 28, 3) := by decide +kernel
theorem dX1_gather_16 : decode cX1_gather 16 = .ok (.aload_n 0, 1) := by decide +kernel
theorem dX1_gather_17 : decode cX1_gather 17 = .ok (.getfield 11, 3) := by decide +kernel
theorem dX1_gather_20 : decode cX1_gather 20 = .ok (.iload_n 3, 1) := by decide +kernel
theorem dX1_gather_21 : decode cX1_gather 21 = .ok (.aaload, 1) := by decide +kernel
theorem dX1_gather_22 : decode cX1_gather 22 = .ok (.iload_n 3, 1) := by decide +kernel
theorem dX1_gather_23 : decode cX1_gather 23 = .ok (.iload_n 1, 1) := by decide +kernel
theorem dX1_gather_24 : decode cX1_gather 24 = .ok (.if_icmp .gt 7, 3) := by decide +kernel
theorem dX1_gather_27 : decode cX1_gather 27 = .ok (.iconst 1, 1) := by decide +kernel
theorem dX1_gather_28 : decode cX1_gather 28 = .ok (.goto 4, 3) := by decide +kernel
theorem dX1_gather_31 : decode cX1_gather 31 = .ok (.iconst 0, 1) := by decide +kernel
theorem dX1_gather_32 : decode cX1_gather 32 = .ok (.invokevirtual 129, 3) := by decide +kernel
theorem dX1_gather_35 : decode cX1_gather 35 = .ok (.iinc 3 1, 3) := by decide +kernel
theorem dX1_gather_38 : decode cX1_gather 38 = .ok (.goto (-27), 3) := by decide +kernel
theorem dX1_gather_41 : decode cX1_gather 41 = .ok (.aload_n 0, 1) := by decide +kernel
theorem dX1_gather_42 : decode cX1_gather 42 = .ok (.invokevirtual 133, 3) := by decide +kernel
theorem dX1_gather_45 : decode cX1_gather 45 = .ok (.aload_n 0, 1) := by decide +kernel
theorem dX1_gather_46 : decode cX1_gather 46 = .ok (.aload_n 0, 1) := by decide +kernel
theorem dX1_gather_47 : decode cX1_gather 47 = .ok (.getfield 22, 3) := by decide +kernel
theorem dX1_gather_50 : decode cX1_gather 50 = .ok (.invokevirtual 136, 3) := by decide +kernel
theorem dX1_gather_53 : decode cX1_gather 53 = .ok (.aload_n 0, 1) := by decide +kernel
theorem dX1_gather_54 : decode cX1_gather 54 = .ok (.aload_n 0, 1) := by decide +kernel
theorem dX1_gather_55 : decode cX1_gather 55 = .ok (.getfield 26, 3) := by decide +kernel
theorem dX1_gather_58 : decode cX1_gather 58 = .ok (.invokevirtual 136, 3) := by decide +kernel
theorem dX1_gather_61 : decode cX1_gather 61 = .ok (.aload_n 0, 1) := by decide +kernel
theorem dX1_gather_62 : decode cX1_gather 62 = .ok (.aload_n 0, 1) := by decide +kernel
theorem dX1_gather_63 : decode cX1_gather 63 = .ok (.getfield 42, 3) := by decide +kernel
theorem dX1_gather_66 : decode cX1_gather 66 = .ok (.invokevirtual 136, 3) := by decide +kernel
theorem dX1_gather_69 : decode cX1_gather 69 = .ok (.aload_n 0, 1) := by decide +kernel
theorem dX1_gather_70 : decode cX1_gather 70 = .ok (.aload_n 0, 1) := by decide +kernel
theorem dX1_gather_71 : decode cX1_gather 71 = .ok (.getfield 56, 3) := by decide +kernel
theorem dX1_gather_74 : decode cX1_gather 74 = .ok (.iconst 0, 1) := by decide +kernel
theorem dX1_gather_75 : decode cX1_gather 75 = .ok (.aaload, 1) := by decide +kernel
theorem dX1_gather_76 : decode cX1_gather 76 = .ok (.iload_n 1, 1) := by decide +kernel
theorem dX1_gather_77 : decode cX1_gather 77 = .ok (.invokevirtual 140, 3) := by decide +kernel
theorem dX1_gather_80 : decode cX1_gather 80 = .ok (.aload_n 0, 1) := by decide +kernel
theorem dX1_gather_81 : decode cX1_gather 81 = .ok (.aload_n 0, 1) := by decide +kernel
theorem dX1_gather_82 : decode cX1_gather 82 = .ok (.getfield 56, 3) := by decide +kernel
theorem dX1_gather_85 : decode cX1_gather 85 = .ok (.iconst 1, 1) := by decide +kernel
theorem dX1_gather_86 : decode cX1_gather 86 = .ok (.aaload, 1) := by decide +kernel
theorem dX1_gather_87 : decode cX1_gather 87 = .ok (.iload_n 1, 1) := by decide +kernel
theorem dX1_gather_88 : decode cX1_gather 88 = .ok (.invokevirtual 140, 3) := by decide +kernel
theorem dX1_gather_91 : decode cX1_gather 91 = .ok (.aload_n 0, 1) := by decide +kernel
theorem dX1_gather_92 : decode cX1_gather 92 = .ok (.invokevirtual 144, 3) := by decide +kernel
theorem dX1_gather_95 : decode cX1_gather 95 = .ok (.aload_n 0, 1) := by decide +kernel
theorem dX1_gather_96 : decode cX1_gather 96 = .ok (.invokevirtual 147, 3) := by decide +kernel
theorem dX1_gather_99 : decode cX1_gather 99 = .ok (.aload_n 0, 1) := by decide +kernel
theorem dX1_gather_100 : decode cX1_gather 100 = .ok (.invokevirtual 144, 3) := by decide +kernel
theorem dX1_gather_103 : decode cX1_gather 103 = .ok (.aload_n 0, 1) := by decide +kernel
theorem dX1_gather_104 : decode cX1_gather 104 = .ok (.invokevirtual 150, 3) := by decide +kernel
theorem dX1_gather_107 : decode cX1_gather 107 = .ok (.iconst 0, 1) := by decide +kernel
theorem dX1_gather_108 : decode cX1_gather 108 = .ok (.istore_n 3, 1) := by decide +kernel
theorem dX1_gather_109 : decode cX1_gather 109 = .ok (.iload_n 3, 1) := by decide +kernel
theorem dX1_gather_110 : decode cX1_gather 110 = .ok (.iload_n 1, 1) := by decide +kernel
theorem dX1_gather_111 : decode cX1_gather 111 = .ok (.if_icmp .gt 18, 3) := by decide +kernel
theorem dX1_gather_114 : decode cX1_gather 114 = .ok (.aload_n 0, 1) := by decide +kernel
theorem dX1_gather_115 : decode cX1_gather 115 = .ok (.getfield 11, 3) := by decide +kernel
theorem dX1_gather_118 : decode cX1_gather 118 = .ok (.iload_n 3, 1) := by decide +kernel
theorem dX1_gather_119 : decode cX1_gather 119 = .ok (.aaload, 1) := by decide +kernel
theorem dX1_gather_120 : decode cX1_gather 120 = .ok (.invokevirtual 153, 3) := by decide +kernel
theorem dX1_gather_123 : decode cX1_gather 123 = .ok (.iinc 3 1, 3) := by decide +kernel
theorem dX1_gather_126 : decode cX1_gather 126 = .ok (.goto (-17), 3) := by decide +kernel
theorem dX1_gather_129 : decode cX1_gather 129 = .ok (.aload_n 0, 1) := by decide +kernel
theorem dX1_gather_130 : decode cX1_gather 130 = .ok (.getfield 11, 3) := by decide +kernel
theorem dX1_gather_133 : decode cX1_gather 133 = .ok (.iload_n 1, 1) := by decide +kernel
theorem dX1_gather_134 : decode cX1_gather 134 = .ok (.aaload, 1) := by decide +kernel
theorem dX1_gather_135 : decode cX1_gather 135 = .ok (.dup, 1) := by decide +kernel
theorem dX1_gather_136 : decode cX1_gather 136 = .ok (.getfield 81, 3) := by decide +kernel
theorem dX1_gather_139 : decode cX1_gather 139 = .ok (.iconst 1, 1) := by decide +kernel
theorem dX1_gather_140 : decode cX1_gather 140 = .ok (.iadd, 1) := by decide +kernel
theorem dX1_gather_141 : decode cX1_gather 141 = .ok (.putfield 81, 3) := by decide +kernel
theorem dX1_gather_144 : decode cX1_gather 144 = .ok (.aload_n 0, 1) := by decide +kernel
theorem dX1_gather_145 : decode cX1_gather 145 = .ok (.getfield 87, 3) := by decide +kernel
theorem dX1_gather_148 : decode cX1_gather 148 = .ok (.iload_n 2, 1) := by decide +kernel
theorem dX1_gather_149 : decode cX1_gather 149 = .ok (.isub, 1) := by decide +kernel
theorem dX1_gather_150 : decode cX1_gather 150 = .ok (.ireturn, 1) := by decide +kernel
theorem dX1_putRowsAside_0 : decode cX1_putRowsAside 0 = .ok (.aload_n 0, 1) := by decide +kernel
theorem dX1_putRowsAside_1 : decode cX1_putRowsAside 1 = .ok (.getfield 56, 3) := by decide +kernel
theorem dX1_putRowsAside_4 : decode cX1_putRowsAside 4 = .ok (.astore_n 1, 1) := by decide +kernel
theorem dX1_putRowsAside_5 : decode cX1_putRowsAside 5 = .ok (.aload_n 0, 1) := by decide +kernel
theorem dX1_putRowsAside_6 : decode cX1_putRowsAside 6 = .ok (.aload_n 0, 1) := by decide +kernel
theorem dX1_putRowsAside_7 : decode cX1_putRowsAside 7 = .ok (.getfield 52, 3) := by decide +kernel
theorem dX1_putRowsAside_10 : decode cX1_putRowsAside 10 = .ok (.putfield 56, 3) := by decide +kernel
theorem dX1_putRowsAside_13 : decode cX1_putRowsAside 13 = .ok (.aload_n 0, 1) := by decide +kernel
theorem dX1_putRowsAside_14 : decode cX1_putRowsAside 14 = .ok (.aload_n 1, 1) := by decide +kernel
theorem dX1_putRowsAside_15 : decode cX1_putRowsAside 15 = .ok (.putfield 52, 3) := by decide +kernel
theorem dX1_putRowsAside_18 : decode cX1_putRowsAside 18 = .ok (.aload_n 0, 1) := by decide +kernel
theorem dX1_putRowsAside_19 : decode cX1_putRowsAside 19 = .ok (.getfield 52, 3) := by decide +kernel
theorem dX1_putRowsAside_22 : decode cX1_putRowsAside 22 = .ok (.iconst 0, 1) := by decide +kernel
theorem dX1_putRowsAside_23 : decode cX1_putRowsAside 23 = .ok (.aaload, 1) := by decide +kernel
theorem dX1_putRowsAside_24 : decode cX1_putRowsAside 24 = .ok (.iconst 0, 1) := by decide +kernel
theorem dX1_putRowsAside_25 : decode cX1_putRowsAside 25 = .ok (.putfield 97, 3) := by decide +kernel
theorem dX1_putRowsAside_28 : decode cX1_putRowsAside 28 = .ok (.aload_n 0, 1) := by decide +kernel
theorem dX1_putRowsAside_29 : decode cX1_putRowsAside 29 = .ok (.getfield 52, 3) := by decide +kernel
theorem dX1_putRowsAside_32 : decode cX1_putRowsAside 32 = .ok (.iconst 1, 1) := by decide +kernel
theorem dX1_putRowsAside_33 : decode cX1_putRowsAside 33 = .ok (.aaload, 1) := by decide +kernel
theorem dX1_putRowsAside_34 : decode cX1_putRowsAside 34 = .ok (.iconst 0, 1) := by decide +kernel
theorem dX1_putRowsAside_35 : decode cX1_putRowsAside 35 = .ok (.putfield 97, 3) := by decide +kernel
theorem dX1_putRowsAside_38 : decode cX1_putRowsAside 38 = .ok (.return_, 1) := by decide +kernel
theorem dX1_bringAll_0 : decode cX1_bringAll 0 = .ok (.iconst 0, 1) := by decide +kernel
theorem dX1_bringAll_1 : decode cX1_bringAll 1 = .ok (.istore_n 2, 1) := by decide +kernel
theorem dX1_bringAll_2 : decode cX1_bringAll 2 = .ok (.iload_n 2, 1) := by decide +kernel
theorem dX1_bringAll_3 : decode cX1_bringAll 3 = .ok (.aload_n 1, 1) := by decide +kernel
theorem dX1_bringAll_4 : decode cX1_bringAll 4 = .ok (.getfield 97, 3) := by decide +kernel
theorem dX1_bringAll_7 : decode cX1_bringAll 7 = .ok (.if_icmp .ge 25, 3) := by decide +kernel
theorem dX1_bringAll_10 : decode cX1_bringAll 10 = .ok (.aload_n 1, 1) := by decide +kernel
theorem dX1_bringAll_11 : decode cX1_bringAll 11 = .ok (.getfield 63, 3) := by decide +kernel
theorem dX1_bringAll_14 : decode cX1_bringAll 14 = .ok (.iload_n 2, 1) := by decide +kernel
theorem dX1_bringAll_15 : decode cX1_bringAll 15 = .ok (.aload_n 0, 1) := by decide +kernel
theorem dX1_bringAll_16 : decode cX1_bringAll 16 = .ok (.aload_n 1, 1) := by decide +kernel
theorem dX1_bringAll_17 : decode cX1_bringAll 17 = .ok (.getfield 63, 3) := by decide +kernel
theorem dX1_bringAll_20 : decode cX1_bringAll 20 = .ok (.iload_n 2, 1) := by decide +kernel
theorem dX1_bringAll_21 : decode cX1_bringAll 21 = .ok (.iaload, 1) := by decide +kernel
theorem dX1_bringAll_22 : decode cX1_bringAll 22 = .ok (.invokevirtual 156, 3) := by decide +kernel
theorem dX1_bringAll_25 : decode cX1_bringAll 25 = .ok (.iastore, 1) := by decide +kernel
theorem dX1_bringAll_26 : decode cX1_bringAll 26 = .ok (.iinc 2 1, 3) := by decide +kernel
theorem dX1_bringAll_29 : decode cX1_bringAll 29 = .ok (.goto (-27), 3) := by decide +kernel
theorem dX1_bringAll_32 : decode cX1_bringAll 32 = .ok (.return_, 1) := by decide +kernel
theorem dX1_bringRemembered_0 : decode cX1_bringRemembered 0 = .ok (.iconst 0, 1) := by decide +kernel
theorem dX1_bringRemembered_1 : decode cX1_bringRemembered 1 = .ok (.istore_n 3, 1) := by decide +kernel
theorem dX1_bringRemembered_2 : decode cX1_bringRemembered 2 = .ok (.iload_n 3, 1) := by decide +kernel
theorem dX1_bringRemembered_3 : decode cX1_bringRemembered 3 = .ok (.aload_n 1, 1) := by decide +kernel
theorem dX1_bringRemembered_4 : decode cX1_bringRemembered 4 = .ok (.getfield 97, 3) := by decide +kernel
theorem dX1_bringRemembered_7 : decode cX1_bringRemembered 7 = .ok (.if_icmp .ge 54, 3) := by decide +kernel
theorem dX1_bringRemembered_10 : decode cX1_bringRemembered 10 = .ok (.aload_n 1, 1) := by decide +kernel
theorem dX1_bringRemembered_11 : decode cX1_bringRemembered 11 = .ok (.getfield 63, 3) := by decide +kernel
theorem dX1_bringRemembered_14 : decode cX1_bringRemembered 14 = .ok (.iload_n 3, 1) := by decide +kernel
theorem dX1_bringRemembered_15 : decode cX1_bringRemembered 15 = .ok (.iaload, 1) := by decide +kernel
theorem dX1_bringRemembered_16 : decode cX1_bringRemembered 16 = .ok (.istore 4, 2) := by decide +kernel
theorem dX1_bringRemembered_18 : decode cX1_bringRemembered 18 = .ok (.aload_n 0, 1) := by decide +kernel
theorem dX1_bringRemembered_19 : decode cX1_bringRemembered 19 = .ok (.iload 4, 2) := by decide +kernel
theorem dX1_bringRemembered_21 : decode cX1_bringRemembered 21 = .ok (.invokevirtual 70, 3) := by decide +kernel
theorem dX1_bringRemembered_24 : decode cX1_bringRemembered 24 = .ok (.getfield 123, 3) := by decide +kernel
theorem dX1_bringRemembered_27 : decode cX1_bringRemembered 27 = .ok (.iload_n 2, 1) := by decide +kernel
theorem dX1_bringRemembered_28 : decode cX1_bringRemembered 28 = .ok (.if_icmp .le 27, 3) := by decide +kernel
theorem dX1_bringRemembered_31 : decode cX1_bringRemembered 31 = .ok (.aload_n 0, 1) := by decide +kernel
theorem dX1_bringRemembered_32 : decode cX1_bringRemembered 32 = .ok (.getfield 32, 3) := by decide +kernel
theorem dX1_bringRemembered_35 : decode cX1_bringRemembered 35 = .ok (.iload 4, 2) := by decide +kernel
theorem dX1_bringRemembered_37 : decode cX1_bringRemembered 37 = .ok (.aload_n 0, 1) := by decide +kernel
theorem dX1_bringRemembered_38 : decode cX1_bringRemembered 38 = .ok (.aload_n 0, 1) := by decide +kernel
theorem dX1_bringRemembered_39 : decode cX1_bringRemembered 39 = .ok (.getfield 32, 3) := by decide +kernel
theorem dX1_bringRemembered_42 : decode cX1_bringRemembered 42 = .ok (.iload 4, 2) := by decide +kernel
theorem dX1_bringRemembered_44 : decode cX1_bringRemembered 44 = .ok (.iaload, 1) := by decide +kernel
theorem dX1_bringRemembered_45 : decode cX1_bringRemembered 45 = .ok (.invokevirtual 156, 3) := by decide +kernel
theorem dX1_bringRemembered_48 : decode cX1_bringRemembered 48 = .ok (.iastore, 1) := by decide +kernel
theorem dX1_bringRemembered_49 : decode cX1_bringRemembered 49 = .ok (.aload_n 0, 1) := by decide +kernel
theorem dX1_bringRemembered_50 : decode cX1_bringRemembered 50 = .ok (.iload 4, 2) := by decide +kernel
theorem dX1_bringRemembered_52 : decode cX1_bringRemembered 52 = .ok (.invokevirtual 120, 3) := by decide +kernel
theorem dX1_bringRemembered_55 : decode cX1_bringRemembered 55 = .ok (.iinc 3 1, 3) := by decide +kernel
theorem dX1_bringRemembered_58 : decode cX1_bringRemembered 58 = .ok (.goto (-56), 3) := by decide +kernel
theorem dX1_bringRemembered_61 : decode cX1_bringRemembered 61 = .ok (.return_, 1) := by decide +kernel
theorem dX1_brought_0 : decode cX1_brought 0 = .ok (.aload_n 0, 1) := by decide +kernel
theorem dX1_brought_1 : decode cX1_brought 1 = .ok (.iload_n 1, 1) := by decide +kernel
theorem dX1_brought_2 : decode cX1_brought 2 = .ok (.invokevirtual 70, 3) := by decide +kernel
theorem dX1_brought_5 : decode cX1_brought 5 = .ok (.astore_n 2, 1) := by decide +kernel
theorem dX1_brought_6 : decode cX1_brought 6 = .ok (.aload_n 2, 1) := by decide +kernel
theorem dX1_brought_7 : decode cX1_brought 7 = .ok (.iload_n 1, 1) := by decide +kernel
theorem dX1_brought_8 : decode cX1_brought 8 = .ok (.invokevirtual 159, 3) := by decide +kernel
theorem dX1_brought_11 : decode cX1_brought 11 = .ok (.ifCond .ne 5, 3) := by decide +kernel
theorem dX1_brought_14 : decode cX1_brought 14 = .ok (.iload_n 1, 1) := by decide +kernel
theorem dX1_brought_15 : decode cX1_brought 15 = .ok (.ireturn, 1) := by decide +kernel
theorem dX1_brought_16 : decode cX1_brought 16 = .ok (.aload_n 0, 1) := by decide +kernel
theorem dX1_brought_17 : decode cX1_brought 17 = .ok (.getfield 32, 3) := by decide +kernel
theorem dX1_brought_20 : decode cX1_brought 20 = .ok (.iload_n 1, 1) := by decide +kernel
theorem dX1_brought_21 : decode cX1_brought 21 = .ok (.iaload, 1) := by decide +kernel
theorem dX1_brought_22 : decode cX1_brought 22 = .ok (.ifCond .ge 11, 3) := by decide +kernel
theorem dX1_brought_25 : decode cX1_brought 25 = .ok (.aload_n 0, 1) := by decide +kernel
theorem dX1_brought_26 : decode cX1_brought 26 = .ok (.getfield 32, 3) := by decide +kernel
theorem dX1_brought_29 : decode cX1_brought 29 = .ok (.iload_n 1, 1) := by decide +kernel
theorem dX1_brought_30 : decode cX1_brought 30 = .ok (.iaload, 1) := by decide +kernel
theorem dX1_brought_31 : decode cX1_brought 31 = .ok (.ineg, 1) := by decide +kernel
theorem dX1_brought_32 : decode cX1_brought 32 = .ok (.ireturn, 1) := by decide +kernel
theorem dX1_brought_33 : decode cX1_brought 33 = .ok (.iconst 2, 1) := by decide +kernel
theorem dX1_brought_34 : decode cX1_brought 34 = .ok (.aload_n 0, 1) := by decide +kernel
theorem dX1_brought_35 : decode cX1_brought 35 = .ok (.iload_n 1, 1) := by decide +kernel
theorem dX1_brought_36 : decode cX1_brought 36 = .ok (.invokevirtual 59, 3) := by decide +kernel
theorem dX1_brought_39 : decode cX1_brought 39 = .ok (.iadd, 1) := by decide +kernel
theorem dX1_brought_40 : decode cX1_brought 40 = .ok (.istore_n 3, 1) := by decide +kernel
theorem dX1_brought_41 : decode cX1_brought 41 = .ok (.aload_n 0, 1) := by decide +kernel
theorem dX1_brought_42 : decode cX1_brought 42 = .ok (.iload_n 1, 1) := by decide +kernel
theorem dX1_brought_43 : decode cX1_brought 43 = .ok (.invokevirtual 162, 3) := by decide +kernel
theorem dX1_brought_46 : decode cX1_brought 46 = .ok (.iconst 1, 1) := by decide +kernel
theorem dX1_brought_47 : decode cX1_brought 47 = .ok (.iadd, 1) := by decide +kernel
theorem dX1_brought_48 : decode cX1_brought 48 = .ok (.bipush 7, 2) := by decide +kernel
theorem dX1_brought_50 : decode cX1_brought 50 = .ok (.invokestatic 165, 3) := by decide +kernel
theorem dX1_brought_53 : decode cX1_brought 53 = .ok (.istore 4, 2) := by decide +kernel
theorem dX1_brought_55 : decode cX1_brought 55 = .ok (.aload_n 2, 1) := by decide +kernel
theorem dX1_brought_56 : decode cX1_brought 56 = .ok (.dup, 1) := by decide +kernel
theorem dX1_brought_57 : decode cX1_brought 57 = .ok (.getfield 171, 3) := by decide +kernel
theorem dX1_brought_60 : decode cX1_brought 60 = .ok (.iload_n 3, 1) := by decide +kernel
theorem dX1_brought_61 : decode cX1_brought 61 = .ok (.isub, 1) := by decide +kernel
theorem dX1_brought_62 : decode cX1_brought 62 = .ok (.putfield 171, 3) := by decide +kernel
theorem dX1_brought_65 : decode cX1_brought 65 = .ok (.aload_n 2, 1) := by decide +kernel
theorem dX1_brought_66 : decode cX1_brought 66 = .ok (.getfield 123, 3) := by decide +kernel
theorem dX1_brought_69 : decode cX1_brought 69 = .ok (.iconst 2, 1) := by decide +kernel
theorem dX1_brought_70 : decode cX1_brought 70 = .ok (.if_icmp .ge 55, 3) := by decide +kernel
theorem dX1_brought_73 : decode cX1_brought 73 = .ok (.iload 4, 2) := by decide +kernel
theorem dX1_brought_75 : decode cX1_brought 75 = .ok (.aload_n 2, 1) := by decide +kernel
theorem dX1_brought_76 : decode cX1_brought 76 = .ok (.getfield 174, 3) := by decide +kernel
theorem dX1_brought_79 : decode cX1_brought 79 = .ok (.if_icmp .le 46, 3) := by decide +kernel
theorem dX1_brought_82 : decode cX1_brought 82 = .ok (.aload_n 0, 1) := by decide +kernel
theorem dX1_brought_83 : decode cX1_brought 83 = .ok (.getfield 11, 3) := by decide +kernel
theorem dX1_brought_86 : decode cX1_brought 86 = .ok (.aload_n 2, 1) := by decide +kernel
theorem dX1_brought_87 : decode cX1_brought 87 = .ok (.getfield 123, 3) := by decide +kernel
theorem dX1_brought_90 : decode cX1_brought 90 = .ok (.iconst 1, 1) := by decide +kernel
theorem dX1_brought_91 : decode cX1_brought 91 = .ok (.iadd, 1) := by decide +kernel
theorem dX1_brought_92 : decode cX1_brought 92 = .ok (.aaload, 1) := by decide +kernel
theorem dX1_brought_93 : decode cX1_brought 93 = .ok (.iload_n 3, 1) := by decide +kernel
theorem dX1_brought_94 : decode cX1_brought 94 = .ok (.invokevirtual 100, 3) := by decide +kernel
theorem dX1_brought_97 : decode cX1_brought 97 = .ok (.ifCond .eq 28, 3) := by decide +kernel
theorem dX1_brought_100 : decode cX1_brought 100 = .ok (.aload_n 0, 1) := by decide +kernel
theorem dX1_brought_101 : decode cX1_brought 101 = .ok (.getfield 11, 3) := by decide +kernel
theorem dX1_brought_104 : decode cX1_brought 104 = .ok (.aload_n 2, 1) := by decide +kernel
theorem dX1_brought_105 : decode cX1_brought 105 = .ok (.getfield 123, 3) := by decide +kernel
theorem dX1_brought_108 : decode cX1_brought 108 = .ok (.iconst 1, 1) := by decide +kernel
theorem dX1_brought_109 : decode cX1_brought 109 = .ok (.iadd, 1) := by decide +kernel
theorem dX1_brought_110 : decode cX1_brought 110 = .ok (.aaload, 1) := by decide +kernel
theorem dX1_brought_111 : decode cX1_brought 111 = .ok (.astore_n 2, 1) := by decide +kernel
theorem dX1_brought_112 : decode cX1_brought 112 = .ok (.iconst 0, 1) := by decide +kernel
theorem dX1_brought_113 : decode cX1_brought 113 = .ok (.istore 4, 2) := by decide +kernel
theorem dX1_brought_115 : decode cX1_brought 115 = .ok (.aload_n 0, 1) := by decide +kernel
theorem dX1_brought_116 : decode cX1_brought 116 = .ok (.dup, 1) := by decide +kernel
theorem dX1_brought_117 : decode cX1_brought 117 = .ok (.getfield 90, 3) := by decide +kernel
theorem dX1_brought_120 : decode cX1_brought 120 = .ok (.iconst 1, 1) := by decide +kernel
theorem dX1_brought_121 : decode cX1_brought 121 = .ok (.iadd, 1) := by decide +kernel
theorem dX1_brought_122 : decode cX1_brought 122 = .ok (.putfield 90, 3) := by decide +kernel
theorem dX1_brought_125 : decode cX1_brought 125 = .ok (.aload_n 2, 1) := by decide +kernel
theorem dX1_brought_126 : decode cX1_brought 126 = .ok (.iload_n 3, 1) := by decide +kernel
theorem dX1_brought_127 : decode cX1_brought 127 = .ok (.invokevirtual 106, 3) := by decide +kernel
theorem dX1_brought_130 : decode cX1_brought 130 = .ok (.istore 5, 2) := by decide +kernel
theorem dX1_brought_132 : decode cX1_brought 132 = .ok (.aload_n 0, 1) := by decide +kernel
theorem dX1_brought_133 : decode cX1_brought 133 = .ok (.getfield 32, 3) := by decide +kernel
theorem dX1_brought_136 : decode cX1_brought 136 = .ok (.iload_n 1, 1) := by decide +kernel
theorem dX1_brought_137 : decode cX1_brought 137 = .ok (.aload_n 0, 1) := by decide +kernel
theorem dX1_brought_138 : decode cX1_brought 138 = .ok (.getfield 32, 3) := by decide +kernel
theorem dX1_brought_141 : decode cX1_brought 141 = .ok (.iload 5, 2) := by decide +kernel
theorem dX1_brought_143 : decode cX1_brought 143 = .ok (.iload_n 3, 1) := by decide +kernel
theorem dX1_brought_144 : decode cX1_brought 144 = .ok (.invokestatic 177, 3) := by decide +kernel
theorem dX1_brought_147 : decode cX1_brought 147 = .ok (.aload_n 0, 1) := by decide +kernel
theorem dX1_brought_148 : decode cX1_brought 148 = .ok (.getfield 32, 3) := by decide +kernel
theorem dX1_brought_151 : decode cX1_brought 151 = .ok (.iload 5, 2) := by decide +kernel
theorem dX1_brought_153 : decode cX1_brought 153 = .ok (.aload_n 0, 1) := by decide +kernel
theorem dX1_brought_154 : decode cX1_brought 154 = .ok (.getfield 32, 3) := by decide +kernel
theorem dX1_brought_157 : decode cX1_brought 157 = .ok (.iload_n 1, 1) := by decide +kernel
theorem dX1_brought_158 : decode cX1_brought 158 = .ok (.iaload, 1) := by decide +kernel
theorem dX1_brought_159 : decode cX1_brought 159 = .ok (.bipush (-57), 2) := by decide +kernel
theorem dX1_brought_161 : decode cX1_brought 161 = .ok (.iand, 1) := by decide +kernel
theorem dX1_brought_162 : decode cX1_brought 162 = .ok (.iload 4, 2) := by decide +kernel
theorem dX1_brought_164 : decode cX1_brought 164 = .ok (.iconst 3, 1) := by decide +kernel
theorem dX1_brought_165 : decode cX1_brought 165 = .ok (.ishl, 1) := by decide +kernel
theorem dX1_brought_166 : decode cX1_brought 166 = .ok (.ior, 1) := by decide +kernel
theorem dX1_brought_167 : decode cX1_brought 167 = .ok (.iastore, 1) := by decide +kernel
theorem dX1_brought_168 : decode cX1_brought 168 = .ok (.aload_n 0, 1) := by decide +kernel
theorem dX1_brought_169 : decode cX1_brought 169 = .ok (.getfield 32, 3) := by decide +kernel
theorem dX1_brought_172 : decode cX1_brought 172 = .ok (.iload_n 1, 1) := by decide +kernel
theorem dX1_brought_173 : decode cX1_brought 173 = .ok (.iload 5, 2) := by decide +kernel
theorem dX1_brought_175 : decode cX1_brought 175 = .ok (.ineg, 1) := by decide +kernel
theorem dX1_brought_176 : decode cX1_brought 176 = .ok (.iastore, 1) := by decide +kernel
theorem dX1_brought_177 : decode cX1_brought 177 = .ok (.aload_n 0, 1) := by decide +kernel
theorem dX1_brought_178 : decode cX1_brought 178 = .ok (.dup, 1) := by decide +kernel
theorem dX1_brought_179 : decode cX1_brought 179 = .ok (.getfield 87, 3) := by decide +kernel
theorem dX1_brought_182 : decode cX1_brought 182 = .ok (.iload_n 3, 1) := by decide +kernel
theorem dX1_brought_183 : decode cX1_brought 183 = .ok (.iadd, 1) := by decide +kernel
theorem dX1_brought_184 : decode cX1_brought 184 = .ok (.putfield 87, 3) := by decide +kernel
theorem dX1_brought_187 : decode cX1_brought 187 = .ok (.iload 5, 2) := by decide +kernel
theorem dX1_brought_189 : decode cX1_brought 189 = .ok (.ireturn, 1) := by decide +kernel
theorem dX1_scan_0 : decode cX1_scan 0 = .ok (.iconst 0, 1) := by decide +kernel
theorem dX1_scan_1 : decode cX1_scan 1 = .ok (.istore_n 1, 1) := by decide +kernel
theorem dX1_scan_2 : decode cX1_scan 2 = .ok (.iload_n 1, 1) := by decide +kernel
theorem dX1_scan_3 : decode cX1_scan 3 = .ok (.aload_n 0, 1) := by decide +kernel
theorem dX1_scan_4 : decode cX1_scan 4 = .ok (.getfield 32, 3) := by decide +kernel
theorem dX1_scan_7 : decode cX1_scan 7 = .ok (.arraylength, 1) := by decide +kernel
theorem dX1_scan_8 : decode cX1_scan 8 = .ok (.if_icmp .ge 95, 3) := by decide +kernel
theorem dX1_scan_11 : decode cX1_scan 11 = .ok (.aload_n 0, 1) := by decide +kernel
theorem dX1_scan_12 : decode cX1_scan 12 = .ok (.invokevirtual 183, 3) := by decide +kernel
theorem dX1_scan_15 : decode cX1_scan 15 = .ok (.astore_n 2, 1) := by decide +kernel
theorem dX1_scan_16 : decode cX1_scan 16 = .ok (.aload_n 2, 1) := by decide +kernel
theorem dX1_scan_17 : decode cX1_scan 17 = .ok (.ifnonnull 4, 3) := by decide +kernel
theorem dX1_scan_20 : decode cX1_scan 20 = .ok (.return_, 1) := by decide +kernel
theorem dX1_scan_21 : decode cX1_scan 21 = .ok (.aload_n 2, 1) := by decide +kernel
theorem dX1_scan_22 : decode cX1_scan 22 = .ok (.getfield 187, 3) := by decide +kernel
theorem dX1_scan_25 : decode cX1_scan 25 = .ok (.aload_n 2, 1) := by decide +kernel
theorem dX1_scan_26 : decode cX1_scan 26 = .ok (.getfield 190, 3) := by decide +kernel
theorem dX1_scan_29 : decode cX1_scan 29 = .ok (.iadd, 1) := by decide +kernel
theorem dX1_scan_30 : decode cX1_scan 30 = .ok (.istore_n 3, 1) := by decide +kernel
theorem dX1_scan_31 : decode cX1_scan 31 = .ok (.iload_n 3, 1) := by decide +kernel
theorem dX1_scan_32 : decode cX1_scan 32 = .ok (.iconst 2, 1) := by decide +kernel
theorem dX1_scan_33 : decode cX1_scan 33 = .ok (.iadd, 1) := by decide +kernel
theorem dX1_scan_34 : decode cX1_scan 34 = .ok (.aload_n 0, 1) := by decide +kernel
theorem dX1_scan_35 : decode cX1_scan 35 = .ok (.iload_n 3, 1) := by decide +kernel
theorem dX1_scan_36 : decode cX1_scan 36 = .ok (.invokevirtual 59, 3) := by decide +kernel
theorem dX1_scan_39 : decode cX1_scan 39 = .ok (.iadd, 1) := by decide +kernel
theorem dX1_scan_40 : decode cX1_scan 40 = .ok (.istore 4, 2) := by decide +kernel
theorem dX1_scan_42 : decode cX1_scan 42 = .ok (.iload_n 3, 1) := by decide +kernel
theorem dX1_scan_43 : decode cX1_scan 43 = .ok (.iconst 2, 1) := by decide +kernel
theorem dX1_scan_44 : decode cX1_scan 44 = .ok (.iadd, 1) := by decide +kernel
theorem dX1_scan_45 : decode cX1_scan 45 = .ok (.istore 5, 2) := by decide +kernel
theorem dX1_scan_47 : decode cX1_scan 47 = .ok (.iload 5, 2) := by decide +kernel
theorem dX1_scan_49 : decode cX1_scan 49 = .ok (.iload 4, 2) := by decide +kernel
theorem dX1_scan_51 : decode cX1_scan 51 = .ok (.if_icmp .ge 33, 3) := by decide +kernel
theorem dX1_scan_54 : decode cX1_scan 54 = .ok (.aload_n 0, 1) := by decide +kernel
theorem dX1_scan_55 : decode cX1_scan 55 = .ok (.getfield 32, 3) := by decide +kernel
theorem dX1_scan_58 : decode cX1_scan 58 = .ok (.iload 5, 2) := by decide +kernel
theorem dX1_scan_60 : decode cX1_scan 60 = .ok (.aload_n 0, 1) := by decide +kernel
theorem dX1_scan_61 : decode cX1_scan 61 = .ok (.aload_n 0, 1) := by decide +kernel
theorem dX1_scan_62 : decode cX1_scan 62 = .ok (.getfield 32, 3) := by decide +kernel
theorem dX1_scan_65 : decode cX1_scan 65 = .ok (.iload 5, 2) := by decide +kernel
theorem dX1_scan_67 : decode cX1_scan 67 = .ok (.iaload, 1) := by decide +kernel
theorem dX1_scan_68 : decode cX1_scan 68 = .ok (.invokevirtual 156, 3) := by decide +kernel
theorem dX1_scan_71 : decode cX1_scan 71 = .ok (.iastore, 1) := by decide +kernel
theorem dX1_scan_72 : decode cX1_scan 72 = .ok (.aload_n 0, 1) := by decide +kernel
theorem dX1_scan_73 : decode cX1_scan 73 = .ok (.iload 5, 2) := by decide +kernel
theorem dX1_scan_75 : decode cX1_scan 75 = .ok (.invokevirtual 120, 3) := by decide +kernel
theorem dX1_scan_78 : decode cX1_scan 78 = .ok (.iinc 5 1, 3) := by decide +kernel
theorem dX1_scan_81 : decode cX1_scan 81 = .ok (.goto (-34), 3) := by decide +kernel
theorem dX1_scan_84 : decode cX1_scan 84 = .ok (.aload_n 2, 1) := by decide +kernel
theorem dX1_scan_85 : decode cX1_scan 85 = .ok (.dup, 1) := by decide +kernel
theorem dX1_scan_86 : decode cX1_scan 86 = .ok (.getfield 190, 3) := by decide +kernel
theorem dX1_scan_89 : decode cX1_scan 89 = .ok (.iload 4, 2) := by decide +kernel
theorem dX1_scan_91 : decode cX1_scan 91 = .ok (.iload_n 3, 1) := by decide +kernel
theorem dX1_scan_92 : decode cX1_scan 92 = .ok (.isub, 1) := by decide +kernel
theorem dX1_scan_93 : decode cX1_scan 93 = .ok (.iadd, 1) := by decide +kernel
theorem dX1_scan_94 : decode cX1_scan 94 = .ok (.putfield 190, 3) := by decide +kernel
theorem dX1_scan_97 : decode cX1_scan 97 = .ok (.iinc 1 1, 3) := by decide +kernel
theorem dX1_scan_100 : decode cX1_scan 100 = .ok (.goto (-98), 3) := by decide +kernel
theorem dX1_scan_103 : decode cX1_scan 103 = .ok (.return_, 1) := by decide +kernel
theorem dX1_leastUnscanned_0 : decode cX1_leastUnscanned 0 = .ok (.iconst 0, 1) := by decide +kernel
theorem dX1_leastUnscanned_1 : decode cX1_leastUnscanned 1 = .ok (.istore_n 1, 1) := by decide +kernel
theorem dX1_leastUnscanned_2 : decode cX1_leastUnscanned 2 = .ok (.iload_n 1, 1) := by decide +kernel
theorem dX1_leastUnscanned_3 : decode cX1_leastUnscanned 3 = .ok (.iconst 3, 1) := by decide +kernel
theorem dX1_leastUnscanned_4 : decode cX1_leastUnscanned 4 = .ok (.if_icmp .ge 37, 3) := by decide +kernel
theorem dX1_leastUnscanned_7 : decode cX1_leastUnscanned 7 = .ok (.aload_n 0, 1) := by decide +kernel
theorem dX1_leastUnscanned_8 : decode cX1_leastUnscanned 8 = .ok (.getfield 11, 3) := by decide +kernel
theorem dX1_leastUnscanned_11 : decode cX1_leastUnscanned 11 = .ok (.iload_n 1, 1) := by decide +kernel
theorem dX1_leastUnscanned_12 : decode cX1_leastUnscanned 12 = .ok (.aaload, 1) := by decide +kernel
theorem dX1_leastUnscanned_13 : decode cX1_leastUnscanned 13 = .ok (.getfield 190, 3) := by decide +kernel
theorem dX1_leastUnscanned_16 : decode cX1_leastUnscanned 16 = .ok (.aload_n 0, 1) := by decide +kernel
theorem dX1_leastUnscanned_17 : decode cX1_leastUnscanned 17 = .ok (.getfield 11, 3) := by decide +kernel
theorem dX1_leastUnscanned_20 : decode cX1_leastUnscanned 20 = .ok (.iload_n 1, 1) := by decide +kernel
theorem dX1_leastUnscanned_21 : decode cX1_leastUnscanned 21 = .ok (.aaload, 1) := by decide +kernel
theorem dX1_leastUnscanned_22 : decode cX1_leastUnscanned 22 = .ok (.getfield 78, 3) := by decide +kernel
theorem dX1_leastUnscanned_25 : decode cX1_leastUnscanned 25 = .ok (.if_icmp .ge 10, 3) := by decide +kernel
theorem dX1_leastUnscanned_28 : decode cX1_leastUnscanned 28 = .ok (.aload_n 0, 1) := by decide +kernel
theorem dX1_leastUnscanned_29 : decode cX1_leastUnscanned 29 = .ok (.getfield 11, 3) := by decide +kernel
theorem dX1_leastUnscanned_32 : decode cX1_leastUnscanned 32 = .ok (.iload_n 1, 1) := by decide +kernel
theorem dX1_leastUnscanned_33 : decode cX1_leastUnscanned 33 = .ok (.aaload, 1) := by decide +kernel
theorem dX1_leastUnscanned_34 : decode cX1_leastUnscanned 34 = .ok (.areturn, 1) := by decide +kernel
theorem dX1_leastUnscanned_35 : decode cX1_leastUnscanned 35 = .ok (.iinc 1 1, 3) := by decide +kernel
theorem dX1_leastUnscanned_38 : decode cX1_leastUnscanned 38 = .ok (.goto (-36), 3) := by decide +kernel
theorem dX1_leastUnscanned_41 : decode cX1_leastUnscanned 41 = .ok (.aconst_null, 1) := by decide +kernel
theorem dX1_leastUnscanned_42 : decode cX1_leastUnscanned 42 = .ok (.areturn, 1) := by decide +kernel
theorem dX1_grantWishes_0 : decode cX1_grantWishes 0 = .ok (.iconst 0, 1) := by decide +kernel
theorem dX1_grantWishes_1 : decode cX1_grantWishes 1 = .ok (.istore_n 1, 1) := by decide +kernel
theorem dX1_grantWishes_2 : decode cX1_grantWishes 2 = .ok (.iconst 0, 1) := by decide +kernel
theorem dX1_grantWishes_3 : decode cX1_grantWishes 3 = .ok (.istore_n 2, 1) := by decide +kernel
theorem dX1_grantWishes_4 : decode cX1_grantWishes 4 = .ok (.iload_n 2, 1) := by decide +kernel
theorem dX1_grantWishes_5 : decode cX1_grantWishes 5 = .ok (.aload_n 0, 1) := by decide +kernel
theorem dX1_grantWishes_6 : decode cX1_grantWishes 6 = .ok (.getfield 39, 3) := by decide +kernel
theorem dX1_grantWishes_9 : decode cX1_grantWishes 9 = .ok (.getfield 97, 3) := by decide +kernel
theorem dX1_grantWishes_12 : decode cX1_grantWishes 12 = .ok (.if_icmp .ge 97, 3) := by decide +kernel
theorem dX1_grantWishes_15 : decode cX1_grantWishes 15 = .ok (.aload_n 0, 1) := by decide +kernel
theorem dX1_grantWishes_16 : decode cX1_grantWishes 16 = .ok (.getfield 39, 3) := by decide +kernel
theorem dX1_grantWishes_19 : decode cX1_grantWishes 19 = .ok (.getfield 63, 3) := by decide +kernel
theorem dX1_grantWishes_22 : decode cX1_grantWishes 22 = .ok (.iload_n 2, 1) := by decide +kernel
theorem dX1_grantWishes_23 : decode cX1_grantWishes 23 = .ok (.iaload, 1) := by decide +kernel
theorem dX1_grantWishes_24 : decode cX1_grantWishes 24 = .ok (.istore_n 3, 1) := by decide +kernel
theorem dX1_grantWishes_25 : decode cX1_grantWishes 25 = .ok (.aload_n 0, 1) := by decide +kernel
theorem dX1_grantWishes_26 : decode cX1_grantWishes 26 = .ok (.iload_n 3, 1) := by decide +kernel
theorem dX1_grantWishes_27 : decode cX1_grantWishes 27 = .ok (.invokevirtual 70, 3) := by decide +kernel
theorem dX1_grantWishes_30 : decode cX1_grantWishes 30 = .ok (.iload_n 3, 1) := by decide +kernel
theorem dX1_grantWishes_31 : decode cX1_grantWishes 31 = .ok (.invokevirtual 159, 3) := by decide +kernel
theorem dX1_grantWishes_34 : decode cX1_grantWishes 34 = .ok (.ifCond .eq 16, 3) := by decide +kernel
theorem dX1_grantWishes_37 : decode cX1_grantWishes 37 = .ok (.aload_n 0, 1) := by decide +kernel
theorem dX1_grantWishes_38 : decode cX1_grantWishes 38 = .ok (.getfield 32, 3) := by decide +kernel
theorem dX1_grantWishes_41 : decode cX1_grantWishes 41 = .ok (.iload_n 3, 1) := by decide +kernel
theorem dX1_grantWishes_42 : decode cX1_grantWishes 42 = .ok (.iaload, 1) := by decide +kernel
theorem dX1_grantWishes_43 : decode cX1_grantWishes 43 = .ok (.ifCond .lt 7, 3) := by decide +kernel
theorem dX1_grantWishes_46 : decode cX1_grantWishes 46 = .ok (.iconst 1, 1) := by decide +kernel
theorem dX1_grantWishes_47 : decode cX1_grantWishes 47 = .ok (.goto 4, 3) := by decide +kernel
theorem dX1_grantWishes_50 : decode cX1_grantWishes 50 = .ok (.iconst 0, 1) := by decide +kernel
theorem dX1_grantWishes_51 : decode cX1_grantWishes 51 = .ok (.istore 4, 2) := by decide +kernel
theorem dX1_grantWishes_53 : decode cX1_grantWishes 53 = .ok (.aload_n 0, 1) := by decide +kernel
theorem dX1_grantWishes_54 : decode cX1_grantWishes 54 = .ok (.iload_n 3, 1) := by decide +kernel
theorem dX1_grantWishes_55 : decode cX1_grantWishes 55 = .ok (.invokevirtual 156, 3) := by decide +kernel
theorem dX1_grantWishes_58 : decode cX1_grantWishes 58 = .ok (.istore 5, 2) := by decide +kernel
theorem dX1_grantWishes_60 : decode cX1_grantWishes 60 = .ok (.iload 4, 2) := by decide +kernel
theorem dX1_grantWishes_62 : decode cX1_grantWishes 62 = .ok (.ifCond .eq 27, 3) := by decide +kernel
theorem dX1_grantWishes_65 : decode cX1_grantWishes 65 = .ok (.aload_n 0, 1) := by decide +kernel
theorem dX1_grantWishes_66 : decode cX1_grantWishes 66 = .ok (.getfield 32, 3) := by decide +kernel
theorem dX1_grantWishes_69 : decode cX1_grantWishes 69 = .ok (.iload 5, 2) := by decide +kernel
theorem dX1_grantWishes_71 : decode cX1_grantWishes 71 = .ok (.dup2, 1) := by decide +kernel
theorem dX1_grantWishes_72 : decode cX1_grantWishes 72 = .ok (.iaload, 1) := by decide +kernel
theorem dX1_grantWishes_73 : decode cX1_grantWishes 73 = .ok (.bipush (-65), 2) := by decide +kernel
theorem dX1_grantWishes_75 : decode cX1_grantWishes 75 = .ok (.iand, 1) := by decide +kernel
theorem dX1_grantWishes_76 : decode cX1_grantWishes 76 = .ok (.iastore, 1) := by decide +kernel
theorem dX1_grantWishes_77 : decode cX1_grantWishes 77 = .ok (.aload_n 0, 1) := by decide +kernel
theorem dX1_grantWishes_78 : decode cX1_grantWishes 78 = .ok (.getfield 42, 3) := by decide +kernel
theorem dX1_grantWishes_81 : decode cX1_grantWishes 81 = .ok (.iload 5, 2) := by decide +kernel
theorem dX1_grantWishes_83 : decode cX1_grantWishes 83 = .ok (.invokevirtual 109, 3) := by decide +kernel
theorem dX1_grantWishes_86 : decode cX1_grantWishes 86 = .ok (.goto 17, 3) := by decide +kernel
theorem dX1_grantWishes_89 : decode cX1_grantWishes 89 = .ok (.aload_n 0, 1) := by decide +kernel
theorem dX1_grantWishes_90 : decode cX1_grantWishes 90 = .ok (.getfield 39, 3) := by decide +kernel
theorem dX1_grantWishes_93 : decode cX1_grantWishes 93 = .ok (.getfield 63, 3) := by decide +kernel
theorem dX1_grantWishes_96 : decode cX1_grantWishes 96 = .ok (.iload_n 1, 1) := by decide +kernel
theorem dX1_grantWishes_97 : decode cX1_grantWishes 97 = .ok (.iload 5, 2) := by decide +kernel
theorem dX1_grantWishes_99 : decode cX1_grantWishes 99 = .ok (.iastore, 1) := by decide +kernel
theorem dX1_grantWishes_100 : decode cX1_grantWishes 100 = .ok (.iinc 1 1, 3) := by decide +kernel
theorem dX1_grantWishes_103 : decode cX1_grantWishes 103 = .ok (.iinc 2 1, 3) := by decide +kernel
theorem dX1_grantWishes_106 : decode cX1_grantWishes 106 = .ok (.goto (-102), 3) := by decide +kernel
theorem dX1_grantWishes_109 : decode cX1_grantWishes 109 = .ok (.aload_n 0, 1) := by decide +kernel
theorem dX1_grantWishes_110 : decode cX1_grantWishes 110 = .ok (.getfield 39, 3) := by decide +kernel
theorem dX1_grantWishes_113 : decode cX1_grantWishes 113 = .ok (.iload_n 1, 1) := by decide +kernel
theorem dX1_grantWishes_114 : decode cX1_grantWishes 114 = .ok (.putfield 97, 3) := by decide +kernel
theorem dX1_grantWishes_117 : decode cX1_grantWishes 117 = .ok (.return_, 1) := by decide +kernel
theorem dX1_clearWeakPlaces_0 : decode cX1_clearWeakPlaces 0 = .ok (.iconst 0, 1) := by decide +kernel
theorem dX1_clearWeakPlaces_1 : decode cX1_clearWeakPlaces 1 = .ok (.istore_n 1, 1) := by decide +kernel
theorem dX1_clearWeakPlaces_2 : decode cX1_clearWeakPlaces 2 = .ok (.iload_n 1, 1) := by decide +kernel
theorem dX1_clearWeakPlaces_3 : decode cX1_clearWeakPlaces 3 = .ok (.aload_n 0, 1) := by decide +kernel
theorem dX1_clearWeakPlaces_4 : decode cX1_clearWeakPlaces 4 = .ok (.getfield 29, 3) := by decide +kernel
theorem dX1_clearWeakPlaces_7 : decode cX1_clearWeakPlaces 7 = .ok (.getfield 97, 3) := by decide +kernel
theorem dX1_clearWeakPlaces_10 : decode cX1_clearWeakPlaces 10 = .ok (.if_icmp .ge 60, 3) := by decide +kernel
theorem dX1_clearWeakPlaces_13 : decode cX1_clearWeakPlaces 13 = .ok (.aload_n 0, 1) := by decide +kernel
theorem dX1_clearWeakPlaces_14 : decode cX1_clearWeakPlaces 14 = .ok (.getfield 29, 3) := by decide +kernel
theorem dX1_clearWeakPlaces_17 : decode cX1_clearWeakPlaces 17 = .ok (.getfield 63, 3) := by decide +kernel
theorem dX1_clearWeakPlaces_20 : decode cX1_clearWeakPlaces 20 = .ok (.iload_n 1, 1) := by decide +kernel
theorem dX1_clearWeakPlaces_21 : decode cX1_clearWeakPlaces 21 = .ok (.iaload, 1) := by decide +kernel
theorem dX1_clearWeakPlaces_22 : decode cX1_clearWeakPlaces 22 = .ok (.istore_n 2, 1) := by decide +kernel
theorem dX1_clearWeakPlaces_23 : decode cX1_clearWeakPlaces 23 = .ok (.aload_n 0, 1) := by decide +kernel
theorem dX1_clearWeakPlaces_24 : decode cX1_clearWeakPlaces 24 = .ok (.iload_n 2, 1) := by decide +kernel
theorem dX1_clearWeakPlaces_25 : decode cX1_clearWeakPlaces 25 = .ok (.invokevirtual 70, 3) := by decide +kernel
theorem dX1_clearWeakPlaces_28 : decode cX1_clearWeakPlaces 28 = .ok (.iload_n 2, 1) := by decide +kernel
theorem dX1_clearWeakPlaces_29 : decode cX1_clearWeakPlaces 29 = .ok (.invokevirtual 159, 3) := by decide +kernel
theorem dX1_clearWeakPlaces_32 : decode cX1_clearWeakPlaces 32 = .ok (.ifCond .eq 32, 3) := by decide +kernel
theorem dX1_clearWeakPlaces_35 : decode cX1_clearWeakPlaces 35 = .ok (.aload_n 0, 1) := by decide +kernel
theorem dX1_clearWeakPlaces_36 : decode cX1_clearWeakPlaces 36 = .ok (.getfield 29, 3) := by decide +kernel
theorem dX1_clearWeakPlaces_39 : decode cX1_clearWeakPlaces 39 = .ok (.getfield 63, 3) := by decide +kernel
theorem dX1_clearWeakPlaces_42 : decode cX1_clearWeakPlaces 42 = .ok (.iload_n 1, 1) := by decide +kernel
theorem dX1_clearWeakPlaces_43 : decode cX1_clearWeakPlaces 43 = .ok (.aload_n 0, 1) := by decide +kernel
theorem dX1_clearWeakPlaces_44 : decode cX1_clearWeakPlaces 44 = .ok (.getfield 32, 3) := by decide +kernel
theorem dX1_clearWeakPlaces_47 : decode cX1_clearWeakPlaces 47 = .ok (.iload_n 2, 1) := by decide +kernel
theorem dX1_clearWeakPlaces_48 : decode cX1_clearWeakPlaces 48 = .ok (.iaload, 1) := by decide +kernel
theorem dX1_clearWeakPlaces_49 : decode cX1_clearWeakPlaces 49 = .ok (.ifCond .ge 13, 3) := by decide +kernel
theorem dX1_clearWeakPlaces_52 : decode cX1_clearWeakPlaces 52 = .ok (.aload_n 0, 1) := by decide +kernel
theorem dX1_clearWeakPlaces_53 : decode cX1_clearWeakPlaces 53 = .ok (.getfield 32, 3) := by decide +kernel
theorem dX1_clearWeakPlaces_56 : decode cX1_clearWeakPlaces 56 = .ok (.iload_n 2, 1) := by decide +kernel
theorem dX1_clearWeakPlaces_57 : decode cX1_clearWeakPlaces 57 = .ok (.iaload, 1) := by decide +kernel
theorem dX1_clearWeakPlaces_58 : decode cX1_clearWeakPlaces 58 = .ok (.ineg, 1) := by decide +kernel
theorem dX1_clearWeakPlaces_59 : decode cX1_clearWeakPlaces 59 = .ok (.goto 4, 3) := by decide +kernel
theorem dX1_clearWeakPlaces_62 : decode cX1_clearWeakPlaces 62 = .ok (.iconst 0, 1) := by decide +kernel
theorem dX1_clearWeakPlaces_63 : decode cX1_clearWeakPlaces 63 = .ok (.iastore, 1) := by decide +kernel
theorem dX1_clearWeakPlaces_64 : decode cX1_clearWeakPlaces 64 = .ok (.iinc 1 1, 3) := by decide +kernel
theorem dX1_clearWeakPlaces_67 : decode cX1_clearWeakPlaces 67 = .ok (.goto (-65), 3) := by decide +kernel
theorem dX1_clearWeakPlaces_70 : decode cX1_clearWeakPlaces 70 = .ok (.return_, 1) := by decide +kernel
theorem dX2_init_0 : decode cX2_init 0 = .ok (.aload_n 0, 1) := by decide +kernel
theorem dX2_init_1 : decode cX2_init 1 = .ok (.invokespecial 3, 3) := by decide +kernel
theorem dX2_init_4 : decode cX2_init 4 = .ok (.aload_n 0, 1) := by decide +kernel
theorem dX2_init_5 : decode cX2_init 5 = .ok (.sipush 256, 3) := by decide +kernel
theorem dX2_init_8 : decode cX2_init 8 = .ok (.newarray .int, 2) := by decide +kernel
theorem dX2_init_10 : decode cX2_init 10 = .ok (.putfield 11, 3) := by decide +kernel
theorem dX2_init_13 : decode cX2_init 13 = .ok (.aload_n 0, 1) := by decide +kernel
theorem dX2_init_14 : decode cX2_init 14 = .ok (.bipush 8, 2) := by decide +kernel
theorem dX2_init_16 : decode cX2_init 16 = .ok (.newarray .int, 2) := by decide +kernel
theorem dX2_init_18 : decode cX2_init 18 = .ok (.putfield 15, 3) := by decide +kernel
theorem dX2_init_21 : decode cX2_init 21 = .ok (.aload_n 0, 1) := by decide +kernel
theorem dX2_init_22 : decode cX2_init 22 = .ok (.aload_n 1, 1) := by decide +kernel
theorem dX2_init_23 : decode cX2_init 23 = .ok (.putfield 18, 3) := by decide +kernel
theorem dX2_init_26 : decode cX2_init 26 = .ok (.return_, 1) := by decide +kernel
theorem dX2_append_0 : decode cX2_append 0 = .ok (.aload_n 0, 1) := by decide +kernel
theorem dX2_append_1 : decode cX2_append 1 = .ok (.getfield 22, 3) := by decide +kernel
theorem dX2_append_4 : decode cX2_append 4 = .ok (.bipush 64, 2) := by decide +kernel
theorem dX2_append_6 : decode cX2_append 6 = .ok (.if_icmp .ge 60, 3) := by decide +kernel
theorem dX2_append_9 : decode cX2_append 9 = .ok (.iconst 4, 1) := by decide +kernel
theorem dX2_append_10 : decode cX2_append 10 = .ok (.aload_n 0, 1) := by decide +kernel
theorem dX2_append_11 : decode cX2_append 11 = .ok (.getfield 22, 3) := by decide +kernel
theorem dX2_append_14 : decode cX2_append 14 = .ok (.imul, 1) := by decide +kernel
theorem dX2_append_15 : decode cX2_append 15 = .ok (.istore 5, 2) := by decide +kernel
theorem dX2_append_17 : decode cX2_append 17 = .ok (.aload_n 0, 1) := by decide +kernel
theorem dX2_append_18 : decode cX2_append 18 = .ok (.getfield 11, 3) := by decide +kernel
theorem dX2_append_21 : decode cX2_append 21 = .ok (.iload 5, 2) := by decide +kernel
theorem dX2_append_23 : decode cX2_append 23 = .ok (.iload_n 1, 1) := by decide +kernel
theorem dX2_append_24 : decode cX2_append 24 = .ok (.iastore, 1) := by decide +kernel
theorem dX2_append_25 : decode cX2_append 25 = .ok (.aload_n 0, 1) := by decide +kernel
theorem dX2_append_26 : decode cX2_append 26 = .ok (.getfield 11, 3) := by decide +kernel
theorem dX2_append_29 : decode cX2_append 29 = .ok (.iload 5, 2) := by decide +kernel
theorem dX2_append_31 : decode cX2_append 31 = .ok (.iconst 1, 1) := by decide +kernel
theorem dX2_append_32 : decode cX2_append 32 = .ok (.iadd, 1) := by decide +kernel
theorem dX2_append_33 : decode cX2_append 33 = .ok (.iload_n 2, 1) := by decide +kernel
theorem dX2_append_34 : decode cX2_append 34 = .ok (.iastore, 1) := by decide +kernel
theorem dX2_append_35 : decode cX2_append 35 = .ok (.aload_n 0, 1) := by decide +kernel
theorem dX2_append_36 : decode cX2_append 36 = .ok (.getfield 11, 3) := by decide +kernel
theorem dX2_append_39 : decode cX2_append 39 = .ok (.iload 5, 2) := by decide +kernel
theorem dX2_append_41 : decode cX2_append 41 = .ok (.iconst 2, 1) := by decide +kernel
theorem dX2_append_42 : decode cX2_append 42 = .ok (.iadd, 1) := by decide +kernel
theorem dX2_append_43 : decode cX2_append 43 = .ok (.iload_n 3, 1) := by decide +kernel
theorem dX2_append_44 : decode cX2_append 44 = .ok (.iastore, 1) := by decide +kernel
theorem dX2_append_45 : decode cX2_append 45 = .ok (.aload_n 0, 1) := by decide +kernel
theorem dX2_append_46 : decode cX2_append 46 = .ok (.getfield 11, 3) := by decide +kernel
theorem dX2_append_49 : decode cX2_append 49 = .ok (.iload 5, 2) := by decide +kernel
theorem dX2_append_51 : decode cX2_append 51 = .ok (.iconst 3, 1) := by decide +kernel
theorem dX2_append_52 : decode cX2_append 52 = .ok (.iadd, 1) := by decide +kernel
theorem dX2_append_53 : decode cX2_append 53 = .ok (.iload 4, 2) := by decide +kernel
theorem dX2_append_55 : decode cX2_append 55 = .ok (.iastore, 1) := by decide +kernel
theorem dX2_append_56 : decode cX2_append 56 = .ok (.aload_n 0, 1) := by decide +kernel
theorem dX2_append_57 : decode cX2_append 57 = .ok (.dup, 1) := by decide +kernel
theorem dX2_append_58 : decode cX2_append 58 = .ok (.getfield 22, 3) := by decide +kernel
theorem dX2_append_61 : decode cX2_append 61 = .ok (.iconst 1, 1) := by decide +kernel
theorem dX2_append_62 : decode cX2_append 62 = .ok (.iadd, 1) := by decide +kernel
theorem dX2_append_63 : decode cX2_append 63 = .ok (.putfield 22, 3) := by decide +kernel
theorem dX2_append_66 : decode cX2_append 66 = .ok (.return_, 1) := by decide +kernel
theorem dX2_endBefore_0 : decode cX2_endBefore 0 = .ok (.aload_n 0, 1) := by decide +kernel
theorem dX2_endBefore_1 : decode cX2_endBefore 1 = .ok (.getfield 26, 3) := by decide +kernel
theorem dX2_endBefore_4 : decode cX2_endBefore 4 = .ok (.aload_n 0, 1) := by decide +kernel
theorem dX2_endBefore_5 : decode cX2_endBefore 5 = .ok (.getfield 22, 3) := by decide +kernel
theorem dX2_endBefore_8 : decode cX2_endBefore 8 = .ok (.if_icmp .lt 5, 3) := by decide +kernel
theorem dX2_endBefore_11 : decode cX2_endBefore 11 = .ok (.iconst 0, 1) := by decide +kernel
theorem dX2_endBefore_12 : decode cX2_endBefore 12 = .ok (.ireturn, 1) := by decide +kernel
theorem dX2_endBefore_13 : decode cX2_endBefore 13 = .ok (.iload_n 1, 1) := by decide +kernel
theorem dX2_endBefore_14 : decode cX2_endBefore 14 = .ok (.ifCond .eq 6, 3) := by decide +kernel
theorem dX2_endBefore_17 : decode cX2_endBefore 17 = .ok (.bipush 6, 2) := by decide +kernel
theorem dX2_endBefore_19 : decode cX2_endBefore 19 = .ok (.ireturn, 1) := by decide +kernel
theorem dX2_endBefore_20 : decode cX2_endBefore 20 = .ok (.aload_n 0, 1) := by decide +kernel
theorem dX2_endBefore_21 : decode cX2_endBefore 21 = .ok (.invokevirtual 29, 3) := by decide +kernel
theorem dX2_endBefore_24 : decode cX2_endBefore 24 = .ok (.ifCond .eq 5, 3) := by decide +kernel
theorem dX2_endBefore_27 : decode cX2_endBefore 27 = .ok (.iconst 1, 1) := by decide +kernel
theorem dX2_endBefore_28 : decode cX2_endBefore 28 = .ok (.ireturn, 1) := by decide +kernel
theorem dX2_endBefore_29 : decode cX2_endBefore 29 = .ok (.aload_n 0, 1) := by decide +kernel
theorem dX2_endBefore_30 : decode cX2_endBefore 30 = .ok (.getfield 11, 3) := by decide +kernel
theorem dX2_endBefore_33 : decode cX2_endBefore 33 = .ok (.iconst 4, 1) := by decide +kernel
theorem dX2_endBefore_34 : decode cX2_endBefore 34 = .ok (.aload_n 0, 1) := by decide +kernel
theorem dX2_endBefore_35 : decode cX2_endBefore 35 = .ok (.getfield 26, 3) := by decide +kernel
theorem dX2_endBefore_38 : decode cX2_endBefore 38 = .ok (.imul, 1) := by decide +kernel
theorem dX2_endBefore_39 : decode cX2_endBefore 39 = .ok (.iaload, 1) := by decide +kernel
theorem dX2_endBefore_40 : decode cX2_endBefore 40 = .ok (.tableswitch 181 2 9 #[48, 79, 181, 143, 162, 181, 181, 110], 48) := by decide +kernel
theorem dX2_endBefore_88 : decode cX2_endBefore 88 = .ok (.aload_n 0, 1) := by decide +kernel
theorem dX2_endBefore_89 : decode cX2_endBefore 89 = .ok (.aload_n 0, 1) := by decide +kernel
theorem dX2_endBefore_90 : decode cX2_endBefore 90 = .ok (.getfield 11, 3) := by decide +kernel
theorem dX2_endBefore_93 : decode cX2_endBefore 93 = .ok (.iconst 4, 1) := by decide +kernel
theorem dX2_endBefore_94 : decode cX2_endBefore 94 = .ok (.aload_n 0, 1) := by decide +kernel
theorem dX2_endBefore_95 : decode cX2_endBefore 95 = .ok (.getfield 26, 3) := by decide +kernel
theorem dX2_endBefore_98 : decode cX2_endBefore 98 = .ok (.imul, 1) := by decide +kernel
theorem dX2_endBefore_99 : decode cX2_endBefore 99 = .ok (.iconst 1, 1) := by decide +kernel
theorem dX2_endBefore_100 : decode cX2_endBefore 100 = .ok (.iadd, 1) := by decide +kernel
theorem dX2_endBefore_101 : decode cX2_endBefore 101 = .ok (.iaload, 1) := by decide +kernel
theorem dX2_endBefore_102 : decode cX2_endBefore 102 = .ok (.aload_n 0, 1) := by decide +kernel
theorem dX2_endBefore_103 : decode cX2_endBefore 103 = .ok (.getfield 11, 3) := by decide +kernel
theorem dX2_endBefore_106 : decode cX2_endBefore 106 = .ok (.iconst 4, 1) := by decide +kernel
theorem dX2_endBefore_107 : decode cX2_endBefore 107 = .ok (.aload_n 0, 1) := by decide +kernel
theorem dX2_endBefore_108 : decode cX2_endBefore 108 = .ok (.getfield 26, 3) := by decide +kernel
theorem dX2_endBefore_111 : decode cX2_endBefore 111 = .ok (.imul, 1) := by decide +kernel
theorem dX2_endBefore_112 : decode cX2_endBefore 112 = .ok (.iconst 2, 1) := by decide +kernel
theorem dX2_endBefore_113 : decode cX2_endBefore 113 = .ok (.iadd, 1) := by decide +kernel
theorem dX2_endBefore_114 : decode cX2_endBefore 114 = .ok (.iaload, 1) := by decide +kernel
theorem dX2_endBefore_115 : decode cX2_endBefore 115 = .ok (.invokevirtual 33, 3) := by decide +kernel
theorem dX2_endBefore_118 : decode cX2_endBefore 118 = .ok (.ireturn, 1) := by decide +kernel
theorem dX2_endBefore_119 : decode cX2_endBefore 119 = .ok (.aload_n 0, 1) := by decide +kernel
theorem dX2_endBefore_120 : decode cX2_endBefore 120 = .ok (.aload_n 0, 1) := by decide +kernel
theorem dX2_endBefore_121 : decode cX2_endBefore 121 = .ok (.getfield 11, 3) := by decide +kernel
theorem dX2_endBefore_124 : decode cX2_endBefore 124 = .ok (.iconst 4, 1) := by decide +kernel
theorem dX2_endBefore_125 : decode cX2_endBefore 125 = .ok (.aload_n 0, 1) := by decide +kernel
theorem dX2_endBefore_126 : decode cX2_endBefore 126 = .ok (.getfield 26, 3) := by decide +kernel
theorem dX2_endBefore_129 : decode cX2_endBefore 129 = .ok (.imul, 1) := by decide +kernel
theorem dX2_endBefore_130 : decode cX2_endBefore 130 = .ok (.iconst 2, 1) := by decide +kernel
theorem dX2_endBefore_131 : decode cX2_endBefore 131 = .ok (.iadd, 1) := by decide +kernel
theorem dX2_endBefore_132 : decode cX2_endBefore 132 = .ok (.iaload, 1) := by decide +kernel
theorem dX2_endBefore_133 : decode cX2_endBefore 133 = .ok (.aload_n 0, 1) := by decide +kernel
theorem dX2_endBefore_134 : decode cX2_endBefore 134 = .ok (.getfield 11, 3) := by decide +kernel
theorem dX2_endBefore_137 : decode cX2_endBefore 137 = .ok (.iconst 4, 1) := by decide +kernel
theorem dX2_endBefore_138 : decode cX2_endBefore 138 = .ok (.aload_n 0, 1) := by decide +kernel
theorem dX2_endBefore_139 : decode cX2_endBefore 139 = .ok (.getfield 26, 3) := by decide +kernel
theorem dX2_endBefore_142 : decode cX2_endBefore 142 = .ok (.imul, 1) := by decide +kernel
theorem dX2_endBefore_143 : decode cX2_endBefore 143 = .ok (.iconst 3, 1) := by decide +kernel
theorem dX2_endBefore_144 : decode cX2_endBefore 144 = .ok (.iadd, 1) := by decide +kernel
theorem dX2_endBefore_145 : decode cX2_endBefore 145 = .ok (.iaload, 1) := by decide +kernel
theorem dX2_endBefore_146 : decode cX2_endBefore 146 = .ok (.invokevirtual 33, 3) := by decide +kernel
theorem dX2_endBefore_149 : decode cX2_endBefore 149 = .ok (.ireturn, 1) := by decide +kernel
theorem dX2_endBefore_150 : decode cX2_endBefore 150 = .ok (.aload_n 0, 1) := by decide +kernel
theorem dX2_endBefore_151 : decode cX2_endBefore 151 = .ok (.getfield 18, 3) := by decide +kernel
theorem dX2_endBefore_154 : decode cX2_endBefore 154 = .ok (.getfield 37, 3) := by decide +kernel
theorem dX2_endBefore_157 : decode cX2_endBefore 157 = .ok (.getfield 43, 3) := by decide +kernel
theorem dX2_endBefore_160 : decode cX2_endBefore 160 = .ok (.aload_n 0, 1) := by decide +kernel
theorem dX2_endBefore_161 : decode cX2_endBefore 161 = .ok (.getfield 11, 3) := by decide +kernel
theorem dX2_endBefore_164 : decode cX2_endBefore 164 = .ok (.iconst 4, 1) := by decide +kernel
theorem dX2_endBefore_165 : decode cX2_endBefore 165 = .ok (.aload_n 0, 1) := by decide +kernel
theorem dX2_endBefore_166 : decode cX2_endBefore 166 = .ok (.getfield 26, 3) := by decide +kernel
theorem dX2_endBefore_169 : decode cX2_endBefore 169 = .ok (.imul, 1) := by decide +kernel
theorem dX2_endBefore_170 : decode cX2_endBefore 170 = .ok (.iconst 2, 1) := by decide +kernel
theorem dX2_endBefore_171 : decode cX2_endBefore 171 = .ok (.iadd, 1) := by decide +kernel
theorem dX2_endBefore_172 : decode cX2_endBefore 172 = .ok (.iaload, 1) := by decide +kernel
theorem dX2_endBefore_173 : decode cX2_endBefore 173 = .ok (.iaload, 1) := by decide +kernel
theorem dX2_endBefore_174 : decode cX2_endBefore 174 = .ok (.ifCond .ne 7, 3) := by decide +kernel
theorem dX2_endBefore_177 : decode cX2_endBefore 177 = .ok (.iconst 2, 1) := by decide +kernel
theorem dX2_endBefore_178 : decode cX2_endBefore 178 = .ok (.goto 4, 3) := by decide +kernel
theorem dX2_endBefore_181 : decode cX2_endBefore 181 = .ok (.iconst (-1), 1) := by decide +kernel
theorem dX2_endBefore_182 : decode cX2_endBefore 182 = .ok (.ireturn, 1) := by decide +kernel
theorem dX2_endBefore_183 : decode cX2_endBefore 183 = .ok (.aload_n 0, 1) := by decide +kernel
theorem dX2_endBefore_184 : decode cX2_endBefore 184 = .ok (.getfield 18, 3) := by decide +kernel
theorem dX2_endBefore_187 : decode cX2_endBefore 187 = .ok (.getfield 48, 3) := by decide +kernel
theorem dX2_endBefore_190 : decode cX2_endBefore 190 = .ok (.invokevirtual 51, 3) := by decide +kernel
theorem dX2_endBefore_193 : decode cX2_endBefore 193 = .ok (.ifCond .eq 7, 3) := by decide +kernel
theorem dX2_endBefore_196 : decode cX2_endBefore 196 = .ok (.iconst 4, 1) := by decide +kernel
theorem dX2_endBefore_197 : decode cX2_endBefore 197 = .ok (.goto 4, 3) := by decide +kernel
theorem dX2_endBefore_200 : decode cX2_endBefore 200 = .ok (.iconst (-1), 1) := by decide +kernel
theorem dX2_endBefore_201 : decode cX2_endBefore 201 = .ok (.ireturn, 1) := by decide +kernel
theorem dX2_endBefore_202 : decode cX2_endBefore 202 = .ok (.aload_n 0, 1) := by decide +kernel
theorem dX2_endBefore_203 : decode cX2_endBefore 203 = .ok (.getfield 18, 3) := by decide +kernel
theorem dX2_endBefore_206 : decode cX2_endBefore 206 = .ok (.getfield 48, 3) := by decide +kernel
theorem dX2_endBefore_209 : decode cX2_endBefore 209 = .ok (.getfield 54, 3) := by decide +kernel
theorem dX2_endBefore_212 : decode cX2_endBefore 212 = .ok (.ifCond .ne 7, 3) := by decide +kernel
theorem dX2_endBefore_215 : decode cX2_endBefore 215 = .ok (.iconst 4, 1) := by decide +kernel
theorem dX2_endBefore_216 : decode cX2_endBefore 216 = .ok (.goto 4, 3) := by decide +kernel
theorem dX2_endBefore_219 : decode cX2_endBefore 219 = .ok (.iconst (-1), 1) := by decide +kernel
theorem dX2_endBefore_220 : decode cX2_endBefore 220 = .ok (.ireturn, 1) := by decide +kernel
theorem dX2_endBefore_221 : decode cX2_endBefore 221 = .ok (.iconst (-1), 1) := by decide +kernel
theorem dX2_endBefore_222 : decode cX2_endBefore 222 = .ok (.ireturn, 1) := by decide +kernel
theorem dX2_isWrong_0 : decode cX2_isWrong 0 = .ok (.aload_n 0, 1) := by decide +kernel
theorem dX2_isWrong_1 : decode cX2_isWrong 1 = .ok (.getfield 11, 3) := by decide +kernel
theorem dX2_isWrong_4 : decode cX2_isWrong 4 = .ok (.iconst 4, 1) := by decide +kernel
theorem dX2_isWrong_5 : decode cX2_isWrong 5 = .ok (.aload_n 0, 1) := by decide +kernel
theorem dX2_isWrong_6 : decode cX2_isWrong 6 = .ok (.getfield 26, 3) := by decide +kernel
theorem dX2_isWrong_9 : decode cX2_isWrong 9 = .ok (.imul, 1) := by decide +kernel
theorem dX2_isWrong_10 : decode cX2_isWrong 10 = .ok (.iaload, 1) := by decide +kernel
theorem dX2_isWrong_11 : decode cX2_isWrong 11 = .ok (.istore_n 1, 1) := by decide +kernel
theorem dX2_isWrong_12 : decode cX2_isWrong 12 = .ok (.iload_n 1, 1) := by decide +kernel
theorem dX2_isWrong_13 : decode cX2_isWrong 13 = .ok (.ifCond .lt 9, 3) := by decide +kernel
theorem dX2_isWrong_16 : decode cX2_isWrong 16 = .ok (.iload_n 1, 1) := by decide +kernel
theorem dX2_isWrong_17 : decode cX2_isWrong 17 = .ok (.bipush 14, 2) := by decide +kernel
theorem dX2_isWrong_19 : decode cX2_isWrong 19 = .ok (.if_icmp .le 5, 3) := by decide +kernel
theorem dX2_isWrong_22 : decode cX2_isWrong 22 = .ok (.iconst 1, 1) := by decide +kernel
theorem dX2_isWrong_23 : decode cX2_isWrong 23 = .ok (.ireturn, 1) := by decide +kernel
theorem dX2_isWrong_24 : decode cX2_isWrong 24 = .ok (.iconst 0, 1) := by decide +kernel
theorem dX2_isWrong_25 : decode cX2_isWrong 25 = .ok (.istore_n 2, 1) := by decide +kernel
theorem dX2_isWrong_26 : decode cX2_isWrong 26 = .ok (.iload_n 2, 1) := by decide +kernel
theorem dX2_isWrong_27 : decode cX2_isWrong 27 = .ok (.iconst 3, 1) := by decide +kernel
theorem dX2_isWrong_28 : decode cX2_isWrong 28 = .ok (.if_icmp .ge 43, 3) := by decide +kernel
theorem dX2_isWrong_31 : decode cX2_isWrong 31 = .ok (.aload_n 0, 1) := by decide +kernel
theorem dX2_isWrong_32 : decode cX2_isWrong 32 = .ok (.ldc 57, 2) := by decide +kernel
theorem dX2_isWrong_34 : decode cX2_isWrong 34 = .ok (.iconst 4, 1) := by decide +kernel
theorem dX2_isWrong_35 : decode cX2_isWrong 35 = .ok (.iload_n 1, 1) := by decide +kernel
theorem dX2_isWrong_36 : decode cX2_isWrong 36 = .ok (.imul, 1) := by decide +kernel
theorem dX2_isWrong_37 : decode cX2_isWrong 37 = .ok (.iload_n 2, 1) := by decide +kernel
theorem dX2_isWrong_38 : decode cX2_isWrong 38 = .ok (.iadd, 1) := by decide +kernel
theorem dX2_isWrong_39 : decode cX2_isWrong 39 = .ok (.invokevirtual 59, 3) := by decide +kernel
theorem dX2_isWrong_42 : decode cX2_isWrong 42 = .ok (.aload_n 0, 1) := by decide +kernel
theorem dX2_isWrong_43 : decode cX2_isWrong 43 = .ok (.getfield 11, 3) := by decide +kernel
theorem dX2_isWrong_46 : decode cX2_isWrong 46 = .ok (.iconst 4, 1) := by decide +kernel
theorem dX2_isWrong_47 : decode cX2_isWrong 47 = .ok (.aload_n 0, 1) := by decide +kernel
theorem dX2_isWrong_48 : decode cX2_isWrong 48 = .ok (.getfield 26, 3) := by decide +kernel
theorem dX2_isWrong_51 : decode cX2_isWrong 51 = .ok (.imul, 1) := by decide +kernel
theorem dX2_isWrong_52 : decode cX2_isWrong 52 = .ok (.iconst 1, 1) := by decide +kernel
theorem dX2_isWrong_53 : decode cX2_isWrong 53 = .ok (.iadd, 1) := by decide +kernel
theorem dX2_isWrong_54 : decode cX2_isWrong 54 = .ok (.iload_n 2, 1) := by decide +kernel
theorem dX2_isWrong_55 : decode cX2_isWrong 55 = .ok (.iadd, 1) := by decide +kernel
theorem dX2_isWrong_56 : decode cX2_isWrong 56 = .ok (.iaload, 1) := by decide +kernel
theorem dX2_isWrong_57 : decode cX2_isWrong 57 = .ok (.invokevirtual 65, 3) := by decide +kernel
theorem dX2_isWrong_60 : decode cX2_isWrong 60 = .ok (.ifCond .ne 5, 3) := by decide +kernel
theorem dX2_isWrong_63 : decode cX2_isWrong 63 = .ok (.iconst 1, 1) := by decide +kernel
theorem dX2_isWrong_64 : decode cX2_isWrong 64 = .ok (.ireturn, 1) := by decide +kernel
theorem dX2_isWrong_65 : decode cX2_isWrong 65 = .ok (.iinc 2 1, 3) := by decide +kernel
theorem dX2_isWrong_68 : decode cX2_isWrong 68 = .ok (.goto (-42), 3) := by decide +kernel
theorem dX2_isWrong_71 : decode cX2_isWrong 71 = .ok (.iconst 0, 1) := by decide +kernel
theorem dX2_isWrong_72 : decode cX2_isWrong 72 = .ok (.ireturn, 1) := by decide +kernel
theorem dX2_isAsTold_0 : decode cX2_isAsTold 0 = .ok (.iload_n 1, 1) := by decide +kernel
theorem dX2_isAsTold_1 : decode cX2_isAsTold 1 = .ok (.tableswitch 156 102 114 #[106, 156, 156, 122, 156, 156, 156, 156, 90, 156, 138, 72, 67], 67) := by decide +kernel
theorem dX2_isAsTold_68 : decode cX2_isAsTold 68 = .ok (.iload_n 2, 1) := by decide +kernel
theorem dX2_isAsTold_69 : decode cX2_isAsTold 69 = .ok (.invokestatic 69, 3) := by decide +kernel
theorem dX2_isAsTold_72 : decode cX2_isAsTold 72 = .ok (.ireturn, 1) := by decide +kernel
theorem dX2_isAsTold_73 : decode cX2_isAsTold 73 = .ok (.iload_n 2, 1) := by decide +kernel
theorem dX2_isAsTold_74 : decode cX2_isAsTold 74 = .ok (.iconst (-1), 1) := by decide +kernel
theorem dX2_isAsTold_75 : decode cX2_isAsTold 75 = .ok (.if_icmp .eq 10, 3) := by decide +kernel
theorem dX2_isAsTold_78 : decode cX2_isAsTold 78 = .ok (.iload_n 2, 1) := by decide +kernel
theorem dX2_isAsTold_79 : decode cX2_isAsTold 79 = .ok (.invokestatic 69, 3) := by decide +kernel
theorem dX2_isAsTold_82 : decode cX2_isAsTold 82 = .ok (.ifCond .eq 7, 3) := by decide +kernel
theorem dX2_isAsTold_85 : decode cX2_isAsTold 85 = .ok (.iconst 1, 1) := by decide +kernel
theorem dX2_isAsTold_86 : decode cX2_isAsTold 86 = .ok (.goto 4, 3) := by decide +kernel
theorem dX2_isAsTold_89 : decode cX2_isAsTold 89 = .ok (.iconst 0, 1) := by decide +kernel
theorem dX2_isAsTold_90 : decode cX2_isAsTold 90 = .ok (.ireturn, 1) := by decide +kernel
theorem dX2_isAsTold_91 : decode cX2_isAsTold 91 = .ok (.iload_n 2, 1) := by decide +kernel
theorem dX2_isAsTold_92 : decode cX2_isAsTold 92 = .ok (.ifCond .lt 13, 3) := by decide +kernel
theorem dX2_isAsTold_95 : decode cX2_isAsTold 95 = .ok (.iload_n 2, 1) := by decide +kernel
theorem dX2_isAsTold_96 : decode cX2_isAsTold 96 = .ok (.bipush 6, 2) := by decide +kernel
theorem dX2_isAsTold_98 : decode cX2_isAsTold 98 = .ok (.if_icmp .gt 7, 3) := by decide +kernel
theorem dX2_isAsTold_101 : decode cX2_isAsTold 101 = .ok (.iconst 1, 1) := by decide +kernel
theorem dX2_isAsTold_102 : decode cX2_isAsTold 102 = .ok (.goto 4, 3) := by decide +kernel
theorem dX2_isAsTold_105 : decode cX2_isAsTold 105 = .ok (.iconst 0, 1) := by decide +kernel
theorem dX2_isAsTold_106 : decode cX2_isAsTold 106 = .ok (.ireturn, 1) := by decide +kernel
theorem dX2_isAsTold_107 : decode cX2_isAsTold 107 = .ok (.iload_n 2, 1) := by decide +kernel
theorem dX2_isAsTold_108 : decode cX2_isAsTold 108 = .ok (.ifCond .lt 13, 3) := by decide +kernel
theorem dX2_isAsTold_111 : decode cX2_isAsTold 111 = .ok (.iload_n 2, 1) := by decide +kernel
theorem dX2_isAsTold_112 : decode cX2_isAsTold 112 = .ok (.bipush 6, 2) := by decide +kernel
theorem dX2_isAsTold_114 : decode cX2_isAsTold 114 = .ok (.if_icmp .ge 7, 3) := by decide +kernel
theorem dX2_isAsTold_117 : decode cX2_isAsTold 117 = .ok (.iconst 1, 1) := by decide +kernel
theorem dX2_isAsTold_118 : decode cX2_isAsTold 118 = .ok (.goto 4, 3) := by decide +kernel
theorem dX2_isAsTold_121 : decode cX2_isAsTold 121 = .ok (.iconst 0, 1) := by decide +kernel
theorem dX2_isAsTold_122 : decode cX2_isAsTold 122 = .ok (.ireturn, 1) := by decide +kernel
theorem dX2_isAsTold_123 : decode cX2_isAsTold 123 = .ok (.iload_n 2, 1) := by decide +kernel
theorem dX2_isAsTold_124 : decode cX2_isAsTold 124 = .ok (.ifCond .lt 13, 3) := by decide +kernel
theorem dX2_isAsTold_127 : decode cX2_isAsTold 127 = .ok (.iload_n 2, 1) := by decide +kernel
theorem dX2_isAsTold_128 : decode cX2_isAsTold 128 = .ok (.bipush 8, 2) := by decide +kernel
theorem dX2_isAsTold_130 : decode cX2_isAsTold 130 = .ok (.if_icmp .ge 7, 3) := by decide +kernel
theorem dX2_isAsTold_133 : decode cX2_isAsTold 133 = .ok (.iconst 1, 1) := by decide +kernel
theorem dX2_isAsTold_134 : decode cX2_isAsTold 134 = .ok (.goto 4, 3) := by decide +kernel
theorem dX2_isAsTold_137 : decode cX2_isAsTold 137 = .ok (.iconst 0, 1) := by decide +kernel
theorem dX2_isAsTold_138 : decode cX2_isAsTold 138 = .ok (.ireturn, 1) := by decide +kernel
theorem dX2_isAsTold_139 : decode cX2_isAsTold 139 = .ok (.iload_n 2, 1) := by decide +kernel
theorem dX2_isAsTold_140 : decode cX2_isAsTold 140 = .ok (.ifCond .lt 15, 3) := by decide +kernel
theorem dX2_isAsTold_143 : decode cX2_isAsTold 143 = .ok (.iload_n 2, 1) := by decide +kernel
theorem dX2_isAsTold_144 : decode cX2_isAsTold 144 = .ok (.aload_n 0, 1) := by decide +kernel
theorem dX2_isAsTold_145 : decode cX2_isAsTold 145 = .ok (.getfield 22, 3) := by decide +kernel
theorem dX2_isAsTold_148 : decode cX2_isAsTold 148 = .ok (.if_icmp .gt 7, 3) := by decide +kernel
theorem dX2_isAsTold_151 : decode cX2_isAsTold 151 = .ok (.iconst 1, 1) := by decide +kernel
theorem dX2_isAsTold_152 : decode cX2_isAsTold 152 = .ok (.goto 4, 3) := by decide +kernel
theorem dX2_isAsTold_155 : decode cX2_isAsTold 155 = .ok (.iconst 0, 1) := by decide +kernel
theorem dX2_isAsTold_156 : decode cX2_isAsTold 156 = .ok (.ireturn, 1) := by decide +kernel
theorem dX2_isAsTold_157 : decode cX2_isAsTold 157 = .ok (.iconst 1, 1) := by decide +kernel
theorem dX2_isAsTold_158 : decode cX2_isAsTold 158 = .ok (.ireturn, 1) := by decide +kernel
theorem dX2_endOfObject_0 : decode cX2_endOfObject 0 = .ok (.aload_n 0, 1) := by decide +kernel
theorem dX2_endOfObject_1 : decode cX2_endOfObject 1 = .ok (.getfield 18, 3) := by decide +kernel
theorem dX2_endOfObject_4 : decode cX2_endOfObject 4 = .ok (.getfield 37, 3) := by decide +kernel
theorem dX2_endOfObject_7 : decode cX2_endOfObject 7 = .ok (.getfield 43, 3) := by decide +kernel
theorem dX2_endOfObject_10 : decode cX2_endOfObject 10 = .ok (.iload_n 1, 1) := by decide +kernel
theorem dX2_endOfObject_11 : decode cX2_endOfObject 11 = .ok (.iaload, 1) := by decide +kernel
theorem dX2_endOfObject_12 : decode cX2_endOfObject 12 = .ok (.istore_n 3, 1) := by decide +kernel
theorem dX2_endOfObject_13 : decode cX2_endOfObject 13 = .ok (.iload_n 3, 1) := by decide +kernel
theorem dX2_endOfObject_14 : decode cX2_endOfObject 14 = .ok (.ifCond .ne 5, 3) := by decide +kernel
theorem dX2_endOfObject_17 : decode cX2_endOfObject 17 = .ok (.iconst 2, 1) := by decide +kernel
theorem dX2_endOfObject_18 : decode cX2_endOfObject 18 = .ok (.ireturn, 1) := by decide +kernel
theorem dX2_endOfObject_19 : decode cX2_endOfObject 19 = .ok (.aload_n 0, 1) := by decide +kernel
theorem dX2_endOfObject_20 : decode cX2_endOfObject 20 = .ok (.getfield 18, 3) := by decide +kernel
theorem dX2_endOfObject_23 : decode cX2_endOfObject 23 = .ok (.iload_n 3, 1) := by decide +kernel
theorem dX2_endOfObject_24 : decode cX2_endOfObject 24 = .ok (.iload_n 2, 1) := by decide +kernel
theorem dX2_endOfObject_25 : decode cX2_endOfObject 25 = .ok (.invokevirtual 73, 3) := by decide +kernel
theorem dX2_endOfObject_28 : decode cX2_endOfObject 28 = .ok (.ifCond .eq 7, 3) := by decide +kernel
theorem dX2_endOfObject_31 : decode cX2_endOfObject 31 = .ok (.iconst (-1), 1) := by decide +kernel
theorem dX2_endOfObject_32 : decode cX2_endOfObject 32 = .ok (.goto 4, 3) := by decide +kernel
theorem dX2_endOfObject_35 : decode cX2_endOfObject 35 = .ok (.iconst 3, 1) := by decide +kernel
theorem dX2_endOfObject_36 : decode cX2_endOfObject 36 = .ok (.ireturn, 1) := by decide +kernel
theorem dX2_step_0 : decode cX2_step 0 = .ok (.aload_n 0, 1) := by decide +kernel
theorem dX2_step_1 : decode cX2_step 1 = .ok (.getfield 11, 3) := by decide +kernel
theorem dX2_step_4 : decode cX2_step 4 = .ok (.iconst 4, 1) := by decide +kernel
theorem dX2_step_5 : decode cX2_step 5 = .ok (.aload_n 0, 1) := by decide +kernel
theorem dX2_step_6 : decode cX2_step 6 = .ok (.getfield 26, 3) := by decide +kernel
theorem dX2_step_9 : decode cX2_step 9 = .ok (.imul, 1) := by decide +kernel
theorem dX2_step_10 : decode cX2_step 10 = .ok (.iaload, 1) := by decide +kernel
theorem dX2_step_11 : decode cX2_step 11 = .ok (.istore_n 1, 1) := by decide +kernel
theorem dX2_step_12 : decode cX2_step 12 = .ok (.aload_n 0, 1) := by decide +kernel
theorem dX2_step_13 : decode cX2_step 13 = .ok (.getfield 11, 3) := by decide +kernel
theorem dX2_step_16 : decode cX2_step 16 = .ok (.iconst 4, 1) := by decide +kernel
theorem dX2_step_17 : decode cX2_step 17 = .ok (.aload_n 0, 1) := by decide +kernel
theorem dX2_step_18 : decode cX2_step 18 = .ok (.getfield 26, 3) := by decide +kernel
theorem dX2_step_21 : decode cX2_step 21 = .ok (.imul, 1) := by decide +kernel
theorem dX2_step_22 : decode cX2_step 22 = .ok (.iconst 1, 1) := by decide +kernel
theorem dX2_step_23 : decode cX2_step 23 = .ok (.iadd, 1) := by decide +kernel
theorem dX2_step_24 : decode cX2_step 24 = .ok (.iaload, 1) := by decide +kernel
theorem dX2_step_25 : decode cX2_step 25 = .ok (.istore_n 2, 1) := by decide +kernel
theorem dX2_step_26 : decode cX2_step 26 = .ok (.aload_n 0, 1) := by decide +kernel
theorem dX2_step_27 : decode cX2_step 27 = .ok (.getfield 11, 3) := by decide +kernel
theorem dX2_step_30 : decode cX2_step 30 = .ok (.iconst 4, 1) := by decide +kernel
theorem dX2_step_31 : decode cX2_step 31 = .ok (.aload_n 0, 1) := by decide +kernel
theorem dX2_step_32 : decode cX2_step 32 = .ok (.getfield 26, 3) := by decide +kernel
theorem dX2_step_35 : decode cX2_step 35 = .ok (.imul, 1) := by decide +kernel
theorem dX2_step_36 : decode cX2_step 36 = .ok (.iconst 2, 1) := by decide +kernel
theorem dX2_step_37 : decode cX2_step 37 = .ok (.iadd, 1) := by decide +kernel
theorem dX2_step_38 : decode cX2_step 38 = .ok (.iaload, 1) := by decide +kernel
theorem dX2_step_39 : decode cX2_step 39 = .ok (.istore_n 3, 1) := by decide +kernel
theorem dX2_step_40 : decode cX2_step 40 = .ok (.aload_n 0, 1) := by decide +kernel
theorem dX2_step_41 : decode cX2_step 41 = .ok (.getfield 11, 3) := by decide +kernel
theorem dX2_step_44 : decode cX2_step 44 = .ok (.iconst 4, 1) := by decide +kernel
theorem dX2_step_45 : decode cX2_step 45 = .ok (.aload_n 0, 1) := by decide +kernel
theorem dX2_step_46 : decode cX2_step 46 = .ok (.getfield 26, 3) := by decide +kernel
theorem dX2_step_49 : decode cX2_step 49 = .ok (.imul, 1) := by decide +kernel
theorem dX2_step_50 : decode cX2_step 50 = .ok (.iconst 3, 1) := by decide +kernel
theorem dX2_step_51 : decode cX2_step 51 = .ok (.iadd, 1) := by decide +kernel
theorem dX2_step_52 : decode cX2_step 52 = .ok (.iaload, 1) := by decide +kernel
theorem dX2_step_53 : decode cX2_step 53 = .ok (.istore 4, 2) := by decide +kernel
theorem dX2_step_55 : decode cX2_step 55 = .ok (.iload_n 1, 1) := by decide +kernel
theorem dX2_step_56 : decode cX2_step 56 = .ok (.iconst 1, 1) := by decide +kernel
theorem dX2_step_57 : decode cX2_step 57 = .ok (.if_icmp .eq 9, 3) := by decide +kernel
theorem dX2_step_60 : decode cX2_step 60 = .ok (.iload_n 1, 1) := by decide +kernel
theorem dX2_step_61 : decode cX2_step 61 = .ok (.bipush 14, 2) := by decide +kernel
theorem dX2_step_63 : decode cX2_step 63 = .ok (.if_icmp .ne 52, 3) := by decide +kernel
theorem dX2_step_66 : decode cX2_step 66 = .ok (.aload_n 0, 1) := by decide +kernel
theorem dX2_step_67 : decode cX2_step 67 = .ok (.getfield 18, 3) := by decide +kernel
theorem dX2_step_70 : decode cX2_step 70 = .ok (.iload_n 3, 1) := by decide +kernel
theorem dX2_step_71 : decode cX2_step 71 = .ok (.aload_n 0, 1) := by decide +kernel
theorem dX2_step_72 : decode cX2_step 72 = .ok (.getfield 15, 3) := by decide +kernel
theorem dX2_step_75 : decode cX2_step 75 = .ok (.iload 4, 2) := by decide +kernel
theorem dX2_step_77 : decode cX2_step 77 = .ok (.iaload, 1) := by decide +kernel
theorem dX2_step_78 : decode cX2_step 78 = .ok (.iload_n 1, 1) := by decide +kernel
theorem dX2_step_79 : decode cX2_step 79 = .ok (.bipush 14, 2) := by decide +kernel
theorem dX2_step_81 : decode cX2_step 81 = .ok (.if_icmp .ne 7, 3) := by decide +kernel
theorem dX2_step_84 : decode cX2_step 84 = .ok (.iconst 1, 1) := by decide +kernel
theorem dX2_step_85 : decode cX2_step 85 = .ok (.goto 4, 3) := by decide +kernel
theorem dX2_step_88 : decode cX2_step 88 = .ok (.iconst 0, 1) := by decide +kernel
theorem dX2_step_89 : decode cX2_step 89 = .ok (.invokevirtual 77, 3) := by decide +kernel
theorem dX2_step_92 : decode cX2_step 92 = .ok (.istore 5, 2) := by decide +kernel
theorem dX2_step_94 : decode cX2_step 94 = .ok (.iload 5, 2) := by decide +kernel
theorem dX2_step_96 : decode cX2_step 96 = .ok (.ifCond .ne 5, 3) := by decide +kernel
theorem dX2_step_99 : decode cX2_step 99 = .ok (.iconst 5, 1) := by decide +kernel
theorem dX2_step_100 : decode cX2_step 100 = .ok (.ireturn, 1) := by decide +kernel
theorem dX2_step_101 : decode cX2_step 101 = .ok (.aload_n 0, 1) := by decide +kernel
theorem dX2_step_102 : decode cX2_step 102 = .ok (.getfield 18, 3) := by decide +kernel
theorem dX2_step_105 : decode cX2_step 105 = .ok (.getfield 37, 3) := by decide +kernel
theorem dX2_step_108 : decode cX2_step 108 = .ok (.getfield 43, 3) := by decide +kernel
theorem dX2_step_111 : decode cX2_step 111 = .ok (.iload_n 2, 1) := by decide +kernel
theorem dX2_step_112 : decode cX2_step 112 = .ok (.iload 5, 2) := by decide +kernel
theorem dX2_step_114 : decode cX2_step 114 = .ok (.iastore, 1) := by decide +kernel
theorem dX2_step_115 : decode cX2_step 115 = .ok (.aload_n 0, 1) := by decide +kernel
theorem dX2_step_116 : decode cX2_step 116 = .ok (.dup, 1) := by decide +kernel
theorem dX2_step_117 : decode cX2_step 117 = .ok (.getfield 81, 3) := by decide +kernel
theorem dX2_step_120 : decode cX2_step 120 = .ok (.iconst 1, 1) := by decide +kernel
theorem dX2_step_121 : decode cX2_step 121 = .ok (.iadd, 1) := by decide +kernel
theorem dX2_step_122 : decode cX2_step 122 = .ok (.putfield 81, 3) := by decide +kernel
theorem dX2_step_125 : decode cX2_step 125 = .ok (.iload_n 1, 1) := by decide +kernel
theorem dX2_step_126 : decode cX2_step 126 = .ok (.ifCond .ne 5, 3) := by decide +kernel
theorem dX2_step_129 : decode cX2_step 129 = .ok (.iconst 0, 1) := by decide +kernel
theorem dX2_step_130 : decode cX2_step 130 = .ok (.ireturn, 1) := by decide +kernel
theorem dX2_step_131 : decode cX2_step 131 = .ok (.aload_n 0, 1) := by decide +kernel
theorem dX2_step_132 : decode cX2_step 132 = .ok (.iload_n 1, 1) := by decide +kernel
theorem dX2_step_133 : decode cX2_step 133 = .ok (.iload_n 2, 1) := by decide +kernel
theorem dX2_step_134 : decode cX2_step 134 = .ok (.iload_n 3, 1) := by decide +kernel
theorem dX2_step_135 : decode cX2_step 135 = .ok (.iload 4, 2) := by decide +kernel
theorem dX2_step_137 : decode cX2_step 137 = .ok (.invokevirtual 84, 3) := by decide +kernel
theorem dX2_step_140 : decode cX2_step 140 = .ok (.aload_n 0, 1) := by decide +kernel
theorem dX2_step_141 : decode cX2_step 141 = .ok (.aload_n 0, 1) := by decide +kernel
theorem dX2_step_142 : decode cX2_step 142 = .ok (.iload_n 1, 1) := by decide +kernel
theorem dX2_step_143 : decode cX2_step 143 = .ok (.iload_n 2, 1) := by decide +kernel
theorem dX2_step_144 : decode cX2_step 144 = .ok (.iload_n 3, 1) := by decide +kernel
theorem dX2_step_145 : decode cX2_step 145 = .ok (.iload 4, 2) := by decide +kernel
theorem dX2_step_147 : decode cX2_step 147 = .ok (.invokevirtual 88, 3) := by decide +kernel
theorem dX2_step_150 : decode cX2_step 150 = .ok (.putfield 26, 3) := by decide +kernel
theorem dX2_step_153 : decode cX2_step 153 = .ok (.iconst (-1), 1) := by decide +kernel
theorem dX2_step_154 : decode cX2_step 154 = .ok (.ireturn, 1) := by decide +kernel
theorem dX2_change_0 : decode cX2_change 0 = .ok (.aload_n 0, 1) := by decide +kernel
theorem dX2_change_1 : decode cX2_change 1 = .ok (.getfield 18, 3) := by decide +kernel
theorem dX2_change_4 : decode cX2_change 4 = .ok (.getfield 37, 3) := by decide +kernel
theorem dX2_change_7 : decode cX2_change 7 = .ok (.getfield 43, 3) := by decide +kernel
theorem dX2_change_10 : decode cX2_change 10 = .ok (.astore 5, 2) := by decide +kernel
theorem dX2_change_12 : decode cX2_change 12 = .ok (.iload_n 1, 1) := by decide +kernel
theorem dX2_change_13 : decode cX2_change 13 = .ok (.tableswitch 193 2 9 #[47, 71, 91, 106, 123, 140, 150, 173], 47) := by decide +kernel
theorem dX2_change_60 : decode cX2_change 60 = .ok (.aload_n 0, 1) := by decide +kernel
theorem dX2_change_61 : decode cX2_change 61 = .ok (.getfield 18, 3) := by decide +kernel
theorem dX2_change_64 : decode cX2_change 64 = .ok (.aload 5, 2) := by decide +kernel
theorem dX2_change_66 : decode cX2_change 66 = .ok (.iload_n 2, 1) := by decide +kernel
theorem dX2_change_67 : decode cX2_change 67 = .ok (.iaload, 1) := by decide +kernel
theorem dX2_change_68 : decode cX2_change 68 = .ok (.iload_n 3, 1) := by decide +kernel
theorem dX2_change_69 : decode cX2_change 69 = .ok (.aload_n 0, 1) := by decide +kernel
theorem dX2_change_70 : decode cX2_change 70 = .ok (.getfield 18, 3) := by decide +kernel
theorem dX2_change_73 : decode cX2_change 73 = .ok (.iload 4, 2) := by decide +kernel
theorem dX2_change_75 : decode cX2_change 75 = .ok (.invokevirtual 92, 3) := by decide +kernel
theorem dX2_change_78 : decode cX2_change 78 = .ok (.invokevirtual 96, 3) := by decide +kernel
theorem dX2_change_81 : decode cX2_change 81 = .ok (.goto 125, 3) := by decide +kernel
theorem dX2_change_84 : decode cX2_change 84 = .ok (.aload 5, 2) := by decide +kernel
theorem dX2_change_86 : decode cX2_change 86 = .ok (.iload_n 2, 1) := by decide +kernel
theorem dX2_change_87 : decode cX2_change 87 = .ok (.aload_n 0, 1) := by decide +kernel
theorem dX2_change_88 : decode cX2_change 88 = .ok (.getfield 18, 3) := by decide +kernel
theorem dX2_change_91 : decode cX2_change 91 = .ok (.aload 5, 2) := by decide +kernel
theorem dX2_change_93 : decode cX2_change 93 = .ok (.iload_n 3, 1) := by decide +kernel
theorem dX2_change_94 : decode cX2_change 94 = .ok (.iaload, 1) := by decide +kernel
theorem dX2_change_95 : decode cX2_change 95 = .ok (.iload 4, 2) := by decide +kernel
theorem dX2_change_97 : decode cX2_change 97 = .ok (.invokevirtual 100, 3) := by decide +kernel
theorem dX2_change_100 : decode cX2_change 100 = .ok (.iastore, 1) := by decide +kernel
theorem dX2_change_101 : decode cX2_change 101 = .ok (.goto 105, 3) := by decide +kernel
theorem dX2_change_104 : decode cX2_change 104 = .ok (.aload 5, 2) := by decide +kernel
theorem dX2_change_106 : decode cX2_change 106 = .ok (.iload_n 2, 1) := by decide +kernel
theorem dX2_change_107 : decode cX2_change 107 = .ok (.aload_n 0, 1) := by decide +kernel
theorem dX2_change_108 : decode cX2_change 108 = .ok (.getfield 18, 3) := by decide +kernel
theorem dX2_change_111 : decode cX2_change 111 = .ok (.iload_n 3, 1) := by decide +kernel
theorem dX2_change_112 : decode cX2_change 112 = .ok (.invokevirtual 92, 3) := by decide +kernel
theorem dX2_change_115 : decode cX2_change 115 = .ok (.iastore, 1) := by decide +kernel
theorem dX2_change_116 : decode cX2_change 116 = .ok (.goto 90, 3) := by decide +kernel
theorem dX2_change_119 : decode cX2_change 119 = .ok (.aload_n 0, 1) := by decide +kernel
theorem dX2_change_120 : decode cX2_change 120 = .ok (.getfield 18, 3) := by decide +kernel
theorem dX2_change_123 : decode cX2_change 123 = .ok (.getfield 48, 3) := by decide +kernel
theorem dX2_change_126 : decode cX2_change 126 = .ok (.aload 5, 2) := by decide +kernel
theorem dX2_change_128 : decode cX2_change 128 = .ok (.iload_n 2, 1) := by decide +kernel
theorem dX2_change_129 : decode cX2_change 129 = .ok (.iaload, 1) := by decide +kernel
theorem dX2_change_130 : decode cX2_change 130 = .ok (.invokevirtual 103, 3) := by decide +kernel
theorem dX2_change_133 : decode cX2_change 133 = .ok (.goto 73, 3) := by decide +kernel
theorem dX2_change_136 : decode cX2_change 136 = .ok (.aload 5, 2) := by decide +kernel
theorem dX2_change_138 : decode cX2_change 138 = .ok (.iload_n 2, 1) := by decide +kernel
theorem dX2_change_139 : decode cX2_change 139 = .ok (.aload_n 0, 1) := by decide +kernel
theorem dX2_change_140 : decode cX2_change 140 = .ok (.getfield 18, 3) := by decide +kernel
theorem dX2_change_143 : decode cX2_change 143 = .ok (.getfield 48, 3) := by decide +kernel
theorem dX2_change_146 : decode cX2_change 146 = .ok (.invokevirtual 107, 3) := by decide +kernel
theorem dX2_change_149 : decode cX2_change 149 = .ok (.iastore, 1) := by decide +kernel
theorem dX2_change_150 : decode cX2_change 150 = .ok (.goto 56, 3) := by decide +kernel
theorem dX2_change_153 : decode cX2_change 153 = .ok (.aload_n 0, 1) := by decide +kernel
theorem dX2_change_154 : decode cX2_change 154 = .ok (.getfield 15, 3) := by decide +kernel
theorem dX2_change_157 : decode cX2_change 157 = .ok (.iload_n 2, 1) := by decide +kernel
theorem dX2_change_158 : decode cX2_change 158 = .ok (.iload_n 3, 1) := by decide +kernel
theorem dX2_change_159 : decode cX2_change 159 = .ok (.iastore, 1) := by decide +kernel
theorem dX2_change_160 : decode cX2_change 160 = .ok (.goto 46, 3) := by decide +kernel
theorem dX2_change_163 : decode cX2_change 163 = .ok (.aload_n 0, 1) := by decide +kernel
theorem dX2_change_164 : decode cX2_change 164 = .ok (.getfield 15, 3) := by decide +kernel
theorem dX2_change_167 : decode cX2_change 167 = .ok (.iload_n 2, 1) := by decide +kernel
theorem dX2_change_168 : decode cX2_change 168 = .ok (.aload_n 0, 1) := by decide +kernel
theorem dX2_change_169 : decode cX2_change 169 = .ok (.getfield 15, 3) := by decide +kernel
theorem dX2_change_172 : decode cX2_change 172 = .ok (.iload_n 3, 1) := by decide +kernel
theorem dX2_change_173 : decode cX2_change 173 = .ok (.iaload, 1) := by decide +kernel
theorem dX2_change_174 : decode cX2_change 174 = .ok (.aload_n 0, 1) := by decide +kernel
theorem dX2_change_175 : decode cX2_change 175 = .ok (.getfield 15, 3) := by decide +kernel
theorem dX2_change_178 : decode cX2_change 178 = .ok (.iload 4, 2) := by decide +kernel
theorem dX2_change_180 : decode cX2_change 180 = .ok (.iaload, 1) := by decide +kernel
theorem dX2_change_181 : decode cX2_change 181 = .ok (.iadd, 1) := by decide +kernel
theorem dX2_change_182 : decode cX2_change 182 = .ok (.iastore, 1) := by decide +kernel
theorem dX2_change_183 : decode cX2_change 183 = .ok (.goto 23, 3) := by decide +kernel
theorem dX2_change_186 : decode cX2_change 186 = .ok (.aload_n 0, 1) := by decide +kernel
theorem dX2_change_187 : decode cX2_change 187 = .ok (.getfield 15, 3) := by decide +kernel
theorem dX2_change_190 : decode cX2_change 190 = .ok (.iload_n 2, 1) := by decide +kernel
theorem dX2_change_191 : decode cX2_change 191 = .ok (.aload_n 0, 1) := by decide +kernel
theorem dX2_change_192 : decode cX2_change 192 = .ok (.getfield 18, 3) := by decide +kernel
theorem dX2_change_195 : decode cX2_change 195 = .ok (.aload 5, 2) := by decide +kernel
theorem dX2_change_197 : decode cX2_change 197 = .ok (.iload_n 3, 1) := by decide +kernel
theorem dX2_change_198 : decode cX2_change 198 = .ok (.iaload, 1) := by decide +kernel
theorem dX2_change_199 : decode cX2_change 199 = .ok (.invokevirtual 111, 3) := by decide +kernel
theorem dX2_change_202 : decode cX2_change 202 = .ok (.iastore, 1) := by decide +kernel
theorem dX2_change_203 : decode cX2_change 203 = .ok (.goto 3, 3) := by decide +kernel
theorem dX2_change_206 : decode cX2_change 206 = .ok (.return_, 1) := by decide +kernel
theorem dX2_goesOnAt_0 : decode cX2_goesOnAt 0 = .ok (.aload_n 0, 1) := by decide +kernel
theorem dX2_goesOnAt_1 : decode cX2_goesOnAt 1 = .ok (.getfield 18, 3) := by decide +kernel
theorem dX2_goesOnAt_4 : decode cX2_goesOnAt 4 = .ok (.getfield 37, 3) := by decide +kernel
theorem dX2_goesOnAt_7 : decode cX2_goesOnAt 7 = .ok (.getfield 43, 3) := by decide +kernel
theorem dX2_goesOnAt_10 : decode cX2_goesOnAt 10 = .ok (.astore 5, 2) := by decide +kernel
theorem dX2_goesOnAt_12 : decode cX2_goesOnAt 12 = .ok (.iload_n 1, 1) := by decide +kernel
theorem dX2_goesOnAt_13 : decode cX2_goesOnAt 13 = .ok (.tableswitch 101 10 13 #[31, 49, 76, 78], 31) := by decide +kernel
theorem dX2_goesOnAt_44 : decode cX2_goesOnAt 44 = .ok (.aload 5, 2) := by decide +kernel
theorem dX2_goesOnAt_46 : decode cX2_goesOnAt 46 = .ok (.iload_n 2, 1) := by decide +kernel
theorem dX2_goesOnAt_47 : decode cX2_goesOnAt 47 = .ok (.iaload, 1) := by decide +kernel
theorem dX2_goesOnAt_48 : decode cX2_goesOnAt 48 = .ok (.ifCond .ne 7, 3) := by decide +kernel
theorem dX2_goesOnAt_51 : decode cX2_goesOnAt 51 = .ok (.iload_n 3, 1) := by decide +kernel
theorem dX2_goesOnAt_52 : decode cX2_goesOnAt 52 = .ok (.goto 9, 3) := by decide +kernel
theorem dX2_goesOnAt_55 : decode cX2_goesOnAt 55 = .ok (.aload_n 0, 1) := by decide +kernel
theorem dX2_goesOnAt_56 : decode cX2_goesOnAt 56 = .ok (.getfield 26, 3) := by decide +kernel
theorem dX2_goesOnAt_59 : decode cX2_goesOnAt 59 = .ok (.iconst 1, 1) := by decide +kernel
theorem dX2_goesOnAt_60 : decode cX2_goesOnAt 60 = .ok (.iadd, 1) := by decide +kernel
theorem dX2_goesOnAt_61 : decode cX2_goesOnAt 61 = .ok (.ireturn, 1) := by decide +kernel
theorem dX2_goesOnAt_62 : decode cX2_goesOnAt 62 = .ok (.aload_n 0, 1) := by decide +kernel
theorem dX2_goesOnAt_63 : decode cX2_goesOnAt 63 = .ok (.getfield 15, 3) := by decide +kernel
theorem dX2_goesOnAt_66 : decode cX2_goesOnAt 66 = .ok (.iload_n 2, 1) := by decide +kernel
theorem dX2_goesOnAt_67 : decode cX2_goesOnAt 67 = .ok (.iaload, 1) := by decide +kernel
theorem dX2_goesOnAt_68 : decode cX2_goesOnAt 68 = .ok (.aload_n 0, 1) := by decide +kernel
theorem dX2_goesOnAt_69 : decode cX2_goesOnAt 69 = .ok (.getfield 15, 3) := by decide +kernel
theorem dX2_goesOnAt_72 : decode cX2_goesOnAt 72 = .ok (.iload_n 3, 1) := by decide +kernel
theorem dX2_goesOnAt_73 : decode cX2_goesOnAt 73 = .ok (.iaload, 1) := by decide +kernel
theorem dX2_goesOnAt_74 : decode cX2_goesOnAt 74 = .ok (.if_icmp .ge 8, 3) := by decide +kernel
theorem dX2_goesOnAt_77 : decode cX2_goesOnAt 77 = .ok (.iload 4, 2) := by decide +kernel
theorem dX2_goesOnAt_79 : decode cX2_goesOnAt 79 = .ok (.goto 9, 3) := by decide +kernel
theorem dX2_goesOnAt_82 : decode cX2_goesOnAt 82 = .ok (.aload_n 0, 1) := by decide +kernel
theorem dX2_goesOnAt_83 : decode cX2_goesOnAt 83 = .ok (.getfield 26, 3) := by decide +kernel
theorem dX2_goesOnAt_86 : decode cX2_goesOnAt 86 = .ok (.iconst 1, 1) := by decide +kernel
theorem dX2_goesOnAt_87 : decode cX2_goesOnAt 87 = .ok (.iadd, 1) := by decide +kernel
theorem dX2_goesOnAt_88 : decode cX2_goesOnAt 88 = .ok (.ireturn, 1) := by decide +kernel
theorem dX2_goesOnAt_89 : decode cX2_goesOnAt 89 = .ok (.iload_n 2, 1) := by decide +kernel
theorem dX2_goesOnAt_90 : decode cX2_goesOnAt 90 = .ok (.ireturn, 1) := by decide +kernel
theorem dX2_goesOnAt_91 : decode cX2_goesOnAt 91 = .ok (.aload 5, 2) := by decide +kernel
theorem dX2_goesOnAt_93 : decode cX2_goesOnAt 93 = .ok (.iload_n 2, 1) := by decide +kernel
theorem dX2_goesOnAt_94 : decode cX2_goesOnAt 94 = .ok (.iaload, 1) := by decide +kernel
theorem dX2_goesOnAt_95 : decode cX2_goesOnAt 95 = .ok (.aload 5, 2) := by decide +kernel
theorem dX2_goesOnAt_97 : decode cX2_goesOnAt 97 = .ok (.iload_n 3, 1) := by decide +kernel
theorem dX2_goesOnAt_98 : decode cX2_goesOnAt 98 = .ok (.iaload, 1) := by decide +kernel
theorem dX2_goesOnAt_99 : decode cX2_goesOnAt 99 = .ok (.if_icmp .ne 8, 3) := by decide +kernel
theorem dX2_goesOnAt_102 : decode cX2_goesOnAt 102 = .ok (.iload 4, 2) := by decide +kernel
theorem dX2_goesOnAt_104 : decode cX2_goesOnAt 104 = .ok (.goto 9, 3) := by decide +kernel
theorem dX2_goesOnAt_107 : decode cX2_goesOnAt 107 = .ok (.aload_n 0, 1) := by decide +kernel
theorem dX2_goesOnAt_108 : decode cX2_goesOnAt 108 = .ok (.getfield 26, 3) := by decide +kernel
theorem dX2_goesOnAt_111 : decode cX2_goesOnAt 111 = .ok (.iconst 1, 1) := by decide +kernel
theorem dX2_goesOnAt_112 : decode cX2_goesOnAt 112 = .ok (.iadd, 1) := by decide +kernel
theorem dX2_goesOnAt_113 : decode cX2_goesOnAt 113 = .ok (.ireturn, 1) := by decide +kernel
theorem dX2_goesOnAt_114 : decode cX2_goesOnAt 114 = .ok (.aload_n 0, 1) := by decide +kernel
theorem dX2_goesOnAt_115 : decode cX2_goesOnAt 115 = .ok (.getfield 26, 3) := by decide +kernel
theorem dX2_goesOnAt_118 : decode cX2_goesOnAt 118 = .ok (.iconst 1, 1) := by decide +kernel
theorem dX2_goesOnAt_119 : decode cX2_goesOnAt 119 = .ok (.iadd, 1) := by decide +kernel
theorem dX2_goesOnAt_120 : decode cX2_goesOnAt 120 = .ok (.ireturn, 1) := by decide +kernel
theorem dX3_init_0 : decode cX3_init 0 = .ok (.aload_n 0, 1) := by decide +kernel
theorem dX3_init_1 : decode cX3_init 1 = .ok (.invokespecial 3, 3) := by decide +kernel
theorem dX3_init_4 : decode cX3_init 4 = .ok (.aload_n 0, 1) := by decide +kernel
theorem dX3_init_5 : decode cX3_init 5 = .ok (.iload_n 1, 1) := by decide +kernel
theorem dX3_init_6 : decode cX3_init 6 = .ok (.newarray .int, 2) := by decide +kernel
theorem dX3_init_8 : decode cX3_init 8 = .ok (.putfield 9, 3) := by decide +kernel
theorem dX3_init_11 : decode cX3_init 11 = .ok (.aload_n 0, 1) := by decide +kernel
theorem dX3_init_12 : decode cX3_init 12 = .ok (.iload_n 2, 1) := by decide +kernel
theorem dX3_init_13 : decode cX3_init 13 = .ok (.putfield 15, 3) := by decide +kernel
theorem dX3_init_16 : decode cX3_init 16 = .ok (.return_, 1) := by decide +kernel
theorem dX3_isFull_0 : decode cX3_isFull 0 = .ok (.aload_n 0, 1) := by decide +kernel
theorem dX3_isFull_1 : decode cX3_isFull 1 = .ok (.getfield 15, 3) := by decide +kernel
theorem dX3_isFull_4 : decode cX3_isFull 4 = .ok (.aload_n 0, 1) := by decide +kernel
theorem dX3_isFull_5 : decode cX3_isFull 5 = .ok (.getfield 9, 3) := by decide +kernel
theorem dX3_isFull_8 : decode cX3_isFull 8 = .ok (.arraylength, 1) := by decide +kernel
theorem dX3_isFull_9 : decode cX3_isFull 9 = .ok (.if_icmp .ne 7, 3) := by decide +kernel
theorem dX3_isFull_12 : decode cX3_isFull 12 = .ok (.iconst 1, 1) := by decide +kernel
theorem dX3_isFull_13 : decode cX3_isFull 13 = .ok (.goto 4, 3) := by decide +kernel
theorem dX3_isFull_16 : decode cX3_isFull 16 = .ok (.iconst 0, 1) := by decide +kernel
theorem dX3_isFull_17 : decode cX3_isFull 17 = .ok (.ireturn, 1) := by decide +kernel
theorem dX3_add_0 : decode cX3_add 0 = .ok (.aload_n 0, 1) := by decide +kernel
theorem dX3_add_1 : decode cX3_add 1 = .ok (.getfield 15, 3) := by decide +kernel
theorem dX3_add_4 : decode cX3_add 4 = .ok (.aload_n 0, 1) := by decide +kernel
theorem dX3_add_5 : decode cX3_add 5 = .ok (.getfield 9, 3) := by decide +kernel
theorem dX3_add_8 : decode cX3_add 8 = .ok (.arraylength, 1) := by decide +kernel
theorem dX3_add_9 : decode cX3_add 9 = .ok (.if_icmp .ge 23, 3) := by decide +kernel
theorem dX3_add_12 : decode cX3_add 12 = .ok (.aload_n 0, 1) := by decide +kernel
theorem dX3_add_13 : decode cX3_add 13 = .ok (.getfield 9, 3) := by decide +kernel
theorem dX3_add_16 : decode cX3_add 16 = .ok (.aload_n 0, 1) := by decide +kernel
theorem dX3_add_17 : decode cX3_add 17 = .ok (.getfield 15, 3) := by decide +kernel
theorem dX3_add_20 : decode cX3_add 20 = .ok (.iload_n 1, 1) := by decide +kernel
theorem dX3_add_21 : decode cX3_add 21 = .ok (.iastore, 1) := by decide +kernel
theorem dX3_add_22 : decode cX3_add 22 = .ok (.aload_n 0, 1) := by decide +kernel
theorem dX3_add_23 : decode cX3_add 23 = .ok (.dup, 1) := by decide +kernel
theorem dX3_add_24 : decode cX3_add 24 = .ok (.getfield 15, 3) := by decide +kernel
theorem dX3_add_27 : decode cX3_add 27 = .ok (.iconst 1, 1) := by decide +kernel
theorem dX3_add_28 : decode cX3_add 28 = .ok (.iadd, 1) := by decide +kernel
theorem dX3_add_29 : decode cX3_add 29 = .ok (.putfield 15, 3) := by decide +kernel
theorem dX3_add_32 : decode cX3_add 32 = .ok (.return_, 1) := by decide +kernel
theorem dX3_has_0 : decode cX3_has 0 = .ok (.iconst 0, 1) := by decide +kernel
theorem dX3_has_1 : decode cX3_has 1 = .ok (.istore_n 2, 1) := by decide +kernel
theorem dX3_has_2 : decode cX3_has 2 = .ok (.iload_n 2, 1) := by decide +kernel
theorem dX3_has_3 : decode cX3_has 3 = .ok (.aload_n 0, 1) := by decide +kernel
theorem dX3_has_4 : decode cX3_has 4 = .ok (.getfield 15, 3) := by decide +kernel
theorem dX3_has_7 : decode cX3_has 7 = .ok (.if_icmp .ge 21, 3) := by decide +kernel
theorem dX3_has_10 : decode cX3_has 10 = .ok (.aload_n 0, 1) := by decide +kernel
theorem dX3_has_11 : decode cX3_has 11 = .ok (.getfield 9, 3) := by decide +kernel
theorem dX3_has_14 : decode cX3_has 14 = .ok (.iload_n 2, 1) := by decide +kernel
theorem dX3_has_15 : decode cX3_has 15 = .ok (.iaload, 1) := by decide +kernel
theorem dX3_has_16 : decode cX3_has 16 = .ok (.iload_n 1, 1) := by decide +kernel
theorem dX3_has_17 : decode cX3_has 17 = .ok (.if_icmp .ne 5, 3) := by decide +kernel
theorem dX3_has_20 : decode cX3_has 20 = .ok (.iconst 1, 1) := by decide +kernel
theorem dX3_has_21 : decode cX3_has 21 = .ok (.ireturn, 1) := by decide +kernel
theorem dX3_has_22 : decode cX3_has 22 = .ok (.iinc 2 1, 3) := by decide +kernel
theorem dX3_has_25 : decode cX3_has 25 = .ok (.goto (-23), 3) := by decide +kernel
theorem dX3_has_28 : decode cX3_has 28 = .ok (.iconst 0, 1) := by decide +kernel
theorem dX3_has_29 : decode cX3_has 29 = .ok (.ireturn, 1) := by decide +kernel
theorem dX3_takeFirst_0 : decode cX3_takeFirst 0 = .ok (.aload_n 0, 1) := by decide +kernel
theorem dX3_takeFirst_1 : decode cX3_takeFirst 1 = .ok (.getfield 15, 3) := by decide +kernel
theorem dX3_takeFirst_4 : decode cX3_takeFirst 4 = .ok (.ifCond .ne 5, 3) := by decide +kernel
theorem dX3_takeFirst_7 : decode cX3_takeFirst 7 = .ok (.iconst 0, 1) := by decide +kernel
theorem dX3_takeFirst_8 : decode cX3_takeFirst 8 = .ok (.ireturn, 1) := by decide +kernel
theorem dX3_takeFirst_9 : decode cX3_takeFirst 9 = .ok (.aload_n 0, 1) := by decide +kernel
theorem dX3_takeFirst_10 : decode cX3_takeFirst 10 = .ok (.getfield 9, 3) := by decide +kernel
theorem dX3_takeFirst_13 : decode cX3_takeFirst 13 = .ok (.iconst 0, 1) := by decide +kernel
theorem dX3_takeFirst_14 : decode cX3_takeFirst 14 = .ok (.iaload, 1) := by decide +kernel
theorem dX3_takeFirst_15 : decode cX3_takeFirst 15 = .ok (.istore_n 1, 1) := by decide +kernel
theorem dX3_takeFirst_16 : decode cX3_takeFirst 16 = .ok (.aload_n 0, 1) := by decide +kernel
theorem dX3_takeFirst_17 : decode cX3_takeFirst 17 = .ok (.dup, 1) := by decide +kernel
theorem dX3_takeFirst_18 : decode cX3_takeFirst 18 = .ok (.getfield 15, 3) := by decide +kernel
theorem dX3_takeFirst_21 : decode cX3_takeFirst 21 = .ok (.iconst 1, 1) := by decide +kernel
theorem dX3_takeFirst_22 : decode cX3_takeFirst 22 = .ok (.isub, 1) := by decide +kernel
theorem dX3_takeFirst_23 : decode cX3_takeFirst 23 = .ok (.putfield 15, 3) := by decide +kernel
theorem dX3_takeFirst_26 : decode cX3_takeFirst 26 = .ok (.aload_n 0, 1) := by decide +kernel
theorem dX3_takeFirst_27 : decode cX3_takeFirst 27 = .ok (.getfield 9, 3) := by decide +kernel
theorem dX3_takeFirst_30 : decode cX3_takeFirst 30 = .ok (.iconst 1, 1) := by decide +kernel
theorem dX3_takeFirst_31 : decode cX3_takeFirst 31 = .ok (.aload_n 0, 1) := by decide +kernel
theorem dX3_takeFirst_32 : decode cX3_takeFirst 32 = .ok (.getfield 9, 3) := by decide +kernel
theorem dX3_takeFirst_35 : decode cX3_takeFirst 35 = .ok (.iconst 0, 1) := by decide +kernel
theorem dX3_takeFirst_36 : decode cX3_takeFirst 36 = .ok (.aload_n 0, 1) := by decide +kernel
theorem dX3_takeFirst_37 : decode cX3_takeFirst 37 = .ok (.getfield 15, 3) := by decide +kernel
theorem dX3_takeFirst_40 : decode cX3_takeFirst 40 = .ok (.invokestatic 19, 3) := by decide +kernel
theorem dX3_takeFirst_43 : decode cX3_takeFirst 43 = .ok (.iload_n 1, 1) := by decide +kernel
theorem dX3_takeFirst_44 : decode cX3_takeFirst 44 = .ok (.ireturn, 1) := by decide +kernel
theorem dX3_takeLast_0 : decode cX3_takeLast 0 = .ok (.aload_n 0, 1) := by decide +kernel
theorem dX3_takeLast_1 : decode cX3_takeLast 1 = .ok (.getfield 15, 3) := by decide +kernel
theorem dX3_takeLast_4 : decode cX3_takeLast 4 = .ok (.ifCond .ne 5, 3) := by decide +kernel
theorem dX3_takeLast_7 : decode cX3_takeLast 7 = .ok (.iconst 0, 1) := by decide +kernel
theorem dX3_takeLast_8 : decode cX3_takeLast 8 = .ok (.ireturn, 1) := by decide +kernel
theorem dX3_takeLast_9 : decode cX3_takeLast 9 = .ok (.aload_n 0, 1) := by decide +kernel
theorem dX3_takeLast_10 : decode cX3_takeLast 10 = .ok (.dup, 1) := by decide +kernel
theorem dX3_takeLast_11 : decode cX3_takeLast 11 = .ok (.getfield 15, 3) := by decide +kernel
theorem dX3_takeLast_14 : decode cX3_takeLast 14 = .ok (.iconst 1, 1) := by decide +kernel
theorem dX3_takeLast_15 : decode cX3_takeLast 15 = .ok (.isub, 1) := by decide +kernel
theorem dX3_takeLast_16 : decode cX3_takeLast 16 = .ok (.putfield 15, 3) := by decide +kernel
theorem dX3_takeLast_19 : decode cX3_takeLast 19 = .ok (.aload_n 0, 1) := by decide +kernel
theorem dX3_takeLast_20 : decode cX3_takeLast 20 = .ok (.getfield 9, 3) := by decide +kernel
theorem dX3_takeLast_23 : decode cX3_takeLast 23 = .ok (.aload_n 0, 1) := by decide +kernel
theorem dX3_takeLast_24 : decode cX3_takeLast 24 = .ok (.getfield 15, 3) := by decide +kernel
theorem dX3_takeLast_27 : decode cX3_takeLast 27 = .ok (.iaload, 1) := by decide +kernel
theorem dX3_takeLast_28 : decode cX3_takeLast 28 = .ok (.ireturn, 1) := by decide +kernel
theorem dX4_init_0 : decode cX4_init 0 = .ok (.aload_n 0, 1) := by decide +kernel
theorem dX4_init_1 : decode cX4_init 1 = .ok (.invokespecial 1, 3) := by decide +kernel
theorem dX4_init_4 : decode cX4_init 4 = .ok (.aload_n 0, 1) := by decide +kernel
theorem dX4_init_5 : decode cX4_init 5 = .ok (.new 7, 3) := by decide +kernel
theorem dX4_init_8 : decode cX4_init 8 = .ok (.dup, 1) := by decide +kernel
theorem dX4_init_9 : decode cX4_init 9 = .ok (.iload_n 1, 1) := by decide +kernel
theorem dX4_init_10 : decode cX4_init 10 = .ok (.bipush 16, 2) := by decide +kernel
theorem dX4_init_12 : decode cX4_init 12 = .ok (.sipush 128, 3) := by decide +kernel
theorem dX4_init_15 : decode cX4_init 15 = .ok (.invokestatic 9, 3) := by decide +kernel
theorem dX4_init_18 : decode cX4_init 18 = .ok (.iload_n 2, 1) := by decide +kernel
theorem dX4_init_19 : decode cX4_init 19 = .ok (.iconst 0, 1) := by decide +kernel
theorem dX4_init_20 : decode cX4_init 20 = .ok (.bipush 6, 2) := by decide +kernel
theorem dX4_init_22 : decode cX4_init 22 = .ok (.invokestatic 9, 3) := by decide +kernel
theorem dX4_init_25 : decode cX4_init 25 = .ok (.iload_n 3, 1) := by decide +kernel
theorem dX4_init_26 : decode cX4_init 26 = .ok (.iconst 0, 1) := by decide +kernel
theorem dX4_init_27 : decode cX4_init 27 = .ok (.bipush 6, 2) := by decide +kernel
theorem dX4_init_29 : decode cX4_init 29 = .ok (.invokestatic 9, 3) := by decide +kernel
theorem dX4_init_32 : decode cX4_init 32 = .ok (.iload 4, 2) := by decide +kernel
theorem dX4_init_34 : decode cX4_init 34 = .ok (.iconst 2, 1) := by decide +kernel
theorem dX4_init_35 : decode cX4_init 35 = .ok (.bipush 64, 2) := by decide +kernel
theorem dX4_init_37 : decode cX4_init 37 = .ok (.invokestatic 9, 3) := by decide +kernel
theorem dX4_init_40 : decode cX4_init 40 = .ok (.invokespecial 15, 3) := by decide +kernel
theorem dX4_init_43 : decode cX4_init 43 = .ok (.putfield 18, 3) := by decide +kernel
theorem dX4_init_46 : decode cX4_init 46 = .ok (.aload_n 0, 1) := by decide +kernel
theorem dX4_init_47 : decode cX4_init 47 = .ok (.new 22, 3) := by decide +kernel
theorem dX4_init_50 : decode cX4_init 50 = .ok (.dup, 1) := by decide +kernel
theorem dX4_init_51 : decode cX4_init 51 = .ok (.aload_n 0, 1) := by decide +kernel
theorem dX4_init_52 : decode cX4_init 52 = .ok (.getfield 18, 3) := by decide +kernel
theorem dX4_init_55 : decode cX4_init 55 = .ok (.invokespecial 24, 3) := by decide +kernel
theorem dX4_init_58 : decode cX4_init 58 = .ok (.putfield 27, 3) := by decide +kernel
theorem dX4_init_61 : decode cX4_init 61 = .ok (.return_, 1) := by decide +kernel
theorem dX4_make_0 : decode cX4_make 0 = .ok (.iload_n 1, 1) := by decide +kernel
theorem dX4_make_1 : decode cX4_make 1 = .ok (.invokestatic 31, 3) := by decide +kernel
theorem dX4_make_4 : decode cX4_make 4 = .ok (.iload_n 2, 1) := by decide +kernel
theorem dX4_make_5 : decode cX4_make 5 = .ok (.ifCond .lt 9, 3) := by decide +kernel
theorem dX4_make_8 : decode cX4_make 8 = .ok (.iload_n 2, 1) := by decide +kernel
theorem dX4_make_9 : decode cX4_make 9 = .ok (.bipush 6, 2) := by decide +kernel
theorem dX4_make_11 : decode cX4_make 11 = .ok (.if_icmp .le 11, 3) := by decide +kernel
theorem dX4_make_14 : decode cX4_make 14 = .ok (.new 35, 3) := by decide +kernel
theorem dX4_make_17 : decode cX4_make 17 = .ok (.dup, 1) := by decide +kernel
theorem dX4_make_18 : decode cX4_make 18 = .ok (.invokespecial 37, 3) := by decide +kernel
theorem dX4_make_21 : decode cX4_make 21 = .ok (.athrow, 1) := by decide +kernel
theorem dX4_make_22 : decode cX4_make 22 = .ok (.aload_n 0, 1) := by decide +kernel
theorem dX4_make_23 : decode cX4_make 23 = .ok (.getfield 18, 3) := by decide +kernel
theorem dX4_make_26 : decode cX4_make 26 = .ok (.iload_n 2, 1) := by decide +kernel
theorem dX4_make_27 : decode cX4_make 27 = .ok (.iload_n 3, 1) := by decide +kernel
theorem dX4_make_28 : decode cX4_make 28 = .ok (.iload 4, 2) := by decide +kernel
theorem dX4_make_30 : decode cX4_make 30 = .ok (.invokevirtual 38, 3) := by decide +kernel
theorem dX4_make_33 : decode cX4_make 33 = .ok (.istore 5, 2) := by decide +kernel
theorem dX4_make_35 : decode cX4_make 35 = .ok (.iload 5, 2) := by decide +kernel
theorem dX4_make_37 : decode cX4_make 37 = .ok (.ifCond .eq 17, 3) := by decide +kernel
theorem dX4_make_40 : decode cX4_make 40 = .ok (.aload_n 0, 1) := by decide +kernel
theorem dX4_make_41 : decode cX4_make 41 = .ok (.getfield 18, 3) := by decide +kernel
theorem dX4_make_44 : decode cX4_make 44 = .ok (.getfield 42, 3) := by decide +kernel
theorem dX4_make_47 : decode cX4_make 47 = .ok (.getfield 46, 3) := by decide +kernel
theorem dX4_make_50 : decode cX4_make 50 = .ok (.iload_n 1, 1) := by decide +kernel
theorem dX4_make_51 : decode cX4_make 51 = .ok (.iload 5, 2) := by decide +kernel
theorem dX4_make_53 : decode cX4_make 53 = .ok (.iastore, 1) := by decide +kernel
theorem dX4_make_54 : decode cX4_make 54 = .ok (.iload 5, 2) := by decide +kernel
theorem dX4_make_56 : decode cX4_make 56 = .ok (.ireturn, 1) := by decide +kernel
theorem dX4_push_0 : decode cX4_push 0 = .ok (.iload_n 1, 1) := by decide +kernel
theorem dX4_push_1 : decode cX4_push 1 = .ok (.invokestatic 31, 3) := by decide +kernel
theorem dX4_push_4 : decode cX4_push 4 = .ok (.iload_n 3, 1) := by decide +kernel
theorem dX4_push_5 : decode cX4_push 5 = .ok (.iconst 1, 1) := by decide +kernel
theorem dX4_push_6 : decode cX4_push 6 = .ok (.if_icmp .lt 9, 3) := by decide +kernel
theorem dX4_push_9 : decode cX4_push 9 = .ok (.iload_n 3, 1) := by decide +kernel
theorem dX4_push_10 : decode cX4_push 10 = .ok (.bipush 40, 2) := by decide +kernel
theorem dX4_push_12 : decode cX4_push 12 = .ok (.if_icmp .le 11, 3) := by decide +kernel
theorem dX4_push_15 : decode cX4_push 15 = .ok (.new 35, 3) := by decide +kernel
theorem dX4_push_18 : decode cX4_push 18 = .ok (.dup, 1) := by decide +kernel
theorem dX4_push_19 : decode cX4_push 19 = .ok (.invokespecial 37, 3) := by decide +kernel
theorem dX4_push_22 : decode cX4_push 22 = .ok (.athrow, 1) := by decide +kernel
theorem dX4_push_23 : decode cX4_push 23 = .ok (.iconst 0, 1) := by decide +kernel
theorem dX4_push_24 : decode cX4_push 24 = .ok (.istore 4, 2) := by decide +kernel
theorem dX4_push_26 : decode cX4_push 26 = .ok (.iload 4, 2) := by decide +kernel
theorem dX4_push_28 : decode cX4_push 28 = .ok (.iload_n 3, 1) := by decide +kernel
theorem dX4_push_29 : decode cX4_push 29 = .ok (.if_icmp .ge 68, 3) := by decide +kernel
theorem dX4_push_32 : decode cX4_push 32 = .ok (.aload_n 0, 1) := by decide +kernel
theorem dX4_push_33 : decode cX4_push 33 = .ok (.getfield 18, 3) := by decide +kernel
theorem dX4_push_36 : decode cX4_push 36 = .ok (.iconst 2, 1) := by decide +kernel
theorem dX4_push_37 : decode cX4_push 37 = .ok (.iload_n 2, 1) := by decide +kernel
theorem dX4_push_38 : decode cX4_push 38 = .ok (.iload 4, 2) := by decide +kernel
theorem dX4_push_40 : decode cX4_push 40 = .ok (.iadd, 1) := by decide +kernel
theorem dX4_push_41 : decode cX4_push 41 = .ok (.iconst 0, 1) := by decide +kernel
theorem dX4_push_42 : decode cX4_push 42 = .ok (.invokevirtual 38, 3) := by decide +kernel
theorem dX4_push_45 : decode cX4_push 45 = .ok (.istore 5, 2) := by decide +kernel
theorem dX4_push_47 : decode cX4_push 47 = .ok (.iload 5, 2) := by decide +kernel
theorem dX4_push_49 : decode cX4_push 49 = .ok (.ifCond .ne 6, 3) := by decide +kernel
theorem dX4_push_52 : decode cX4_push 52 = .ok (.iload 4, 2) := by decide +kernel
theorem dX4_push_54 : decode cX4_push 54 = .ok (.ireturn, 1) := by decide +kernel
theorem dX4_push_55 : decode cX4_push 55 = .ok (.aload_n 0, 1) := by decide +kernel
theorem dX4_push_56 : decode cX4_push 56 = .ok (.getfield 18, 3) := by decide +kernel
theorem dX4_push_59 : decode cX4_push 59 = .ok (.iload 5, 2) := by decide +kernel
theorem dX4_push_61 : decode cX4_push 61 = .ok (.iconst 0, 1) := by decide +kernel
theorem dX4_push_62 : decode cX4_push 62 = .ok (.aload_n 0, 1) := by decide +kernel
theorem dX4_push_63 : decode cX4_push 63 = .ok (.getfield 18, 3) := by decide +kernel
theorem dX4_push_66 : decode cX4_push 66 = .ok (.getfield 42, 3) := by decide +kernel
theorem dX4_push_69 : decode cX4_push 69 = .ok (.getfield 46, 3) := by decide +kernel
theorem dX4_push_72 : decode cX4_push 72 = .ok (.iload_n 1, 1) := by decide +kernel
theorem dX4_push_73 : decode cX4_push 73 = .ok (.iaload, 1) := by decide +kernel
theorem dX4_push_74 : decode cX4_push 74 = .ok (.invokevirtual 52, 3) := by decide +kernel
theorem dX4_push_77 : decode cX4_push 77 = .ok (.aload_n 0, 1) := by decide +kernel
theorem dX4_push_78 : decode cX4_push 78 = .ok (.getfield 18, 3) := by decide +kernel
theorem dX4_push_81 : decode cX4_push 81 = .ok (.getfield 42, 3) := by decide +kernel
theorem dX4_push_84 : decode cX4_push 84 = .ok (.getfield 46, 3) := by decide +kernel
theorem dX4_push_87 : decode cX4_push 87 = .ok (.iload_n 1, 1) := by decide +kernel
theorem dX4_push_88 : decode cX4_push 88 = .ok (.iload 5, 2) := by decide +kernel
theorem dX4_push_90 : decode cX4_push 90 = .ok (.iastore, 1) := by decide +kernel
theorem dX4_push_91 : decode cX4_push 91 = .ok (.iinc 4 1, 3) := by decide +kernel
theorem dX4_push_94 : decode cX4_push 94 = .ok (.goto (-68), 3) := by decide +kernel
theorem dX4_push_97 : decode cX4_push 97 = .ok (.iload_n 3, 1) := by decide +kernel
theorem dX4_push_98 : decode cX4_push 98 = .ok (.ireturn, 1) := by decide +kernel
theorem dX4_put_0 : decode cX4_put 0 = .ok (.iload_n 1, 1) := by decide +kernel
theorem dX4_put_1 : decode cX4_put 1 = .ok (.invokestatic 31, 3) := by decide +kernel
theorem dX4_put_4 : decode cX4_put 4 = .ok (.iload_n 3, 1) := by decide +kernel
theorem dX4_put_5 : decode cX4_put 5 = .ok (.invokestatic 56, 3) := by decide +kernel
theorem dX4_put_8 : decode cX4_put 8 = .ok (.aload_n 0, 1) := by decide +kernel
theorem dX4_put_9 : decode cX4_put 9 = .ok (.iload_n 1, 1) := by decide +kernel
theorem dX4_put_10 : decode cX4_put 10 = .ok (.invokevirtual 59, 3) := by decide +kernel
theorem dX4_put_13 : decode cX4_put 13 = .ok (.istore 4, 2) := by decide +kernel
theorem dX4_put_15 : decode cX4_put 15 = .ok (.aload_n 0, 1) := by decide +kernel
theorem dX4_put_16 : decode cX4_put 16 = .ok (.iload 4, 2) := by decide +kernel
theorem dX4_put_18 : decode cX4_put 18 = .ok (.iload_n 2, 1) := by decide +kernel
theorem dX4_put_19 : decode cX4_put 19 = .ok (.invokevirtual 63, 3) := by decide +kernel
theorem dX4_put_22 : decode cX4_put 22 = .ok (.aload_n 0, 1) := by decide +kernel
theorem dX4_put_23 : decode cX4_put 23 = .ok (.getfield 18, 3) := by decide +kernel
theorem dX4_put_26 : decode cX4_put 26 = .ok (.iload 4, 2) := by decide +kernel
theorem dX4_put_28 : decode cX4_put 28 = .ok (.iload_n 2, 1) := by decide +kernel
theorem dX4_put_29 : decode cX4_put 29 = .ok (.invokevirtual 67, 3) := by decide +kernel
theorem dX4_put_32 : decode cX4_put 32 = .ok (.istore 5, 2) := by decide +kernel
theorem dX4_put_34 : decode cX4_put 34 = .ok (.aload_n 0, 1) := by decide +kernel
theorem dX4_put_35 : decode cX4_put 35 = .ok (.getfield 18, 3) := by decide +kernel
theorem dX4_put_38 : decode cX4_put 38 = .ok (.iload 4, 2) := by decide +kernel
theorem dX4_put_40 : decode cX4_put 40 = .ok (.iload_n 2, 1) := by decide +kernel
theorem dX4_put_41 : decode cX4_put 41 = .ok (.aload_n 0, 1) := by decide +kernel
theorem dX4_put_42 : decode cX4_put 42 = .ok (.getfield 18, 3) := by decide +kernel
theorem dX4_put_45 : decode cX4_put 45 = .ok (.iload_n 3, 1) := by decide +kernel
theorem dX4_put_46 : decode cX4_put 46 = .ok (.invokevirtual 71, 3) := by decide +kernel
theorem dX4_put_49 : decode cX4_put 49 = .ok (.invokevirtual 52, 3) := by decide +kernel
theorem dX4_put_52 : decode cX4_put 52 = .ok (.iload 5, 2) := by decide +kernel
theorem dX4_put_54 : decode cX4_put 54 = .ok (.ireturn, 1) := by decide +kernel
theorem dX4_get_0 : decode cX4_get 0 = .ok (.iload_n 1, 1) := by decide +kernel
theorem dX4_get_1 : decode cX4_get 1 = .ok (.invokestatic 31, 3) := by decide +kernel
theorem dX4_get_4 : decode cX4_get 4 = .ok (.iload_n 2, 1) := by decide +kernel
theorem dX4_get_5 : decode cX4_get 5 = .ok (.invokestatic 31, 3) := by decide +kernel
theorem dX4_get_8 : decode cX4_get 8 = .ok (.aload_n 0, 1) := by decide +kernel
theorem dX4_get_9 : decode cX4_get 9 = .ok (.iload_n 2, 1) := by decide +kernel
theorem dX4_get_10 : decode cX4_get 10 = .ok (.invokevirtual 59, 3) := by decide +kernel
theorem dX4_get_13 : decode cX4_get 13 = .ok (.istore 4, 2) := by decide +kernel
theorem dX4_get_15 : decode cX4_get 15 = .ok (.aload_n 0, 1) := by decide +kernel
theorem dX4_get_16 : decode cX4_get 16 = .ok (.iload 4, 2) := by decide +kernel
theorem dX4_get_18 : decode cX4_get 18 = .ok (.iload_n 3, 1) := by decide +kernel
theorem dX4_get_19 : decode cX4_get 19 = .ok (.invokevirtual 63, 3) := by decide +kernel
theorem dX4_get_22 : decode cX4_get 22 = .ok (.aload_n 0, 1) := by decide +kernel
theorem dX4_get_23 : decode cX4_get 23 = .ok (.getfield 18, 3) := by decide +kernel
theorem dX4_get_26 : decode cX4_get 26 = .ok (.getfield 42, 3) := by decide +kernel
theorem dX4_get_29 : decode cX4_get 29 = .ok (.getfield 46, 3) := by decide +kernel
theorem dX4_get_32 : decode cX4_get 32 = .ok (.iload_n 1, 1) := by decide +kernel
theorem dX4_get_33 : decode cX4_get 33 = .ok (.aload_n 0, 1) := by decide +kernel
theorem dX4_get_34 : decode cX4_get 34 = .ok (.getfield 18, 3) := by decide +kernel
theorem dX4_get_37 : decode cX4_get 37 = .ok (.iload 4, 2) := by decide +kernel
theorem dX4_get_39 : decode cX4_get 39 = .ok (.iload_n 3, 1) := by decide +kernel
theorem dX4_get_40 : decode cX4_get 40 = .ok (.invokevirtual 67, 3) := by decide +kernel
theorem dX4_get_43 : decode cX4_get 43 = .ok (.iastore, 1) := by decide +kernel
theorem dX4_get_44 : decode cX4_get 44 = .ok (.aload_n 0, 1) := by decide +kernel
theorem dX4_get_45 : decode cX4_get 45 = .ok (.getfield 18, 3) := by decide +kernel
theorem dX4_get_48 : decode cX4_get 48 = .ok (.getfield 42, 3) := by decide +kernel
theorem dX4_get_51 : decode cX4_get 51 = .ok (.getfield 46, 3) := by decide +kernel
theorem dX4_get_54 : decode cX4_get 54 = .ok (.iload_n 1, 1) := by decide +kernel
theorem dX4_get_55 : decode cX4_get 55 = .ok (.iaload, 1) := by decide +kernel
theorem dX4_get_56 : decode cX4_get 56 = .ok (.ireturn, 1) := by decide +kernel
theorem dX4_move_0 : decode cX4_move 0 = .ok (.iload_n 1, 1) := by decide +kernel
theorem dX4_move_1 : decode cX4_move 1 = .ok (.invokestatic 31, 3) := by decide +kernel
theorem dX4_move_4 : decode cX4_move 4 = .ok (.iload_n 2, 1) := by decide +kernel
theorem dX4_move_5 : decode cX4_move 5 = .ok (.invokestatic 56, 3) := by decide +kernel
theorem dX4_move_8 : decode cX4_move 8 = .ok (.aload_n 0, 1) := by decide +kernel
theorem dX4_move_9 : decode cX4_move 9 = .ok (.getfield 18, 3) := by decide +kernel
theorem dX4_move_12 : decode cX4_move 12 = .ok (.getfield 42, 3) := by decide +kernel
theorem dX4_move_15 : decode cX4_move 15 = .ok (.getfield 46, 3) := by decide +kernel
theorem dX4_move_18 : decode cX4_move 18 = .ok (.iload_n 1, 1) := by decide +kernel
theorem dX4_move_19 : decode cX4_move 19 = .ok (.aload_n 0, 1) := by decide +kernel
theorem dX4_move_20 : decode cX4_move 20 = .ok (.getfield 18, 3) := by decide +kernel
theorem dX4_move_23 : decode cX4_move 23 = .ok (.iload_n 2, 1) := by decide +kernel
theorem dX4_move_24 : decode cX4_move 24 = .ok (.invokevirtual 71, 3) := by decide +kernel
theorem dX4_move_27 : decode cX4_move 27 = .ok (.iastore, 1) := by decide +kernel
theorem dX4_move_28 : decode cX4_move 28 = .ok (.aload_n 0, 1) := by decide +kernel
theorem dX4_move_29 : decode cX4_move 29 = .ok (.getfield 18, 3) := by decide +kernel
theorem dX4_move_32 : decode cX4_move 32 = .ok (.getfield 42, 3) := by decide +kernel
theorem dX4_move_35 : decode cX4_move 35 = .ok (.getfield 46, 3) := by decide +kernel
theorem dX4_move_38 : decode cX4_move 38 = .ok (.iload_n 1, 1) := by decide +kernel
theorem dX4_move_39 : decode cX4_move 39 = .ok (.iaload, 1) := by decide +kernel
theorem dX4_move_40 : decode cX4_move 40 = .ok (.ireturn, 1) := by decide +kernel
theorem dX4_keep_0 : decode cX4_keep 0 = .ok (.iload_n 1, 1) := by decide +kernel
theorem dX4_keep_1 : decode cX4_keep 1 = .ok (.invokestatic 31, 3) := by decide +kernel
theorem dX4_keep_4 : decode cX4_keep 4 = .ok (.aload_n 0, 1) := by decide +kernel
theorem dX4_keep_5 : decode cX4_keep 5 = .ok (.getfield 18, 3) := by decide +kernel
theorem dX4_keep_8 : decode cX4_keep 8 = .ok (.getfield 74, 3) := by decide +kernel
theorem dX4_keep_11 : decode cX4_keep 11 = .ok (.invokevirtual 77, 3) := by decide +kernel
theorem dX4_keep_14 : decode cX4_keep 14 = .ok (.ifCond .eq 11, 3) := by decide +kernel
theorem dX4_keep_17 : decode cX4_keep 17 = .ok (.new 81, 3) := by decide +kernel
theorem dX4_keep_20 : decode cX4_keep 20 = .ok (.dup, 1) := by decide +kernel
theorem dX4_keep_21 : decode cX4_keep 21 = .ok (.invokespecial 83, 3) := by decide +kernel
theorem dX4_keep_24 : decode cX4_keep 24 = .ok (.athrow, 1) := by decide +kernel
theorem dX4_keep_25 : decode cX4_keep 25 = .ok (.aload_n 0, 1) := by decide +kernel
theorem dX4_keep_26 : decode cX4_keep 26 = .ok (.getfield 18, 3) := by decide +kernel
theorem dX4_keep_29 : decode cX4_keep 29 = .ok (.getfield 74, 3) := by decide +kernel
theorem dX4_keep_32 : decode cX4_keep 32 = .ok (.aload_n 0, 1) := by decide +kernel
theorem dX4_keep_33 : decode cX4_keep 33 = .ok (.getfield 18, 3) := by decide +kernel
theorem dX4_keep_36 : decode cX4_keep 36 = .ok (.getfield 42, 3) := by decide +kernel
theorem dX4_keep_39 : decode cX4_keep 39 = .ok (.getfield 46, 3) := by decide +kernel
theorem dX4_keep_42 : decode cX4_keep 42 = .ok (.iload_n 1, 1) := by decide +kernel
theorem dX4_keep_43 : decode cX4_keep 43 = .ok (.iaload, 1) := by decide +kernel
theorem dX4_keep_44 : decode cX4_keep 44 = .ok (.invokevirtual 84, 3) := by decide +kernel
theorem dX4_keep_47 : decode cX4_keep 47 = .ok (.aload_n 0, 1) := by decide +kernel
theorem dX4_keep_48 : decode cX4_keep 48 = .ok (.getfield 18, 3) := by decide +kernel
theorem dX4_keep_51 : decode cX4_keep 51 = .ok (.getfield 74, 3) := by decide +kernel
theorem dX4_keep_54 : decode cX4_keep 54 = .ok (.getfield 87, 3) := by decide +kernel
theorem dX4_keep_57 : decode cX4_keep 57 = .ok (.ireturn, 1) := by decide +kernel
theorem dX4_back_0 : decode cX4_back 0 = .ok (.iload_n 1, 1) := by decide +kernel
theorem dX4_back_1 : decode cX4_back 1 = .ok (.invokestatic 31, 3) := by decide +kernel
theorem dX4_back_4 : decode cX4_back 4 = .ok (.aload_n 0, 1) := by decide +kernel
theorem dX4_back_5 : decode cX4_back 5 = .ok (.getfield 18, 3) := by decide +kernel
theorem dX4_back_8 : decode cX4_back 8 = .ok (.getfield 74, 3) := by decide +kernel
theorem dX4_back_11 : decode cX4_back 11 = .ok (.getfield 87, 3) := by decide +kernel
theorem dX4_back_14 : decode cX4_back 14 = .ok (.ifCond .ne 11, 3) := by decide +kernel
theorem dX4_back_17 : decode cX4_back 17 = .ok (.new 81, 3) := by decide +kernel
theorem dX4_back_20 : decode cX4_back 20 = .ok (.dup, 1) := by decide +kernel
theorem dX4_back_21 : decode cX4_back 21 = .ok (.invokespecial 83, 3) := by decide +kernel
theorem dX4_back_24 : decode cX4_back 24 = .ok (.athrow, 1) := by decide +kernel
theorem dX4_back_25 : decode cX4_back 25 = .ok (.aload_n 0, 1) := by decide +kernel
theorem dX4_back_26 : decode cX4_back 26 = .ok (.getfield 18, 3) := by decide +kernel
theorem dX4_back_29 : decode cX4_back 29 = .ok (.getfield 42, 3) := by decide +kernel
theorem dX4_back_32 : decode cX4_back 32 = .ok (.getfield 46, 3) := by decide +kernel
theorem dX4_back_35 : decode cX4_back 35 = .ok (.iload_n 1, 1) := by decide +kernel
theorem dX4_back_36 : decode cX4_back 36 = .ok (.aload_n 0, 1) := by decide +kernel
theorem dX4_back_37 : decode cX4_back 37 = .ok (.getfield 18, 3) := by decide +kernel
theorem dX4_back_40 : decode cX4_back 40 = .ok (.getfield 74, 3) := by decide +kernel
theorem dX4_back_43 : decode cX4_back 43 = .ok (.invokevirtual 91, 3) := by decide +kernel
theorem dX4_back_46 : decode cX4_back 46 = .ok (.iastore, 1) := by decide +kernel
theorem dX4_back_47 : decode cX4_back 47 = .ok (.aload_n 0, 1) := by decide +kernel
theorem dX4_back_48 : decode cX4_back 48 = .ok (.getfield 18, 3) := by decide +kernel
theorem dX4_back_51 : decode cX4_back 51 = .ok (.getfield 42, 3) := by decide +kernel
theorem dX4_back_54 : decode cX4_back 54 = .ok (.getfield 46, 3) := by decide +kernel
theorem dX4_back_57 : decode cX4_back 57 = .ok (.iload_n 1, 1) := by decide +kernel
theorem dX4_back_58 : decode cX4_back 58 = .ok (.iaload, 1) := by decide +kernel
theorem dX4_back_59 : decode cX4_back 59 = .ok (.ireturn, 1) := by decide +kernel
theorem dX4_weak_0 : decode cX4_weak 0 = .ok (.iload_n 1, 1) := by decide +kernel
theorem dX4_weak_1 : decode cX4_weak 1 = .ok (.invokestatic 95, 3) := by decide +kernel
theorem dX4_weak_4 : decode cX4_weak 4 = .ok (.iload_n 2, 1) := by decide +kernel
theorem dX4_weak_5 : decode cX4_weak 5 = .ok (.invokestatic 31, 3) := by decide +kernel
theorem dX4_weak_8 : decode cX4_weak 8 = .ok (.aload_n 0, 1) := by decide +kernel
theorem dX4_weak_9 : decode cX4_weak 9 = .ok (.getfield 18, 3) := by decide +kernel
theorem dX4_weak_12 : decode cX4_weak 12 = .ok (.getfield 98, 3) := by decide +kernel
theorem dX4_weak_15 : decode cX4_weak 15 = .ok (.getfield 46, 3) := by decide +kernel
theorem dX4_weak_18 : decode cX4_weak 18 = .ok (.iload_n 1, 1) := by decide +kernel
theorem dX4_weak_19 : decode cX4_weak 19 = .ok (.iaload, 1) := by decide +kernel
theorem dX4_weak_20 : decode cX4_weak 20 = .ok (.istore_n 3, 1) := by decide +kernel
theorem dX4_weak_21 : decode cX4_weak 21 = .ok (.aload_n 0, 1) := by decide +kernel
theorem dX4_weak_22 : decode cX4_weak 22 = .ok (.getfield 18, 3) := by decide +kernel
theorem dX4_weak_25 : decode cX4_weak 25 = .ok (.getfield 98, 3) := by decide +kernel
theorem dX4_weak_28 : decode cX4_weak 28 = .ok (.getfield 46, 3) := by decide +kernel
theorem dX4_weak_31 : decode cX4_weak 31 = .ok (.iload_n 1, 1) := by decide +kernel
theorem dX4_weak_32 : decode cX4_weak 32 = .ok (.aload_n 0, 1) := by decide +kernel
theorem dX4_weak_33 : decode cX4_weak 33 = .ok (.getfield 18, 3) := by decide +kernel
theorem dX4_weak_36 : decode cX4_weak 36 = .ok (.getfield 42, 3) := by decide +kernel
theorem dX4_weak_39 : decode cX4_weak 39 = .ok (.getfield 46, 3) := by decide +kernel
theorem dX4_weak_42 : decode cX4_weak 42 = .ok (.iload_n 2, 1) := by decide +kernel
theorem dX4_weak_43 : decode cX4_weak 43 = .ok (.iaload, 1) := by decide +kernel
theorem dX4_weak_44 : decode cX4_weak 44 = .ok (.iastore, 1) := by decide +kernel
theorem dX4_weak_45 : decode cX4_weak 45 = .ok (.iload_n 3, 1) := by decide +kernel
theorem dX4_weak_46 : decode cX4_weak 46 = .ok (.ireturn, 1) := by decide +kernel
theorem dX4_strong_0 : decode cX4_strong 0 = .ok (.iload_n 1, 1) := by decide +kernel
theorem dX4_strong_1 : decode cX4_strong 1 = .ok (.invokestatic 31, 3) := by decide +kernel
theorem dX4_strong_4 : decode cX4_strong 4 = .ok (.iload_n 2, 1) := by decide +kernel
theorem dX4_strong_5 : decode cX4_strong 5 = .ok (.invokestatic 95, 3) := by decide +kernel
theorem dX4_strong_8 : decode cX4_strong 8 = .ok (.aload_n 0, 1) := by decide +kernel
theorem dX4_strong_9 : decode cX4_strong 9 = .ok (.getfield 18, 3) := by decide +kernel
theorem dX4_strong_12 : decode cX4_strong 12 = .ok (.getfield 42, 3) := by decide +kernel
theorem dX4_strong_15 : decode cX4_strong 15 = .ok (.getfield 46, 3) := by decide +kernel
theorem dX4_strong_18 : decode cX4_strong 18 = .ok (.iload_n 1, 1) := by decide +kernel
theorem dX4_strong_19 : decode cX4_strong 19 = .ok (.aload_n 0, 1) := by decide +kernel
theorem dX4_strong_20 : decode cX4_strong 20 = .ok (.getfield 18, 3) := by decide +kernel
theorem dX4_strong_23 : decode cX4_strong 23 = .ok (.getfield 98, 3) := by decide +kernel
theorem dX4_strong_26 : decode cX4_strong 26 = .ok (.getfield 46, 3) := by decide +kernel
theorem dX4_strong_29 : decode cX4_strong 29 = .ok (.iload_n 2, 1) := by decide +kernel
theorem dX4_strong_30 : decode cX4_strong 30 = .ok (.iaload, 1) := by decide +kernel
theorem dX4_strong_31 : decode cX4_strong 31 = .ok (.iastore, 1) := by decide +kernel
theorem dX4_strong_32 : decode cX4_strong 32 = .ok (.aload_n 0, 1) := by decide +kernel
theorem dX4_strong_33 : decode cX4_strong 33 = .ok (.getfield 18, 3) := by decide +kernel
theorem dX4_strong_36 : decode cX4_strong 36 = .ok (.getfield 42, 3) := by decide +kernel
theorem dX4_strong_39 : decode cX4_strong 39 = .ok (.getfield 46, 3) := by decide +kernel
theorem dX4_strong_42 : decode cX4_strong 42 = .ok (.iload_n 1, 1) := by decide +kernel
theorem dX4_strong_43 : decode cX4_strong 43 = .ok (.iaload, 1) := by decide +kernel
theorem dX4_strong_44 : decode cX4_strong 44 = .ok (.ireturn, 1) := by decide +kernel
theorem dX4_wish_0 : decode cX4_wish 0 = .ok (.iload_n 1, 1) := by decide +kernel
theorem dX4_wish_1 : decode cX4_wish 1 = .ok (.invokestatic 31, 3) := by decide +kernel
theorem dX4_wish_4 : decode cX4_wish 4 = .ok (.aload_n 0, 1) := by decide +kernel
theorem dX4_wish_5 : decode cX4_wish 5 = .ok (.getfield 18, 3) := by decide +kernel
theorem dX4_wish_8 : decode cX4_wish 8 = .ok (.getfield 101, 3) := by decide +kernel
theorem dX4_wish_11 : decode cX4_wish 11 = .ok (.getfield 87, 3) := by decide +kernel
theorem dX4_wish_14 : decode cX4_wish 14 = .ok (.ifCond .ne 5, 3) := by decide +kernel
theorem dX4_wish_17 : decode cX4_wish 17 = .ok (.iconst 0, 1) := by decide +kernel
theorem dX4_wish_18 : decode cX4_wish 18 = .ok (.ireturn, 1) := by decide +kernel
theorem dX4_wish_19 : decode cX4_wish 19 = .ok (.aload_n 0, 1) := by decide +kernel
theorem dX4_wish_20 : decode cX4_wish 20 = .ok (.getfield 18, 3) := by decide +kernel
theorem dX4_wish_23 : decode cX4_wish 23 = .ok (.getfield 42, 3) := by decide +kernel
theorem dX4_wish_26 : decode cX4_wish 26 = .ok (.getfield 46, 3) := by decide +kernel
theorem dX4_wish_29 : decode cX4_wish 29 = .ok (.iload_n 1, 1) := by decide +kernel
theorem dX4_wish_30 : decode cX4_wish 30 = .ok (.aload_n 0, 1) := by decide +kernel
theorem dX4_wish_31 : decode cX4_wish 31 = .ok (.getfield 18, 3) := by decide +kernel
theorem dX4_wish_34 : decode cX4_wish 34 = .ok (.getfield 101, 3) := by decide +kernel
theorem dX4_wish_37 : decode cX4_wish 37 = .ok (.invokevirtual 104, 3) := by decide +kernel
theorem dX4_wish_40 : decode cX4_wish 40 = .ok (.iastore, 1) := by decide +kernel
theorem dX4_wish_41 : decode cX4_wish 41 = .ok (.aload_n 0, 1) := by decide +kernel
theorem dX4_wish_42 : decode cX4_wish 42 = .ok (.getfield 18, 3) := by decide +kernel
theorem dX4_wish_45 : decode cX4_wish 45 = .ok (.getfield 42, 3) := by decide +kernel
theorem dX4_wish_48 : decode cX4_wish 48 = .ok (.getfield 46, 3) := by decide +kernel
theorem dX4_wish_51 : decode cX4_wish 51 = .ok (.iload_n 1, 1) := by decide +kernel
theorem dX4_wish_52 : decode cX4_wish 52 = .ok (.iaload, 1) := by decide +kernel
theorem dX4_wish_53 : decode cX4_wish 53 = .ok (.ireturn, 1) := by decide +kernel
theorem dX4_collect_0 : decode cX4_collect 0 = .ok (.iload_n 1, 1) := by decide +kernel
theorem dX4_collect_1 : decode cX4_collect 1 = .ok (.ifCond .lt 8, 3) := by decide +kernel
theorem dX4_collect_4 : decode cX4_collect 4 = .ok (.iload_n 1, 1) := by decide +kernel
theorem dX4_collect_5 : decode cX4_collect 5 = .ok (.iconst 3, 1) := by decide +kernel
theorem dX4_collect_6 : decode cX4_collect 6 = .ok (.if_icmp .lt 11, 3) := by decide +kernel
theorem dX4_collect_9 : decode cX4_collect 9 = .ok (.new 35, 3) := by decide +kernel
theorem dX4_collect_12 : decode cX4_collect 12 = .ok (.dup, 1) := by decide +kernel
theorem dX4_collect_13 : decode cX4_collect 13 = .ok (.invokespecial 37, 3) := by decide +kernel
theorem dX4_collect_16 : decode cX4_collect 16 = .ok (.athrow, 1) := by decide +kernel
theorem dX4_collect_17 : decode cX4_collect 17 = .ok (.aload_n 0, 1) := by decide +kernel
theorem dX4_collect_18 : decode cX4_collect 18 = .ok (.getfield 18, 3) := by decide +kernel
theorem dX4_collect_21 : decode cX4_collect 21 = .ok (.iload_n 1, 1) := by decide +kernel
theorem dX4_collect_22 : decode cX4_collect 22 = .ok (.invokevirtual 107, 3) := by decide +kernel
theorem dX4_collect_25 : decode cX4_collect 25 = .ok (.ireturn, 1) := by decide +kernel
theorem dX4_root_0 : decode cX4_root 0 = .ok (.iload_n 1, 1) := by decide +kernel
theorem dX4_root_1 : decode cX4_root 1 = .ok (.invokestatic 31, 3) := by decide +kernel
theorem dX4_root_4 : decode cX4_root 4 = .ok (.aload_n 0, 1) := by decide +kernel
theorem dX4_root_5 : decode cX4_root 5 = .ok (.getfield 18, 3) := by decide +kernel
theorem dX4_root_8 : decode cX4_root 8 = .ok (.getfield 42, 3) := by decide +kernel
theorem dX4_root_11 : decode cX4_root 11 = .ok (.getfield 46, 3) := by decide +kernel
theorem dX4_root_14 : decode cX4_root 14 = .ok (.iload_n 1, 1) := by decide +kernel
theorem dX4_root_15 : decode cX4_root 15 = .ok (.iaload, 1) := by decide +kernel
theorem dX4_root_16 : decode cX4_root 16 = .ok (.ireturn, 1) := by decide +kernel
theorem dX4_about_0 : decode cX4_about 0 = .ok (.iload_n 1, 1) := by decide +kernel
theorem dX4_about_1 : decode cX4_about 1 = .ok (.invokestatic 31, 3) := by decide +kernel
theorem dX4_about_4 : decode cX4_about 4 = .ok (.aload_n 0, 1) := by decide +kernel
theorem dX4_about_5 : decode cX4_about 5 = .ok (.iload_n 1, 1) := by decide +kernel
theorem dX4_about_6 : decode cX4_about 6 = .ok (.invokevirtual 59, 3) := by decide +kernel
theorem dX4_about_9 : decode cX4_about 9 = .ok (.istore_n 3, 1) := by decide +kernel
theorem dX4_about_10 : decode cX4_about 10 = .ok (.iload_n 2, 1) := by decide +kernel
theorem dX4_about_11 : decode cX4_about 11 = .ok (.tableswitch 89 0 4 #[33, 42, 51, 68, 77], 33) := by decide +kernel
theorem dX4_about_44 : decode cX4_about 44 = .ok (.aload_n 0, 1) := by decide +kernel
theorem dX4_about_45 : decode cX4_about 45 = .ok (.getfield 18, 3) := by decide +kernel
theorem dX4_about_48 : decode cX4_about 48 = .ok (.iload_n 3, 1) := by decide +kernel
theorem dX4_about_49 : decode cX4_about 49 = .ok (.invokevirtual 110, 3) := by decide +kernel
theorem dX4_about_52 : decode cX4_about 52 = .ok (.ireturn, 1) := by decide +kernel
theorem dX4_about_53 : decode cX4_about 53 = .ok (.aload_n 0, 1) := by decide +kernel
theorem dX4_about_54 : decode cX4_about 54 = .ok (.getfield 18, 3) := by decide +kernel
theorem dX4_about_57 : decode cX4_about 57 = .ok (.iload_n 3, 1) := by decide +kernel
theorem dX4_about_58 : decode cX4_about 58 = .ok (.invokevirtual 113, 3) := by decide +kernel
theorem dX4_about_61 : decode cX4_about 61 = .ok (.ireturn, 1) := by decide +kernel
theorem dX4_about_62 : decode cX4_about 62 = .ok (.aload_n 0, 1) := by decide +kernel
theorem dX4_about_63 : decode cX4_about 63 = .ok (.getfield 18, 3) := by decide +kernel
theorem dX4_about_66 : decode cX4_about 66 = .ok (.iload_n 3, 1) := by decide +kernel
theorem dX4_about_67 : decode cX4_about 67 = .ok (.invokevirtual 116, 3) := by decide +kernel
theorem dX4_about_70 : decode cX4_about 70 = .ok (.ifCond .eq 7, 3) := by decide +kernel
theorem dX4_about_73 : decode cX4_about 73 = .ok (.iconst 1, 1) := by decide +kernel
theorem dX4_about_74 : decode cX4_about 74 = .ok (.goto 4, 3) := by decide +kernel
theorem dX4_about_77 : decode cX4_about 77 = .ok (.iconst 0, 1) := by decide +kernel
theorem dX4_about_78 : decode cX4_about 78 = .ok (.ireturn, 1) := by decide +kernel
theorem dX4_about_79 : decode cX4_about 79 = .ok (.aload_n 0, 1) := by decide +kernel
theorem dX4_about_80 : decode cX4_about 80 = .ok (.getfield 18, 3) := by decide +kernel
theorem dX4_about_83 : decode cX4_about 83 = .ok (.iload_n 3, 1) := by decide +kernel
theorem dX4_about_84 : decode cX4_about 84 = .ok (.invokevirtual 120, 3) := by decide +kernel
theorem dX4_about_87 : decode cX4_about 87 = .ok (.ireturn, 1) := by decide +kernel
theorem dX4_about_88 : decode cX4_about 88 = .ok (.aload_n 0, 1) := by decide +kernel
theorem dX4_about_89 : decode cX4_about 89 = .ok (.getfield 18, 3) := by decide +kernel
theorem dX4_about_92 : decode cX4_about 92 = .ok (.iload_n 3, 1) := by decide +kernel
theorem dX4_about_93 : decode cX4_about 93 = .ok (.invokevirtual 123, 3) := by decide +kernel
theorem dX4_about_96 : decode cX4_about 96 = .ok (.getfield 127, 3) := by decide +kernel
theorem dX4_about_99 : decode cX4_about 99 = .ok (.ireturn, 1) := by decide +kernel
theorem dX4_about_100 : decode cX4_about 100 = .ok (.aload_n 0, 1) := by decide +kernel
theorem dX4_about_101 : decode cX4_about 101 = .ok (.iload_n 3, 1) := by decide +kernel
theorem dX4_about_102 : decode cX4_about 102 = .ok (.iload_n 2, 1) := by decide +kernel
theorem dX4_about_103 : decode cX4_about 103 = .ok (.iconst 5, 1) := by decide +kernel
theorem dX4_about_104 : decode cX4_about 104 = .ok (.isub, 1) := by decide +kernel
theorem dX4_about_105 : decode cX4_about 105 = .ok (.invokevirtual 63, 3) := by decide +kernel
theorem dX4_about_108 : decode cX4_about 108 = .ok (.aload_n 0, 1) := by decide +kernel
theorem dX4_about_109 : decode cX4_about 109 = .ok (.getfield 18, 3) := by decide +kernel
theorem dX4_about_112 : decode cX4_about 112 = .ok (.iload_n 3, 1) := by decide +kernel
theorem dX4_about_113 : decode cX4_about 113 = .ok (.iload_n 2, 1) := by decide +kernel
theorem dX4_about_114 : decode cX4_about 114 = .ok (.iconst 5, 1) := by decide +kernel
theorem dX4_about_115 : decode cX4_about 115 = .ok (.isub, 1) := by decide +kernel
theorem dX4_about_116 : decode cX4_about 116 = .ok (.invokevirtual 67, 3) := by decide +kernel
theorem dX4_about_119 : decode cX4_about 119 = .ok (.ireturn, 1) := by decide +kernel
theorem dX4_word_0 : decode cX4_word 0 = .ok (.aload_n 0, 1) := by decide +kernel
theorem dX4_word_1 : decode cX4_word 1 = .ok (.getfield 18, 3) := by decide +kernel
theorem dX4_word_4 : decode cX4_word 4 = .ok (.iload_n 1, 1) := by decide +kernel
theorem dX4_word_5 : decode cX4_word 5 = .ok (.invokevirtual 132, 3) := by decide +kernel
theorem dX4_word_8 : decode cX4_word 8 = .ok (.ifCond .ne 11, 3) := by decide +kernel
theorem dX4_word_11 : decode cX4_word 11 = .ok (.new 135, 3) := by decide +kernel
theorem dX4_word_14 : decode cX4_word 14 = .ok (.dup, 1) := by decide +kernel
theorem dX4_word_15 : decode cX4_word 15 = .ok (.invokespecial 137, 3) := by decide +kernel
theorem dX4_word_18 : decode cX4_word 18 = .ok (.athrow, 1) := by decide +kernel
theorem dX4_word_19 : decode cX4_word 19 = .ok (.aload_n 0, 1) := by decide +kernel
theorem dX4_word_20 : decode cX4_word 20 = .ok (.getfield 18, 3) := by decide +kernel
theorem dX4_word_23 : decode cX4_word 23 = .ok (.getfield 138, 3) := by decide +kernel
theorem dX4_word_26 : decode cX4_word 26 = .ok (.iload_n 1, 1) := by decide +kernel
theorem dX4_word_27 : decode cX4_word 27 = .ok (.iaload, 1) := by decide +kernel
theorem dX4_word_28 : decode cX4_word 28 = .ok (.ireturn, 1) := by decide +kernel
theorem dX4_row_0 : decode cX4_row 0 = .ok (.aload_n 0, 1) := by decide +kernel
theorem dX4_row_1 : decode cX4_row 1 = .ok (.getfield 18, 3) := by decide +kernel
theorem dX4_row_4 : decode cX4_row 4 = .ok (.iload_n 1, 1) := by decide +kernel
theorem dX4_row_5 : decode cX4_row 5 = .ok (.invokevirtual 141, 3) := by decide +kernel
theorem dX4_row_8 : decode cX4_row 8 = .ok (.astore_n 3, 1) := by decide +kernel
theorem dX4_row_9 : decode cX4_row 9 = .ok (.aload_n 3, 1) := by decide +kernel
theorem dX4_row_10 : decode cX4_row 10 = .ok (.ifnull 15, 3) := by decide +kernel
theorem dX4_row_13 : decode cX4_row 13 = .ok (.iload_n 2, 1) := by decide +kernel
theorem dX4_row_14 : decode cX4_row 14 = .ok (.ifCond .lt 11, 3) := by decide +kernel
theorem dX4_row_17 : decode cX4_row 17 = .ok (.iload_n 2, 1) := by decide +kernel
theorem dX4_row_18 : decode cX4_row 18 = .ok (.aload_n 3, 1) := by decide +kernel
theorem dX4_row_19 : decode cX4_row 19 = .ok (.getfield 87, 3) := by decide +kernel
theorem dX4_row_22 : decode cX4_row 22 = .ok (.if_icmp .lt 11, 3) := by decide +kernel
theorem dX4_row_25 : decode cX4_row 25 = .ok (.new 135, 3) := by decide +kernel
theorem dX4_row_28 : decode cX4_row 28 = .ok (.dup, 1) := by decide +kernel
theorem dX4_row_29 : decode cX4_row 29 = .ok (.invokespecial 137, 3) := by decide +kernel
theorem dX4_row_32 : decode cX4_row 32 = .ok (.athrow, 1) := by decide +kernel
theorem dX4_row_33 : decode cX4_row 33 = .ok (.aload_n 3, 1) := by decide +kernel
theorem dX4_row_34 : decode cX4_row 34 = .ok (.getfield 46, 3) := by decide +kernel
theorem dX4_row_37 : decode cX4_row 37 = .ok (.iload_n 2, 1) := by decide +kernel
theorem dX4_row_38 : decode cX4_row 38 = .ok (.iaload, 1) := by decide +kernel
theorem dX4_row_39 : decode cX4_row 39 = .ok (.ireturn, 1) := by decide +kernel
theorem dX4_code_0 : decode cX4_code 0 = .ok (.aload_n 0, 1) := by decide +kernel
theorem dX4_code_1 : decode cX4_code 1 = .ok (.getfield 27, 3) := by decide +kernel
theorem dX4_code_4 : decode cX4_code 4 = .ok (.getfield 145, 3) := by decide +kernel
theorem dX4_code_7 : decode cX4_code 7 = .ok (.bipush 64, 2) := by decide +kernel
theorem dX4_code_9 : decode cX4_code 9 = .ok (.if_icmp .ne 11, 3) := by decide +kernel
theorem dX4_code_12 : decode cX4_code 12 = .ok (.new 81, 3) := by decide +kernel
theorem dX4_code_15 : decode cX4_code 15 = .ok (.dup, 1) := by decide +kernel
theorem dX4_code_16 : decode cX4_code 16 = .ok (.invokespecial 83, 3) := by decide +kernel
theorem dX4_code_19 : decode cX4_code 19 = .ok (.athrow, 1) := by decide +kernel
theorem dX4_code_20 : decode cX4_code 20 = .ok (.aload_n 0, 1) := by decide +kernel
theorem dX4_code_21 : decode cX4_code 21 = .ok (.getfield 27, 3) := by decide +kernel
theorem dX4_code_24 : decode cX4_code 24 = .ok (.iload_n 1, 1) := by decide +kernel
theorem dX4_code_25 : decode cX4_code 25 = .ok (.iload_n 2, 1) := by decide +kernel
theorem dX4_code_26 : decode cX4_code 26 = .ok (.iload_n 3, 1) := by decide +kernel
theorem dX4_code_27 : decode cX4_code 27 = .ok (.iload 4, 2) := by decide +kernel
theorem dX4_code_29 : decode cX4_code 29 = .ok (.invokevirtual 148, 3) := by decide +kernel
theorem dX4_code_32 : decode cX4_code 32 = .ok (.aload_n 0, 1) := by decide +kernel
theorem dX4_code_33 : decode cX4_code 33 = .ok (.getfield 27, 3) := by decide +kernel
theorem dX4_code_36 : decode cX4_code 36 = .ok (.getfield 145, 3) := by decide +kernel
theorem dX4_code_39 : decode cX4_code 39 = .ok (.ireturn, 1) := by decide +kernel
theorem dX4_scrap_0 : decode cX4_scrap 0 = .ok (.aload_n 0, 1) := by decide +kernel
theorem dX4_scrap_1 : decode cX4_scrap 1 = .ok (.getfield 27, 3) := by decide +kernel
theorem dX4_scrap_4 : decode cX4_scrap 4 = .ok (.getfield 145, 3) := by decide +kernel
theorem dX4_scrap_7 : decode cX4_scrap 7 = .ok (.istore_n 1, 1) := by decide +kernel
theorem dX4_scrap_8 : decode cX4_scrap 8 = .ok (.aload_n 0, 1) := by decide +kernel
theorem dX4_scrap_9 : decode cX4_scrap 9 = .ok (.getfield 27, 3) := by decide +kernel
theorem dX4_scrap_12 : decode cX4_scrap 12 = .ok (.iconst 0, 1) := by decide +kernel
theorem dX4_scrap_13 : decode cX4_scrap 13 = .ok (.putfield 145, 3) := by decide +kernel
theorem dX4_scrap_16 : decode cX4_scrap 16 = .ok (.iload_n 1, 1) := by decide +kernel
theorem dX4_scrap_17 : decode cX4_scrap 17 = .ok (.ireturn, 1) := by decide +kernel
theorem dX4_run_0 : decode cX4_run 0 = .ok (.iload_n 1, 1) := by decide +kernel
theorem dX4_run_1 : decode cX4_run 1 = .ok (.ifCond .lt 14, 3) := by decide +kernel
theorem dX4_run_4 : decode cX4_run 4 = .ok (.iload_n 1, 1) := by decide +kernel
theorem dX4_run_5 : decode cX4_run 5 = .ok (.aload_n 0, 1) := by decide +kernel
theorem dX4_run_6 : decode cX4_run 6 = .ok (.getfield 27, 3) := by decide +kernel
theorem dX4_run_9 : decode cX4_run 9 = .ok (.getfield 145, 3) := by decide +kernel
theorem dX4_run_12 : decode cX4_run 12 = .ok (.if_icmp .le 11, 3) := by decide +kernel
theorem dX4_run_15 : decode cX4_run 15 = .ok (.new 135, 3) := by decide +kernel
theorem dX4_run_18 : decode cX4_run 18 = .ok (.dup, 1) := by decide +kernel
theorem dX4_run_19 : decode cX4_run 19 = .ok (.invokespecial 137, 3) := by decide +kernel
theorem dX4_run_22 : decode cX4_run 22 = .ok (.athrow, 1) := by decide +kernel
theorem dX4_run_23 : decode cX4_run 23 = .ok (.iload_n 2, 1) := by decide +kernel
theorem dX4_run_24 : decode cX4_run 24 = .ok (.ifCond .lt 10, 3) := by decide +kernel
theorem dX4_run_27 : decode cX4_run 27 = .ok (.iload_n 2, 1) := by decide +kernel
theorem dX4_run_28 : decode cX4_run 28 = .ok (.sipush 400, 3) := by decide +kernel
theorem dX4_run_31 : decode cX4_run 31 = .ok (.if_icmp .le 11, 3) := by decide +kernel
theorem dX4_run_34 : decode cX4_run 34 = .ok (.new 35, 3) := by decide +kernel
theorem dX4_run_37 : decode cX4_run 37 = .ok (.dup, 1) := by decide +kernel
theorem dX4_run_38 : decode cX4_run 38 = .ok (.invokespecial 37, 3) := by decide +kernel
theorem dX4_run_41 : decode cX4_run 41 = .ok (.athrow, 1) := by decide +kernel
theorem dX4_run_42 : decode cX4_run 42 = .ok (.aload_n 0, 1) := by decide +kernel
theorem dX4_run_43 : decode cX4_run 43 = .ok (.getfield 27, 3) := by decide +kernel
theorem dX4_run_46 : decode cX4_run 46 = .ok (.iload_n 1, 1) := by decide +kernel
theorem dX4_run_47 : decode cX4_run 47 = .ok (.putfield 151, 3) := by decide +kernel
theorem dX4_run_50 : decode cX4_run 50 = .ok (.iconst (-1), 1) := by decide +kernel
theorem dX4_run_51 : decode cX4_run 51 = .ok (.istore_n 3, 1) := by decide +kernel
theorem dX4_run_52 : decode cX4_run 52 = .ok (.iconst 0, 1) := by decide +kernel
theorem dX4_run_53 : decode cX4_run 53 = .ok (.istore 4, 2) := by decide +kernel
theorem dX4_run_55 : decode cX4_run 55 = .ok (.iload 4, 2) := by decide +kernel
theorem dX4_run_57 : decode cX4_run 57 = .ok (.iload_n 2, 1) := by decide +kernel
theorem dX4_run_58 : decode cX4_run 58 = .ok (.if_icmp .gt 46, 3) := by decide +kernel
theorem dX4_run_61 : decode cX4_run 61 = .ok (.iload_n 3, 1) := by decide +kernel
theorem dX4_run_62 : decode cX4_run 62 = .ok (.iconst (-1), 1) := by decide +kernel
theorem dX4_run_63 : decode cX4_run 63 = .ok (.if_icmp .ne 41, 3) := by decide +kernel
theorem dX4_run_66 : decode cX4_run 66 = .ok (.aload_n 0, 1) := by decide +kernel
theorem dX4_run_67 : decode cX4_run 67 = .ok (.getfield 27, 3) := by decide +kernel
theorem dX4_run_70 : decode cX4_run 70 = .ok (.iload 4, 2) := by decide +kernel
theorem dX4_run_72 : decode cX4_run 72 = .ok (.iload_n 2, 1) := by decide +kernel
theorem dX4_run_73 : decode cX4_run 73 = .ok (.if_icmp .ne 7, 3) := by decide +kernel
theorem dX4_run_76 : decode cX4_run 76 = .ok (.iconst 1, 1) := by decide +kernel
theorem dX4_run_77 : decode cX4_run 77 = .ok (.goto 4, 3) := by decide +kernel
theorem dX4_run_80 : decode cX4_run 80 = .ok (.iconst 0, 1) := by decide +kernel
theorem dX4_run_81 : decode cX4_run 81 = .ok (.invokevirtual 154, 3) := by decide +kernel
theorem dX4_run_84 : decode cX4_run 84 = .ok (.istore_n 3, 1) := by decide +kernel
theorem dX4_run_85 : decode cX4_run 85 = .ok (.iload_n 3, 1) := by decide +kernel
theorem dX4_run_86 : decode cX4_run 86 = .ok (.iconst (-1), 1) := by decide +kernel
theorem dX4_run_87 : decode cX4_run 87 = .ok (.if_icmp .ne 11, 3) := by decide +kernel
theorem dX4_run_90 : decode cX4_run 90 = .ok (.aload_n 0, 1) := by decide +kernel
theorem dX4_run_91 : decode cX4_run 91 = .ok (.getfield 27, 3) := by decide +kernel
theorem dX4_run_94 : decode cX4_run 94 = .ok (.invokevirtual 158, 3) := by decide +kernel
theorem dX4_run_97 : decode cX4_run 97 = .ok (.istore_n 3, 1) := by decide +kernel
theorem dX4_run_98 : decode cX4_run 98 = .ok (.iinc 4 1, 3) := by decide +kernel
theorem dX4_run_101 : decode cX4_run 101 = .ok (.goto (-46), 3) := by decide +kernel
theorem dX4_run_104 : decode cX4_run 104 = .ok (.iload_n 3, 1) := by decide +kernel
theorem dX4_run_105 : decode cX4_run 105 = .ok (.ireturn, 1) := by decide +kernel
theorem dX4_count_0 : decode cX4_count 0 = .ok (.iload_n 1, 1) := by decide +kernel
theorem dX4_count_1 : decode cX4_count 1 = .ok (.ifCond .lt 9, 3) := by decide +kernel
theorem dX4_count_4 : decode cX4_count 4 = .ok (.iload_n 1, 1) := by decide +kernel
theorem dX4_count_5 : decode cX4_count 5 = .ok (.bipush 24, 2) := by decide +kernel
theorem dX4_count_7 : decode cX4_count 7 = .ok (.if_icmp .le 11, 3) := by decide +kernel
theorem dX4_count_10 : decode cX4_count 10 = .ok (.new 135, 3) := by decide +kernel
theorem dX4_count_13 : decode cX4_count 13 = .ok (.dup, 1) := by decide +kernel
theorem dX4_count_14 : decode cX4_count 14 = .ok (.invokespecial 137, 3) := by decide +kernel
theorem dX4_count_17 : decode cX4_count 17 = .ok (.athrow, 1) := by decide +kernel
theorem dX4_count_18 : decode cX4_count 18 = .ok (.iload_n 1, 1) := by decide +kernel
theorem dX4_count_19 : decode cX4_count 19 = .ok (.bipush 17, 2) := by decide +kernel
theorem dX4_count_21 : decode cX4_count 21 = .ok (.if_icmp .lt 16, 3) := by decide +kernel
theorem dX4_count_24 : decode cX4_count 24 = .ok (.aload_n 0, 1) := by decide +kernel
theorem dX4_count_25 : decode cX4_count 25 = .ok (.getfield 27, 3) := by decide +kernel
theorem dX4_count_28 : decode cX4_count 28 = .ok (.getfield 161, 3) := by decide +kernel
theorem dX4_count_31 : decode cX4_count 31 = .ok (.iload_n 1, 1) := by decide +kernel
theorem dX4_count_32 : decode cX4_count 32 = .ok (.bipush 17, 2) := by decide +kernel
theorem dX4_count_34 : decode cX4_count 34 = .ok (.isub, 1) := by decide +kernel
theorem dX4_count_35 : decode cX4_count 35 = .ok (.iaload, 1) := by decide +kernel
theorem dX4_count_36 : decode cX4_count 36 = .ok (.ireturn, 1) := by decide +kernel
theorem dX4_count_37 : decode cX4_count 37 = .ok (.iload_n 1, 1) := by decide +kernel
theorem dX4_count_38 : decode cX4_count 38 = .ok (.lookupswitch 42 #[(15, 26), (16, 34)], 26) := by decide +kernel
theorem dX4_count_64 : decode cX4_count 64 = .ok (.aload_n 0, 1) := by decide +kernel
theorem dX4_count_65 : decode cX4_count 65 = .ok (.getfield 27, 3) := by decide +kernel
theorem dX4_count_68 : decode cX4_count 68 = .ok (.getfield 164, 3) := by decide +kernel
theorem dX4_count_71 : decode cX4_count 71 = .ok (.ireturn, 1) := by decide +kernel
theorem dX4_count_72 : decode cX4_count 72 = .ok (.aload_n 0, 1) := by decide +kernel
theorem dX4_count_73 : decode cX4_count 73 = .ok (.getfield 27, 3) := by decide +kernel
theorem dX4_count_76 : decode cX4_count 76 = .ok (.getfield 151, 3) := by decide +kernel
theorem dX4_count_79 : decode cX4_count 79 = .ok (.ireturn, 1) := by decide +kernel
theorem dX4_count_80 : decode cX4_count 80 = .ok (.aload_n 0, 1) := by decide +kernel
theorem dX4_count_81 : decode cX4_count 81 = .ok (.getfield 18, 3) := by decide +kernel
theorem dX4_count_84 : decode cX4_count 84 = .ok (.iload_n 1, 1) := by decide +kernel
theorem dX4_count_85 : decode cX4_count 85 = .ok (.invokevirtual 167, 3) := by decide +kernel
theorem dX4_count_88 : decode cX4_count 88 = .ok (.ireturn, 1) := by decide +kernel
theorem dX4_nearest_0 : decode cX4_nearest 0 = .ok (.iload_n 1, 1) := by decide +kernel
theorem dX4_nearest_1 : decode cX4_nearest 1 = .ok (.iload_n 2, 1) := by decide +kernel
theorem dX4_nearest_2 : decode cX4_nearest 2 = .ok (.iload_n 0, 1) := by decide +kernel
theorem dX4_nearest_3 : decode cX4_nearest 3 = .ok (.invokestatic 170, 3) := by decide +kernel
theorem dX4_nearest_6 : decode cX4_nearest 6 = .ok (.invokestatic 175, 3) := by decide +kernel
theorem dX4_nearest_9 : decode cX4_nearest 9 = .ok (.ireturn, 1) := by decide +kernel
theorem dX4_isRoot_0 : decode cX4_isRoot 0 = .ok (.iload_n 0, 1) := by decide +kernel
theorem dX4_isRoot_1 : decode cX4_isRoot 1 = .ok (.ifCond .lt 13, 3) := by decide +kernel
theorem dX4_isRoot_4 : decode cX4_isRoot 4 = .ok (.iload_n 0, 1) := by decide +kernel
theorem dX4_isRoot_5 : decode cX4_isRoot 5 = .ok (.bipush 16, 2) := by decide +kernel
theorem dX4_isRoot_7 : decode cX4_isRoot 7 = .ok (.if_icmp .ge 7, 3) := by decide +kernel
theorem dX4_isRoot_10 : decode cX4_isRoot 10 = .ok (.iconst 1, 1) := by decide +kernel
theorem dX4_isRoot_11 : decode cX4_isRoot 11 = .ok (.goto 4, 3) := by decide +kernel
theorem dX4_isRoot_14 : decode cX4_isRoot 14 = .ok (.iconst 0, 1) := by decide +kernel
theorem dX4_isRoot_15 : decode cX4_isRoot 15 = .ok (.ireturn, 1) := by decide +kernel
theorem dX4_lookAtRoot_0 : decode cX4_lookAtRoot 0 = .ok (.iload_n 0, 1) := by decide +kernel
theorem dX4_lookAtRoot_1 : decode cX4_lookAtRoot 1 = .ok (.invokestatic 178, 3) := by decide +kernel
theorem dX4_lookAtRoot_4 : decode cX4_lookAtRoot 4 = .ok (.ifCond .ne 11, 3) := by decide +kernel
theorem dX4_lookAtRoot_7 : decode cX4_lookAtRoot 7 = .ok (.new 135, 3) := by decide +kernel
theorem dX4_lookAtRoot_10 : decode cX4_lookAtRoot 10 = .ok (.dup, 1) := by decide +kernel
theorem dX4_lookAtRoot_11 : decode cX4_lookAtRoot 11 = .ok (.invokespecial 137, 3) := by decide +kernel
theorem dX4_lookAtRoot_14 : decode cX4_lookAtRoot 14 = .ok (.athrow, 1) := by decide +kernel
theorem dX4_lookAtRoot_15 : decode cX4_lookAtRoot 15 = .ok (.return_, 1) := by decide +kernel
theorem dX4_lookAtRootOrNone_0 : decode cX4_lookAtRootOrNone 0 = .ok (.iload_n 0, 1) := by decide +kernel
theorem dX4_lookAtRootOrNone_1 : decode cX4_lookAtRootOrNone 1 = .ok (.iconst (-1), 1) := by decide +kernel
theorem dX4_lookAtRootOrNone_2 : decode cX4_lookAtRootOrNone 2 = .ok (.if_icmp .eq 7, 3) := by decide +kernel
theorem dX4_lookAtRootOrNone_5 : decode cX4_lookAtRootOrNone 5 = .ok (.iload_n 0, 1) := by decide +kernel
theorem dX4_lookAtRootOrNone_6 : decode cX4_lookAtRootOrNone 6 = .ok (.invokestatic 31, 3) := by decide +kernel
theorem dX4_lookAtRootOrNone_9 : decode cX4_lookAtRootOrNone 9 = .ok (.return_, 1) := by decide +kernel
theorem dX4_lookAtWeakPlace_0 : decode cX4_lookAtWeakPlace 0 = .ok (.iload_n 0, 1) := by decide +kernel
theorem dX4_lookAtWeakPlace_1 : decode cX4_lookAtWeakPlace 1 = .ok (.ifCond .lt 9, 3) := by decide +kernel
theorem dX4_lookAtWeakPlace_4 : decode cX4_lookAtWeakPlace 4 = .ok (.iload_n 0, 1) := by decide +kernel
theorem dX4_lookAtWeakPlace_5 : decode cX4_lookAtWeakPlace 5 = .ok (.bipush 8, 2) := by decide +kernel
theorem dX4_lookAtWeakPlace_7 : decode cX4_lookAtWeakPlace 7 = .ok (.if_icmp .lt 11, 3) := by decide +kernel
theorem dX4_lookAtWeakPlace_10 : decode cX4_lookAtWeakPlace 10 = .ok (.new 135, 3) := by decide +kernel
theorem dX4_lookAtWeakPlace_13 : decode cX4_lookAtWeakPlace 13 = .ok (.dup, 1) := by decide +kernel
theorem dX4_lookAtWeakPlace_14 : decode cX4_lookAtWeakPlace 14 = .ok (.invokespecial 137, 3) := by decide +kernel
theorem dX4_lookAtWeakPlace_17 : decode cX4_lookAtWeakPlace 17 = .ok (.athrow, 1) := by decide +kernel
theorem dX4_lookAtWeakPlace_18 : decode cX4_lookAtWeakPlace 18 = .ok (.return_, 1) := by decide +kernel
theorem dX4_objectOf_0 : decode cX4_objectOf 0 = .ok (.aload_n 0, 1) := by decide +kernel
theorem dX4_objectOf_1 : decode cX4_objectOf 1 = .ok (.getfield 18, 3) := by decide +kernel
theorem dX4_objectOf_4 : decode cX4_objectOf 4 = .ok (.getfield 42, 3) := by decide +kernel
theorem dX4_objectOf_7 : decode cX4_objectOf 7 = .ok (.getfield 46, 3) := by decide +kernel
theorem dX4_objectOf_10 : decode cX4_objectOf 10 = .ok (.iload_n 1, 1) := by decide +kernel
theorem dX4_objectOf_11 : decode cX4_objectOf 11 = .ok (.iaload, 1) := by decide +kernel
theorem dX4_objectOf_12 : decode cX4_objectOf 12 = .ok (.istore_n 2, 1) := by decide +kernel
theorem dX4_objectOf_13 : decode cX4_objectOf 13 = .ok (.iload_n 2, 1) := by decide +kernel
theorem dX4_objectOf_14 : decode cX4_objectOf 14 = .ok (.ifCond .ne 11, 3) := by decide +kernel
theorem dX4_objectOf_17 : decode cX4_objectOf 17 = .ok (.new 81, 3) := by decide +kernel
theorem dX4_objectOf_20 : decode cX4_objectOf 20 = .ok (.dup, 1) := by decide +kernel
theorem dX4_objectOf_21 : decode cX4_objectOf 21 = .ok (.invokespecial 83, 3) := by decide +kernel
theorem dX4_objectOf_24 : decode cX4_objectOf 24 = .ok (.athrow, 1) := by decide +kernel
theorem dX4_objectOf_25 : decode cX4_objectOf 25 = .ok (.iload_n 2, 1) := by decide +kernel
theorem dX4_objectOf_26 : decode cX4_objectOf 26 = .ok (.ireturn, 1) := by decide +kernel
theorem dX4_lookAtField_0 : decode cX4_lookAtField 0 = .ok (.aload_n 0, 1) := by decide +kernel
theorem dX4_lookAtField_1 : decode cX4_lookAtField 1 = .ok (.getfield 18, 3) := by decide +kernel
theorem dX4_lookAtField_4 : decode cX4_lookAtField 4 = .ok (.iload_n 1, 1) := by decide +kernel
theorem dX4_lookAtField_5 : decode cX4_lookAtField 5 = .ok (.iload_n 2, 1) := by decide +kernel
theorem dX4_lookAtField_6 : decode cX4_lookAtField 6 = .ok (.invokevirtual 181, 3) := by decide +kernel
theorem dX4_lookAtField_9 : decode cX4_lookAtField 9 = .ok (.ifCond .ne 11, 3) := by decide +kernel
theorem dX4_lookAtField_12 : decode cX4_lookAtField 12 = .ok (.new 135, 3) := by decide +kernel
theorem dX4_lookAtField_15 : decode cX4_lookAtField 15 = .ok (.dup, 1) := by decide +kernel
theorem dX4_lookAtField_16 : decode cX4_lookAtField 16 = .ok (.invokespecial 137, 3) := by decide +kernel
theorem dX4_lookAtField_19 : decode cX4_lookAtField 19 = .ok (.athrow, 1) := by decide +kernel
theorem dX4_lookAtField_20 : decode cX4_lookAtField 20 = .ok (.return_, 1) := by decide +kernel
