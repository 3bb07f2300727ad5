theorem dX5_near_0 : decode cX5_near 0 = .ok (.iload_n 0, 1) := by decide +kernel
theorem dX5_near_1 : decode cX5_near 1 = .ok (.iload_n 1, 1) := by decide +kernel
theorem dX5_near_2 : decode cX5_near 2 = .ok (.if_icmp .ge 7, 3) := by decide +kernel
theorem dX5_near_5 : decode cX5_near 5 = .ok (.iload_n 1, 1) := by decide +kernel
theorem dX5_near_6 : decode cX5_near 6 = .ok (.goto 13, 3) := by decide +kernel
theorem dX5_near_9 : decode cX5_near 9 = .ok (.iload_n 0, 1) := by decide +kernel
theorem dX5_near_10 : decode cX5_near 10 = .ok (.iload_n 2, 1) := by decide +kernel
theorem dX5_near_11 : decode cX5_near 11 = .ok (.if_icmp .le 7, 3) := by decide +kernel
theorem dX5_near_14 : decode cX5_near 14 = .ok (.iload_n 2, 1) := by decide +kernel
theorem dX5_near_15 : decode cX5_near 15 = .ok (.goto 4, 3) := by decide +kernel
theorem dX5_near_18 : decode cX5_near 18 = .ok (.iload_n 0, 1) := by decide +kernel
theorem dX5_near_19 : decode cX5_near 19 = .ok (.ireturn, 1) := by decide +kernel
theorem dX5_init_0 : decode cX5_init 0 = .ok (.aload_n 0, 1) := by decide +kernel
theorem dX5_init_1 : decode cX5_init 1 = .ok (.invokespecial 1, 3) := by decide +kernel
theorem dX5_init_4 : decode cX5_init 4 = .ok (.aload_n 0, 1) := by decide +kernel
theorem dX5_init_5 : decode cX5_init 5 = .ok (.sipush 1793, 3) := by decide +kernel
theorem dX5_init_8 : decode cX5_init 8 = .ok (.newarray .int, 2) := by decide +kernel
theorem dX5_init_10 : decode cX5_init 10 = .ok (.putfield 7, 3) := by decide +kernel
theorem dX5_init_13 : decode cX5_init 13 = .ok (.aload_n 0, 1) := by decide +kernel
theorem dX5_init_14 : decode cX5_init 14 = .ok (.sipush 1793, 3) := by decide +kernel
theorem dX5_init_17 : decode cX5_init 17 = .ok (.newarray .int, 2) := by decide +kernel
theorem dX5_init_19 : decode cX5_init 19 = .ok (.putfield 13, 3) := by decide +kernel
theorem dX5_init_22 : decode cX5_init 22 = .ok (.aload_n 0, 1) := by decide +kernel
theorem dX5_init_23 : decode cX5_init 23 = .ok (.iconst 2, 1) := by decide +kernel
theorem dX5_init_24 : decode cX5_init 24 = .ok (.newarray .int, 2) := by decide +kernel
theorem dX5_init_26 : decode cX5_init 26 = .ok (.putfield 16, 3) := by decide +kernel
theorem dX5_init_29 : decode cX5_init 29 = .ok (.aload_n 0, 1) := by decide +kernel
theorem dX5_init_30 : decode cX5_init 30 = .ok (.iconst 3, 1) := by decide +kernel
theorem dX5_init_31 : decode cX5_init 31 = .ok (.newarray .int, 2) := by decide +kernel
theorem dX5_init_33 : decode cX5_init 33 = .ok (.putfield 19, 3) := by decide +kernel
theorem dX5_init_36 : decode cX5_init 36 = .ok (.aload_n 0, 1) := by decide +kernel
theorem dX5_init_37 : decode cX5_init 37 = .ok (.iconst 3, 1) := by decide +kernel
theorem dX5_init_38 : decode cX5_init 38 = .ok (.newarray .int, 2) := by decide +kernel
theorem dX5_init_40 : decode cX5_init 40 = .ok (.putfield 22, 3) := by decide +kernel
theorem dX5_init_43 : decode cX5_init 43 = .ok (.aload_n 0, 1) := by decide +kernel
theorem dX5_init_44 : decode cX5_init 44 = .ok (.bipush 16, 2) := by decide +kernel
theorem dX5_init_46 : decode cX5_init 46 = .ok (.newarray .int, 2) := by decide +kernel
theorem dX5_init_48 : decode cX5_init 48 = .ok (.putfield 25, 3) := by decide +kernel
theorem dX5_init_51 : decode cX5_init 51 = .ok (.aload_n 0, 1) := by decide +kernel
theorem dX5_init_52 : decode cX5_init 52 = .ok (.bipush 40, 2) := by decide +kernel
theorem dX5_init_54 : decode cX5_init 54 = .ok (.newarray .int, 2) := by decide +kernel
theorem dX5_init_56 : decode cX5_init 56 = .ok (.putfield 28, 3) := by decide +kernel
theorem dX5_init_59 : decode cX5_init 59 = .ok (.aload_n 0, 1) := by decide +kernel
theorem dX5_init_60 : decode cX5_init 60 = .ok (.bipush 8, 2) := by decide +kernel
theorem dX5_init_62 : decode cX5_init 62 = .ok (.newarray .int, 2) := by decide +kernel
theorem dX5_init_64 : decode cX5_init 64 = .ok (.putfield 31, 3) := by decide +kernel
theorem dX5_init_67 : decode cX5_init 67 = .ok (.aload_n 0, 1) := by decide +kernel
theorem dX5_init_68 : decode cX5_init 68 = .ok (.sipush 460, 3) := by decide +kernel
theorem dX5_init_71 : decode cX5_init 71 = .ok (.newarray .int, 2) := by decide +kernel
theorem dX5_init_73 : decode cX5_init 73 = .ok (.putfield 34, 3) := by decide +kernel
theorem dX5_init_76 : decode cX5_init 76 = .ok (.aload_n 0, 1) := by decide +kernel
theorem dX5_init_77 : decode cX5_init 77 = .ok (.sipush 460, 3) := by decide +kernel
theorem dX5_init_80 : decode cX5_init 80 = .ok (.newarray .int, 2) := by decide +kernel
theorem dX5_init_82 : decode cX5_init 82 = .ok (.putfield 37, 3) := by decide +kernel
theorem dX5_init_85 : decode cX5_init 85 = .ok (.aload_n 0, 1) := by decide +kernel
theorem dX5_init_86 : decode cX5_init 86 = .ok (.bipush 64, 2) := by decide +kernel
theorem dX5_init_88 : decode cX5_init 88 = .ok (.newarray .int, 2) := by decide +kernel
theorem dX5_init_90 : decode cX5_init 90 = .ok (.putfield 40, 3) := by decide +kernel
theorem dX5_init_93 : decode cX5_init 93 = .ok (.aload_n 0, 1) := by decide +kernel
theorem dX5_init_94 : decode cX5_init 94 = .ok (.iconst 2, 1) := by decide +kernel
theorem dX5_init_95 : decode cX5_init 95 = .ok (.newarray .int, 2) := by decide +kernel
theorem dX5_init_97 : decode cX5_init 97 = .ok (.putfield 43, 3) := by decide +kernel
theorem dX5_init_100 : decode cX5_init 100 = .ok (.aload_n 0, 1) := by decide +kernel
theorem dX5_init_101 : decode cX5_init 101 = .ok (.sipush 2000, 3) := by decide +kernel
theorem dX5_init_104 : decode cX5_init 104 = .ok (.newarray .int, 2) := by decide +kernel
theorem dX5_init_106 : decode cX5_init 106 = .ok (.putfield 46, 3) := by decide +kernel
theorem dX5_init_109 : decode cX5_init 109 = .ok (.aload_n 0, 1) := by decide +kernel
theorem dX5_init_110 : decode cX5_init 110 = .ok (.iconst 2, 1) := by decide +kernel
theorem dX5_init_111 : decode cX5_init 111 = .ok (.newarray .int, 2) := by decide +kernel
theorem dX5_init_113 : decode cX5_init 113 = .ok (.putfield 49, 3) := by decide +kernel
theorem dX5_init_116 : decode cX5_init 116 = .ok (.aload_n 0, 1) := by decide +kernel
theorem dX5_init_117 : decode cX5_init 117 = .ok (.sipush 2000, 3) := by decide +kernel
theorem dX5_init_120 : decode cX5_init 120 = .ok (.newarray .int, 2) := by decide +kernel
theorem dX5_init_122 : decode cX5_init 122 = .ok (.putfield 52, 3) := by decide +kernel
theorem dX5_init_125 : decode cX5_init 125 = .ok (.aload_n 0, 1) := by decide +kernel
theorem dX5_init_126 : decode cX5_init 126 = .ok (.iconst 3, 1) := by decide +kernel
theorem dX5_init_127 : decode cX5_init 127 = .ok (.newarray .int, 2) := by decide +kernel
theorem dX5_init_129 : decode cX5_init 129 = .ok (.putfield 55, 3) := by decide +kernel
theorem dX5_init_132 : decode cX5_init 132 = .ok (.aload_n 0, 1) := by decide +kernel
theorem dX5_init_133 : decode cX5_init 133 = .ok (.bipush 8, 2) := by decide +kernel
theorem dX5_init_135 : decode cX5_init 135 = .ok (.newarray .int, 2) := by decide +kernel
theorem dX5_init_137 : decode cX5_init 137 = .ok (.putfield 58, 3) := by decide +kernel
theorem dX5_init_140 : decode cX5_init 140 = .ok (.aload_n 0, 1) := by decide +kernel
theorem dX5_init_141 : decode cX5_init 141 = .ok (.sipush 256, 3) := by decide +kernel
theorem dX5_init_144 : decode cX5_init 144 = .ok (.newarray .int, 2) := by decide +kernel
theorem dX5_init_146 : decode cX5_init 146 = .ok (.putfield 61, 3) := by decide +kernel
theorem dX5_init_149 : decode cX5_init 149 = .ok (.aload_n 0, 1) := by decide +kernel
theorem dX5_init_150 : decode cX5_init 150 = .ok (.iconst 3, 1) := by decide +kernel
theorem dX5_init_151 : decode cX5_init 151 = .ok (.newarray .int, 2) := by decide +kernel
theorem dX5_init_153 : decode cX5_init 153 = .ok (.putfield 64, 3) := by decide +kernel
theorem dX5_init_156 : decode cX5_init 156 = .ok (.aload_n 0, 1) := by decide +kernel
theorem dX5_init_157 : decode cX5_init 157 = .ok (.iconst 3, 1) := by decide +kernel
theorem dX5_init_158 : decode cX5_init 158 = .ok (.newarray .int, 2) := by decide +kernel
theorem dX5_init_160 : decode cX5_init 160 = .ok (.putfield 67, 3) := by decide +kernel
theorem dX5_init_163 : decode cX5_init 163 = .ok (.aload_n 0, 1) := by decide +kernel
theorem dX5_init_164 : decode cX5_init 164 = .ok (.iconst 3, 1) := by decide +kernel
theorem dX5_init_165 : decode cX5_init 165 = .ok (.newarray .int, 2) := by decide +kernel
theorem dX5_init_167 : decode cX5_init 167 = .ok (.putfield 70, 3) := by decide +kernel
theorem dX5_init_170 : decode cX5_init 170 = .ok (.aload_n 0, 1) := by decide +kernel
theorem dX5_init_171 : decode cX5_init 171 = .ok (.iconst 3, 1) := by decide +kernel
theorem dX5_init_172 : decode cX5_init 172 = .ok (.newarray .int, 2) := by decide +kernel
theorem dX5_init_174 : decode cX5_init 174 = .ok (.putfield 73, 3) := by decide +kernel
theorem dX5_init_177 : decode cX5_init 177 = .ok (.aload_n 0, 1) := by decide +kernel
theorem dX5_init_178 : decode cX5_init 178 = .ok (.iload_n 1, 1) := by decide +kernel
theorem dX5_init_179 : decode cX5_init 179 = .ok (.bipush 16, 2) := by decide +kernel
theorem dX5_init_181 : decode cX5_init 181 = .ok (.sipush 128, 3) := by decide +kernel
theorem dX5_init_184 : decode cX5_init 184 = .ok (.invokestatic 76, 3) := by decide +kernel
theorem dX5_init_187 : decode cX5_init 187 = .ok (.putfield 80, 3) := by decide +kernel
theorem dX5_init_190 : decode cX5_init 190 = .ok (.aload_n 0, 1) := by decide +kernel
theorem dX5_init_191 : decode cX5_init 191 = .ok (.getfield 16, 3) := by decide +kernel
theorem dX5_init_194 : decode cX5_init 194 = .ok (.iconst 0, 1) := by decide +kernel
theorem dX5_init_195 : decode cX5_init 195 = .ok (.iload_n 2, 1) := by decide +kernel
theorem dX5_init_196 : decode cX5_init 196 = .ok (.iconst 0, 1) := by decide +kernel
theorem dX5_init_197 : decode cX5_init 197 = .ok (.bipush 6, 2) := by decide +kernel
theorem dX5_init_199 : decode cX5_init 199 = .ok (.invokestatic 76, 3) := by decide +kernel
theorem dX5_init_202 : decode cX5_init 202 = .ok (.iastore, 1) := by decide +kernel
theorem dX5_init_203 : decode cX5_init 203 = .ok (.aload_n 0, 1) := by decide +kernel
theorem dX5_init_204 : decode cX5_init 204 = .ok (.getfield 16, 3) := by decide +kernel
theorem dX5_init_207 : decode cX5_init 207 = .ok (.iconst 1, 1) := by decide +kernel
theorem dX5_init_208 : decode cX5_init 208 = .ok (.iload_n 3, 1) := by decide +kernel
theorem dX5_init_209 : decode cX5_init 209 = .ok (.iconst 0, 1) := by decide +kernel
theorem dX5_init_210 : decode cX5_init 210 = .ok (.bipush 6, 2) := by decide +kernel
theorem dX5_init_212 : decode cX5_init 212 = .ok (.invokestatic 76, 3) := by decide +kernel
theorem dX5_init_215 : decode cX5_init 215 = .ok (.iastore, 1) := by decide +kernel
theorem dX5_init_216 : decode cX5_init 216 = .ok (.aload_n 0, 1) := by decide +kernel
theorem dX5_init_217 : decode cX5_init 217 = .ok (.iload 4, 2) := by decide +kernel
theorem dX5_init_219 : decode cX5_init 219 = .ok (.iconst 2, 1) := by decide +kernel
theorem dX5_init_220 : decode cX5_init 220 = .ok (.bipush 64, 2) := by decide +kernel
theorem dX5_init_222 : decode cX5_init 222 = .ok (.invokestatic 76, 3) := by decide +kernel
theorem dX5_init_225 : decode cX5_init 225 = .ok (.putfield 84, 3) := by decide +kernel
theorem dX5_init_228 : decode cX5_init 228 = .ok (.return_, 1) := by decide +kernel
theorem dX5_thrown_0 : decode cX5_thrown 0 = .ok (.aload_n 0, 1) := by decide +kernel
theorem dX5_thrown_1 : decode cX5_thrown 1 = .ok (.getfield 87, 3) := by decide +kernel
theorem dX5_thrown_4 : decode cX5_thrown 4 = .ok (.ireturn, 1) := by decide +kernel
theorem dX5_in_0 : decode cX5_in 0 = .ok (.iload_n 0, 1) := by decide +kernel
theorem dX5_in_1 : decode cX5_in 1 = .ok (.iload_n 1, 1) := by decide +kernel
theorem dX5_in_2 : decode cX5_in 2 = .ok (.if_icmp .lt 12, 3) := by decide +kernel
theorem dX5_in_5 : decode cX5_in 5 = .ok (.iload_n 0, 1) := by decide +kernel
theorem dX5_in_6 : decode cX5_in 6 = .ok (.iload_n 2, 1) := by decide +kernel
theorem dX5_in_7 : decode cX5_in 7 = .ok (.if_icmp .gt 7, 3) := by decide +kernel
theorem dX5_in_10 : decode cX5_in 10 = .ok (.iconst 1, 1) := by decide +kernel
theorem dX5_in_11 : decode cX5_in 11 = .ok (.goto 4, 3) := by decide +kernel
theorem dX5_in_14 : decode cX5_in 14 = .ok (.iconst 0, 1) := by decide +kernel
theorem dX5_in_15 : decode cX5_in 15 = .ok (.ireturn, 1) := by decide +kernel
theorem dX5_isRoot_0 : decode cX5_isRoot 0 = .ok (.iload_n 0, 1) := by decide +kernel
theorem dX5_isRoot_1 : decode cX5_isRoot 1 = .ok (.iconst 0, 1) := by decide +kernel
theorem dX5_isRoot_2 : decode cX5_isRoot 2 = .ok (.bipush 15, 2) := by decide +kernel
theorem dX5_isRoot_4 : decode cX5_isRoot 4 = .ok (.invokestatic 90, 3) := by decide +kernel
theorem dX5_isRoot_7 : decode cX5_isRoot 7 = .ok (.ireturn, 1) := by decide +kernel
theorem dX5_size_0 : decode cX5_size 0 = .ok (.aload_n 0, 1) := by decide +kernel
theorem dX5_size_1 : decode cX5_size 1 = .ok (.getfield 80, 3) := by decide +kernel
theorem dX5_size_4 : decode cX5_size 4 = .ok (.iload_n 1, 1) := by decide +kernel
theorem dX5_size_5 : decode cX5_size 5 = .ok (.ishl, 1) := by decide +kernel
theorem dX5_size_6 : decode cX5_size 6 = .ok (.ireturn, 1) := by decide +kernel
theorem dX5_begin_0 : decode cX5_begin 0 = .ok (.iconst 1, 1) := by decide +kernel
theorem dX5_begin_1 : decode cX5_begin 1 = .ok (.aload_n 0, 1) := by decide +kernel
theorem dX5_begin_2 : decode cX5_begin 2 = .ok (.getfield 80, 3) := by decide +kernel
theorem dX5_begin_5 : decode cX5_begin 5 = .ok (.iload_n 1, 1) := by decide +kernel
theorem dX5_begin_6 : decode cX5_begin 6 = .ok (.ifCond .ne 7, 3) := by decide +kernel
theorem dX5_begin_9 : decode cX5_begin 9 = .ok (.iconst 0, 1) := by decide +kernel
theorem dX5_begin_10 : decode cX5_begin 10 = .ok (.goto 14, 3) := by decide +kernel
theorem dX5_begin_13 : decode cX5_begin 13 = .ok (.iload_n 1, 1) := by decide +kernel
theorem dX5_begin_14 : decode cX5_begin 14 = .ok (.iconst 1, 1) := by decide +kernel
theorem dX5_begin_15 : decode cX5_begin 15 = .ok (.if_icmp .ne 7, 3) := by decide +kernel
theorem dX5_begin_18 : decode cX5_begin 18 = .ok (.iconst 2, 1) := by decide +kernel
theorem dX5_begin_19 : decode cX5_begin 19 = .ok (.goto 5, 3) := by decide +kernel
theorem dX5_begin_22 : decode cX5_begin 22 = .ok (.bipush 6, 2) := by decide +kernel
theorem dX5_begin_24 : decode cX5_begin 24 = .ok (.imul, 1) := by decide +kernel
theorem dX5_begin_25 : decode cX5_begin 25 = .ok (.iadd, 1) := by decide +kernel
theorem dX5_begin_26 : decode cX5_begin 26 = .ok (.iload_n 2, 1) := by decide +kernel
theorem dX5_begin_27 : decode cX5_begin 27 = .ok (.aload_n 0, 1) := by decide +kernel
theorem dX5_begin_28 : decode cX5_begin 28 = .ok (.iload_n 1, 1) := by decide +kernel
theorem dX5_begin_29 : decode cX5_begin 29 = .ok (.invokevirtual 94, 3) := by decide +kernel
theorem dX5_begin_32 : decode cX5_begin 32 = .ok (.imul, 1) := by decide +kernel
theorem dX5_begin_33 : decode cX5_begin 33 = .ok (.iadd, 1) := by decide +kernel
theorem dX5_begin_34 : decode cX5_begin 34 = .ok (.ireturn, 1) := by decide +kernel
theorem dX5_generation_0 : decode cX5_generation 0 = .ok (.iload_n 1, 1) := by decide +kernel
theorem dX5_generation_1 : decode cX5_generation 1 = .ok (.iconst 2, 1) := by decide +kernel
theorem dX5_generation_2 : decode cX5_generation 2 = .ok (.aload_n 0, 1) := by decide +kernel
theorem dX5_generation_3 : decode cX5_generation 3 = .ok (.getfield 80, 3) := by decide +kernel
theorem dX5_generation_6 : decode cX5_generation 6 = .ok (.imul, 1) := by decide +kernel
theorem dX5_generation_7 : decode cX5_generation 7 = .ok (.if_icmp .gt 7, 3) := by decide +kernel
theorem dX5_generation_10 : decode cX5_generation 10 = .ok (.iconst 0, 1) := by decide +kernel
theorem dX5_generation_11 : decode cX5_generation 11 = .ok (.goto 19, 3) := by decide +kernel
theorem dX5_generation_14 : decode cX5_generation 14 = .ok (.iload_n 1, 1) := by decide +kernel
theorem dX5_generation_15 : decode cX5_generation 15 = .ok (.bipush 6, 2) := by decide +kernel
theorem dX5_generation_17 : decode cX5_generation 17 = .ok (.aload_n 0, 1) := by decide +kernel
theorem dX5_generation_18 : decode cX5_generation 18 = .ok (.getfield 80, 3) := by decide +kernel
theorem dX5_generation_21 : decode cX5_generation 21 = .ok (.imul, 1) := by decide +kernel
theorem dX5_generation_22 : decode cX5_generation 22 = .ok (.if_icmp .gt 7, 3) := by decide +kernel
theorem dX5_generation_25 : decode cX5_generation 25 = .ok (.iconst 1, 1) := by decide +kernel
theorem dX5_generation_26 : decode cX5_generation 26 = .ok (.goto 4, 3) := by decide +kernel
theorem dX5_generation_29 : decode cX5_generation 29 = .ok (.iconst 2, 1) := by decide +kernel
theorem dX5_generation_30 : decode cX5_generation 30 = .ok (.ireturn, 1) := by decide +kernel
theorem dX5_fields_0 : decode cX5_fields 0 = .ok (.aload_n 0, 1) := by decide +kernel
theorem dX5_fields_1 : decode cX5_fields 1 = .ok (.getfield 7, 3) := by decide +kernel
theorem dX5_fields_4 : decode cX5_fields 4 = .ok (.iload_n 1, 1) := by decide +kernel
theorem dX5_fields_5 : decode cX5_fields 5 = .ok (.iaload, 1) := by decide +kernel
theorem dX5_fields_6 : decode cX5_fields 6 = .ok (.bipush 7, 2) := by decide +kernel
theorem dX5_fields_8 : decode cX5_fields 8 = .ok (.iand, 1) := by decide +kernel
theorem dX5_fields_9 : decode cX5_fields 9 = .ok (.ireturn, 1) := by decide +kernel
theorem dX5_age_0 : decode cX5_age 0 = .ok (.aload_n 0, 1) := by decide +kernel
theorem dX5_age_1 : decode cX5_age 1 = .ok (.getfield 7, 3) := by decide +kernel
theorem dX5_age_4 : decode cX5_age 4 = .ok (.iload_n 1, 1) := by decide +kernel
theorem dX5_age_5 : decode cX5_age 5 = .ok (.iaload, 1) := by decide +kernel
theorem dX5_age_6 : decode cX5_age 6 = .ok (.iconst 3, 1) := by decide +kernel
theorem dX5_age_7 : decode cX5_age 7 = .ok (.ishr, 1) := by decide +kernel
theorem dX5_age_8 : decode cX5_age 8 = .ok (.bipush 7, 2) := by decide +kernel
theorem dX5_age_10 : decode cX5_age 10 = .ok (.iand, 1) := by decide +kernel
theorem dX5_age_11 : decode cX5_age 11 = .ok (.ireturn, 1) := by decide +kernel
theorem dX5_isKeen_0 : decode cX5_isKeen 0 = .ok (.aload_n 0, 1) := by decide +kernel
theorem dX5_isKeen_1 : decode cX5_isKeen 1 = .ok (.getfield 7, 3) := by decide +kernel
theorem dX5_isKeen_4 : decode cX5_isKeen 4 = .ok (.iload_n 1, 1) := by decide +kernel
theorem dX5_isKeen_5 : decode cX5_isKeen 5 = .ok (.iaload, 1) := by decide +kernel
theorem dX5_isKeen_6 : decode cX5_isKeen 6 = .ok (.bipush 64, 2) := by decide +kernel
theorem dX5_isKeen_8 : decode cX5_isKeen 8 = .ok (.iand, 1) := by decide +kernel
theorem dX5_isKeen_9 : decode cX5_isKeen 9 = .ok (.ifCond .le 7, 3) := by decide +kernel
theorem dX5_isKeen_12 : decode cX5_isKeen 12 = .ok (.iconst 1, 1) := by decide +kernel
theorem dX5_isKeen_13 : decode cX5_isKeen 13 = .ok (.goto 4, 3) := by decide +kernel
theorem dX5_isKeen_16 : decode cX5_isKeen 16 = .ok (.iconst 0, 1) := by decide +kernel
theorem dX5_isKeen_17 : decode cX5_isKeen 17 = .ok (.ireturn, 1) := by decide +kernel
theorem dX5_remember_0 : decode cX5_remember 0 = .ok (.iconst 0, 1) := by decide +kernel
theorem dX5_remember_1 : decode cX5_remember 1 = .ok (.istore_n 3, 1) := by decide +kernel
theorem dX5_remember_2 : decode cX5_remember 2 = .ok (.iload_n 3, 1) := by decide +kernel
theorem dX5_remember_3 : decode cX5_remember 3 = .ok (.aload_n 0, 1) := by decide +kernel
theorem dX5_remember_4 : decode cX5_remember 4 = .ok (.getfield 43, 3) := by decide +kernel
theorem dX5_remember_7 : decode cX5_remember 7 = .ok (.iload_n 1, 1) := by decide +kernel
theorem dX5_remember_8 : decode cX5_remember 8 = .ok (.iaload, 1) := by decide +kernel
theorem dX5_remember_9 : decode cX5_remember 9 = .ok (.if_icmp .ge 26, 3) := by decide +kernel
theorem dX5_remember_12 : decode cX5_remember 12 = .ok (.aload_n 0, 1) := by decide +kernel
theorem dX5_remember_13 : decode cX5_remember 13 = .ok (.getfield 46, 3) := by decide +kernel
theorem dX5_remember_16 : decode cX5_remember 16 = .ok (.sipush 1000, 3) := by decide +kernel
theorem dX5_remember_19 : decode cX5_remember 19 = .ok (.iload_n 1, 1) := by decide +kernel
theorem dX5_remember_20 : decode cX5_remember 20 = .ok (.imul, 1) := by decide +kernel
theorem dX5_remember_21 : decode cX5_remember 21 = .ok (.iload_n 3, 1) := by decide +kernel
theorem dX5_remember_22 : decode cX5_remember 22 = .ok (.iadd, 1) := by decide +kernel
theorem dX5_remember_23 : decode cX5_remember 23 = .ok (.iaload, 1) := by decide +kernel
theorem dX5_remember_24 : decode cX5_remember 24 = .ok (.iload_n 2, 1) := by decide +kernel
theorem dX5_remember_25 : decode cX5_remember 25 = .ok (.if_icmp .ne 4, 3) := by decide +kernel
theorem dX5_remember_28 : decode cX5_remember 28 = .ok (.return_, 1) := by decide +kernel
theorem dX5_remember_29 : decode cX5_remember 29 = .ok (.iinc 3 1, 3) := by decide +kernel
theorem dX5_remember_32 : decode cX5_remember 32 = .ok (.goto (-30), 3) := by decide +kernel
theorem dX5_remember_35 : decode cX5_remember 35 = .ok (.aload_n 0, 1) := by decide +kernel
theorem dX5_remember_36 : decode cX5_remember 36 = .ok (.getfield 46, 3) := by decide +kernel
theorem dX5_remember_39 : decode cX5_remember 39 = .ok (.sipush 1000, 3) := by decide +kernel
theorem dX5_remember_42 : decode cX5_remember 42 = .ok (.iload_n 1, 1) := by decide +kernel
theorem dX5_remember_43 : decode cX5_remember 43 = .ok (.imul, 1) := by decide +kernel
theorem dX5_remember_44 : decode cX5_remember 44 = .ok (.aload_n 0, 1) := by decide +kernel
theorem dX5_remember_45 : decode cX5_remember 45 = .ok (.getfield 43, 3) := by decide +kernel
theorem dX5_remember_48 : decode cX5_remember 48 = .ok (.iload_n 1, 1) := by decide +kernel
theorem dX5_remember_49 : decode cX5_remember 49 = .ok (.iaload, 1) := by decide +kernel
theorem dX5_remember_50 : decode cX5_remember 50 = .ok (.iadd, 1) := by decide +kernel
theorem dX5_remember_51 : decode cX5_remember 51 = .ok (.iload_n 2, 1) := by decide +kernel
theorem dX5_remember_52 : decode cX5_remember 52 = .ok (.iastore, 1) := by decide +kernel
theorem dX5_remember_53 : decode cX5_remember 53 = .ok (.aload_n 0, 1) := by decide +kernel
theorem dX5_remember_54 : decode cX5_remember 54 = .ok (.getfield 43, 3) := by decide +kernel
theorem dX5_remember_57 : decode cX5_remember 57 = .ok (.iload_n 1, 1) := by decide +kernel
theorem dX5_remember_58 : decode cX5_remember 58 = .ok (.dup2, 1) := by decide +kernel
theorem dX5_remember_59 : decode cX5_remember 59 = .ok (.iaload, 1) := by decide +kernel
theorem dX5_remember_60 : decode cX5_remember 60 = .ok (.iconst 1, 1) := by decide +kernel
theorem dX5_remember_61 : decode cX5_remember 61 = .ok (.iadd, 1) := by decide +kernel
theorem dX5_remember_62 : decode cX5_remember 62 = .ok (.iastore, 1) := by decide +kernel
theorem dX5_remember_63 : decode cX5_remember 63 = .ok (.return_, 1) := by decide +kernel
theorem dX5_rememberIf_0 : decode cX5_rememberIf 0 = .ok (.aload_n 0, 1) := by decide +kernel
theorem dX5_rememberIf_1 : decode cX5_rememberIf 1 = .ok (.getfield 7, 3) := by decide +kernel
theorem dX5_rememberIf_4 : decode cX5_rememberIf 4 = .ok (.iload_n 1, 1) := by decide +kernel
theorem dX5_rememberIf_5 : decode cX5_rememberIf 5 = .ok (.iaload, 1) := by decide +kernel
theorem dX5_rememberIf_6 : decode cX5_rememberIf 6 = .ok (.istore_n 2, 1) := by decide +kernel
theorem dX5_rememberIf_7 : decode cX5_rememberIf 7 = .ok (.iload_n 2, 1) := by decide +kernel
theorem dX5_rememberIf_8 : decode cX5_rememberIf 8 = .ok (.ifCond .eq 26, 3) := by decide +kernel
theorem dX5_rememberIf_11 : decode cX5_rememberIf 11 = .ok (.aload_n 0, 1) := by decide +kernel
theorem dX5_rememberIf_12 : decode cX5_rememberIf 12 = .ok (.iload_n 2, 1) := by decide +kernel
theorem dX5_rememberIf_13 : decode cX5_rememberIf 13 = .ok (.invokevirtual 98, 3) := by decide +kernel
theorem dX5_rememberIf_16 : decode cX5_rememberIf 16 = .ok (.aload_n 0, 1) := by decide +kernel
theorem dX5_rememberIf_17 : decode cX5_rememberIf 17 = .ok (.iload_n 1, 1) := by decide +kernel
theorem dX5_rememberIf_18 : decode cX5_rememberIf 18 = .ok (.invokevirtual 98, 3) := by decide +kernel
theorem dX5_rememberIf_21 : decode cX5_rememberIf 21 = .ok (.if_icmp .ge 13, 3) := by decide +kernel
theorem dX5_rememberIf_24 : decode cX5_rememberIf 24 = .ok (.aload_n 0, 1) := by decide +kernel
theorem dX5_rememberIf_25 : decode cX5_rememberIf 25 = .ok (.aload_n 0, 1) := by decide +kernel
theorem dX5_rememberIf_26 : decode cX5_rememberIf 26 = .ok (.iload_n 2, 1) := by decide +kernel
theorem dX5_rememberIf_27 : decode cX5_rememberIf 27 = .ok (.invokevirtual 98, 3) := by decide +kernel
theorem dX5_rememberIf_30 : decode cX5_rememberIf 30 = .ok (.iload_n 1, 1) := by decide +kernel
theorem dX5_rememberIf_31 : decode cX5_rememberIf 31 = .ok (.invokevirtual 101, 3) := by decide +kernel
theorem dX5_rememberIf_34 : decode cX5_rememberIf 34 = .ok (.return_, 1) := by decide +kernel
theorem dX5_filter_0 : decode cX5_filter 0 = .ok (.iconst 0, 1) := by decide +kernel
theorem dX5_filter_1 : decode cX5_filter 1 = .ok (.istore_n 1, 1) := by decide +kernel
theorem dX5_filter_2 : decode cX5_filter 2 = .ok (.iload_n 1, 1) := by decide +kernel
theorem dX5_filter_3 : decode cX5_filter 3 = .ok (.aload_n 0, 1) := by decide +kernel
theorem dX5_filter_4 : decode cX5_filter 4 = .ok (.getfield 105, 3) := by decide +kernel
theorem dX5_filter_7 : decode cX5_filter 7 = .ok (.if_icmp .ge 19, 3) := by decide +kernel
theorem dX5_filter_10 : decode cX5_filter 10 = .ok (.aload_n 0, 1) := by decide +kernel
theorem dX5_filter_11 : decode cX5_filter 11 = .ok (.aload_n 0, 1) := by decide +kernel
theorem dX5_filter_12 : decode cX5_filter 12 = .ok (.getfield 40, 3) := by decide +kernel
theorem dX5_filter_15 : decode cX5_filter 15 = .ok (.iload_n 1, 1) := by decide +kernel
theorem dX5_filter_16 : decode cX5_filter 16 = .ok (.iaload, 1) := by decide +kernel
theorem dX5_filter_17 : decode cX5_filter 17 = .ok (.invokevirtual 108, 3) := by decide +kernel
theorem dX5_filter_20 : decode cX5_filter 20 = .ok (.iinc 1 1, 3) := by decide +kernel
theorem dX5_filter_23 : decode cX5_filter 23 = .ok (.goto (-21), 3) := by decide +kernel
theorem dX5_filter_26 : decode cX5_filter 26 = .ok (.aload_n 0, 1) := by decide +kernel
theorem dX5_filter_27 : decode cX5_filter 27 = .ok (.iconst 0, 1) := by decide +kernel
theorem dX5_filter_28 : decode cX5_filter 28 = .ok (.putfield 105, 3) := by decide +kernel
theorem dX5_filter_31 : decode cX5_filter 31 = .ok (.return_, 1) := by decide +kernel
theorem dX5_store_0 : decode cX5_store 0 = .ok (.aload_n 0, 1) := by decide +kernel
theorem dX5_store_1 : decode cX5_store 1 = .ok (.getfield 7, 3) := by decide +kernel
theorem dX5_store_4 : decode cX5_store 4 = .ok (.iload_n 1, 1) := by decide +kernel
theorem dX5_store_5 : decode cX5_store 5 = .ok (.iload_n 2, 1) := by decide +kernel
theorem dX5_store_6 : decode cX5_store 6 = .ok (.iastore, 1) := by decide +kernel
theorem dX5_store_7 : decode cX5_store 7 = .ok (.iload_n 2, 1) := by decide +kernel
theorem dX5_store_8 : decode cX5_store 8 = .ok (.ifCond .ne 4, 3) := by decide +kernel
theorem dX5_store_11 : decode cX5_store 11 = .ok (.return_, 1) := by decide +kernel
theorem dX5_store_12 : decode cX5_store 12 = .ok (.aload_n 0, 1) := by decide +kernel
theorem dX5_store_13 : decode cX5_store 13 = .ok (.getfield 105, 3) := by decide +kernel
theorem dX5_store_16 : decode cX5_store 16 = .ok (.aload_n 0, 1) := by decide +kernel
theorem dX5_store_17 : decode cX5_store 17 = .ok (.getfield 84, 3) := by decide +kernel
theorem dX5_store_20 : decode cX5_store 20 = .ok (.if_icmp .ne 17, 3) := by decide +kernel
theorem dX5_store_23 : decode cX5_store 23 = .ok (.aload_n 0, 1) := by decide +kernel
theorem dX5_store_24 : decode cX5_store 24 = .ok (.dup, 1) := by decide +kernel
theorem dX5_store_25 : decode cX5_store 25 = .ok (.getfield 112, 3) := by decide +kernel
theorem dX5_store_28 : decode cX5_store 28 = .ok (.iconst 1, 1) := by decide +kernel
theorem dX5_store_29 : decode cX5_store 29 = .ok (.iadd, 1) := by decide +kernel
theorem dX5_store_30 : decode cX5_store 30 = .ok (.putfield 112, 3) := by decide +kernel
theorem dX5_store_33 : decode cX5_store 33 = .ok (.aload_n 0, 1) := by decide +kernel
theorem dX5_store_34 : decode cX5_store 34 = .ok (.invokevirtual 115, 3) := by decide +kernel
theorem dX5_store_37 : decode cX5_store 37 = .ok (.aload_n 0, 1) := by decide +kernel
theorem dX5_store_38 : decode cX5_store 38 = .ok (.getfield 40, 3) := by decide +kernel
theorem dX5_store_41 : decode cX5_store 41 = .ok (.aload_n 0, 1) := by decide +kernel
theorem dX5_store_42 : decode cX5_store 42 = .ok (.getfield 105, 3) := by decide +kernel
theorem dX5_store_45 : decode cX5_store 45 = .ok (.iload_n 1, 1) := by decide +kernel
theorem dX5_store_46 : decode cX5_store 46 = .ok (.iastore, 1) := by decide +kernel
theorem dX5_store_47 : decode cX5_store 47 = .ok (.aload_n 0, 1) := by decide +kernel
theorem dX5_store_48 : decode cX5_store 48 = .ok (.dup, 1) := by decide +kernel
theorem dX5_store_49 : decode cX5_store 49 = .ok (.getfield 105, 3) := by decide +kernel
theorem dX5_store_52 : decode cX5_store 52 = .ok (.iconst 1, 1) := by decide +kernel
theorem dX5_store_53 : decode cX5_store 53 = .ok (.iadd, 1) := by decide +kernel
theorem dX5_store_54 : decode cX5_store 54 = .ok (.putfield 105, 3) := by decide +kernel
theorem dX5_store_57 : decode cX5_store 57 = .ok (.return_, 1) := by decide +kernel
theorem dX5_isFrom_0 : decode cX5_isFrom 0 = .ok (.aload_n 0, 1) := by decide +kernel
theorem dX5_isFrom_1 : decode cX5_isFrom 1 = .ok (.iload_n 1, 1) := by decide +kernel
theorem dX5_isFrom_2 : decode cX5_isFrom 2 = .ok (.invokevirtual 98, 3) := by decide +kernel
theorem dX5_isFrom_5 : decode cX5_isFrom 5 = .ok (.istore_n 2, 1) := by decide +kernel
theorem dX5_isFrom_6 : decode cX5_isFrom 6 = .ok (.iload_n 1, 1) := by decide +kernel
theorem dX5_isFrom_7 : decode cX5_isFrom 7 = .ok (.ifCond .eq 35, 3) := by decide +kernel
theorem dX5_isFrom_10 : decode cX5_isFrom 10 = .ok (.iload_n 2, 1) := by decide +kernel
theorem dX5_isFrom_11 : decode cX5_isFrom 11 = .ok (.aload_n 0, 1) := by decide +kernel
theorem dX5_isFrom_12 : decode cX5_isFrom 12 = .ok (.getfield 118, 3) := by decide +kernel
theorem dX5_isFrom_15 : decode cX5_isFrom 15 = .ok (.if_icmp .gt 27, 3) := by decide +kernel
theorem dX5_isFrom_18 : decode cX5_isFrom 18 = .ok (.iload_n 1, 1) := by decide +kernel
theorem dX5_isFrom_19 : decode cX5_isFrom 19 = .ok (.aload_n 0, 1) := by decide +kernel
theorem dX5_isFrom_20 : decode cX5_isFrom 20 = .ok (.getfield 64, 3) := by decide +kernel
theorem dX5_isFrom_23 : decode cX5_isFrom 23 = .ok (.iload_n 2, 1) := by decide +kernel
theorem dX5_isFrom_24 : decode cX5_isFrom 24 = .ok (.iaload, 1) := by decide +kernel
theorem dX5_isFrom_25 : decode cX5_isFrom 25 = .ok (.if_icmp .lt 17, 3) := by decide +kernel
theorem dX5_isFrom_28 : decode cX5_isFrom 28 = .ok (.iload_n 1, 1) := by decide +kernel
theorem dX5_isFrom_29 : decode cX5_isFrom 29 = .ok (.aload_n 0, 1) := by decide +kernel
theorem dX5_isFrom_30 : decode cX5_isFrom 30 = .ok (.getfield 67, 3) := by decide +kernel
theorem dX5_isFrom_33 : decode cX5_isFrom 33 = .ok (.iload_n 2, 1) := by decide +kernel
theorem dX5_isFrom_34 : decode cX5_isFrom 34 = .ok (.iaload, 1) := by decide +kernel
theorem dX5_isFrom_35 : decode cX5_isFrom 35 = .ok (.if_icmp .ge 7, 3) := by decide +kernel
theorem dX5_isFrom_38 : decode cX5_isFrom 38 = .ok (.iconst 1, 1) := by decide +kernel
theorem dX5_isFrom_39 : decode cX5_isFrom 39 = .ok (.goto 4, 3) := by decide +kernel
theorem dX5_isFrom_42 : decode cX5_isFrom 42 = .ok (.iconst 0, 1) := by decide +kernel
theorem dX5_isFrom_43 : decode cX5_isFrom 43 = .ok (.ireturn, 1) := by decide +kernel
theorem dX5_fits_0 : decode cX5_fits 0 = .ok (.aload_n 0, 1) := by decide +kernel
theorem dX5_fits_1 : decode cX5_fits 1 = .ok (.getfield 22, 3) := by decide +kernel
theorem dX5_fits_4 : decode cX5_fits 4 = .ok (.iload_n 1, 1) := by decide +kernel
theorem dX5_fits_5 : decode cX5_fits 5 = .ok (.iaload, 1) := by decide +kernel
theorem dX5_fits_6 : decode cX5_fits 6 = .ok (.iload_n 2, 1) := by decide +kernel
theorem dX5_fits_7 : decode cX5_fits 7 = .ok (.iadd, 1) := by decide +kernel
theorem dX5_fits_8 : decode cX5_fits 8 = .ok (.iload_n 1, 1) := by decide +kernel
theorem dX5_fits_9 : decode cX5_fits 9 = .ok (.aload_n 0, 1) := by decide +kernel
theorem dX5_fits_10 : decode cX5_fits 10 = .ok (.getfield 118, 3) := by decide +kernel
theorem dX5_fits_13 : decode cX5_fits 13 = .ok (.if_icmp .gt 12, 3) := by decide +kernel
theorem dX5_fits_16 : decode cX5_fits 16 = .ok (.aload_n 0, 1) := by decide +kernel
theorem dX5_fits_17 : decode cX5_fits 17 = .ok (.getfield 70, 3) := by decide +kernel
theorem dX5_fits_20 : decode cX5_fits 20 = .ok (.iload_n 1, 1) := by decide +kernel
theorem dX5_fits_21 : decode cX5_fits 21 = .ok (.iaload, 1) := by decide +kernel
theorem dX5_fits_22 : decode cX5_fits 22 = .ok (.goto 4, 3) := by decide +kernel
theorem dX5_fits_25 : decode cX5_fits 25 = .ok (.iconst 0, 1) := by decide +kernel
theorem dX5_fits_26 : decode cX5_fits 26 = .ok (.iadd, 1) := by decide +kernel
theorem dX5_fits_27 : decode cX5_fits 27 = .ok (.istore_n 3, 1) := by decide +kernel
theorem dX5_fits_28 : decode cX5_fits 28 = .ok (.iload_n 3, 1) := by decide +kernel
theorem dX5_fits_29 : decode cX5_fits 29 = .ok (.aload_n 0, 1) := by decide +kernel
theorem dX5_fits_30 : decode cX5_fits 30 = .ok (.iload_n 1, 1) := by decide +kernel
theorem dX5_fits_31 : decode cX5_fits 31 = .ok (.invokevirtual 94, 3) := by decide +kernel
theorem dX5_fits_34 : decode cX5_fits 34 = .ok (.if_icmp .gt 7, 3) := by decide +kernel
theorem dX5_fits_37 : decode cX5_fits 37 = .ok (.iconst 1, 1) := by decide +kernel
theorem dX5_fits_38 : decode cX5_fits 38 = .ok (.goto 4, 3) := by decide +kernel
theorem dX5_fits_41 : decode cX5_fits 41 = .ok (.iconst 0, 1) := by decide +kernel
theorem dX5_fits_42 : decode cX5_fits 42 = .ok (.ireturn, 1) := by decide +kernel
theorem dX5_copy_0 : decode cX5_copy 0 = .ok (.aload_n 0, 1) := by decide +kernel
theorem dX5_copy_1 : decode cX5_copy 1 = .ok (.iload_n 1, 1) := by decide +kernel
theorem dX5_copy_2 : decode cX5_copy 2 = .ok (.invokevirtual 98, 3) := by decide +kernel
theorem dX5_copy_5 : decode cX5_copy 5 = .ok (.istore_n 2, 1) := by decide +kernel
theorem dX5_copy_6 : decode cX5_copy 6 = .ok (.aload_n 0, 1) := by decide +kernel
theorem dX5_copy_7 : decode cX5_copy 7 = .ok (.iload_n 1, 1) := by decide +kernel
theorem dX5_copy_8 : decode cX5_copy 8 = .ok (.invokevirtual 121, 3) := by decide +kernel
theorem dX5_copy_11 : decode cX5_copy 11 = .ok (.iconst 2, 1) := by decide +kernel
theorem dX5_copy_12 : decode cX5_copy 12 = .ok (.iadd, 1) := by decide +kernel
theorem dX5_copy_13 : decode cX5_copy 13 = .ok (.istore_n 3, 1) := by decide +kernel
theorem dX5_copy_14 : decode cX5_copy 14 = .ok (.aload_n 0, 1) := by decide +kernel
theorem dX5_copy_15 : decode cX5_copy 15 = .ok (.iload_n 1, 1) := by decide +kernel
theorem dX5_copy_16 : decode cX5_copy 16 = .ok (.invokevirtual 124, 3) := by decide +kernel
theorem dX5_copy_19 : decode cX5_copy 19 = .ok (.bipush 7, 2) := by decide +kernel
theorem dX5_copy_21 : decode cX5_copy 21 = .ok (.if_icmp .ge 13, 3) := by decide +kernel
theorem dX5_copy_24 : decode cX5_copy 24 = .ok (.aload_n 0, 1) := by decide +kernel
theorem dX5_copy_25 : decode cX5_copy 25 = .ok (.iload_n 1, 1) := by decide +kernel
theorem dX5_copy_26 : decode cX5_copy 26 = .ok (.invokevirtual 124, 3) := by decide +kernel
theorem dX5_copy_29 : decode cX5_copy 29 = .ok (.iconst 1, 1) := by decide +kernel
theorem dX5_copy_30 : decode cX5_copy 30 = .ok (.iadd, 1) := by decide +kernel
theorem dX5_copy_31 : decode cX5_copy 31 = .ok (.goto 5, 3) := by decide +kernel
theorem dX5_copy_34 : decode cX5_copy 34 = .ok (.bipush 7, 2) := by decide +kernel
theorem dX5_copy_36 : decode cX5_copy 36 = .ok (.istore 4, 2) := by decide +kernel
theorem dX5_copy_38 : decode cX5_copy 38 = .ok (.aload_n 0, 1) := by decide +kernel
theorem dX5_copy_39 : decode cX5_copy 39 = .ok (.getfield 70, 3) := by decide +kernel
theorem dX5_copy_42 : decode cX5_copy 42 = .ok (.iload_n 2, 1) := by decide +kernel
theorem dX5_copy_43 : decode cX5_copy 43 = .ok (.aload_n 0, 1) := by decide +kernel
theorem dX5_copy_44 : decode cX5_copy 44 = .ok (.getfield 70, 3) := by decide +kernel
theorem dX5_copy_47 : decode cX5_copy 47 = .ok (.iload_n 2, 1) := by decide +kernel
theorem dX5_copy_48 : decode cX5_copy 48 = .ok (.iaload, 1) := by decide +kernel
theorem dX5_copy_49 : decode cX5_copy 49 = .ok (.iload_n 3, 1) := by decide +kernel
theorem dX5_copy_50 : decode cX5_copy 50 = .ok (.isub, 1) := by decide +kernel
theorem dX5_copy_51 : decode cX5_copy 51 = .ok (.iastore, 1) := by decide +kernel
theorem dX5_copy_52 : decode cX5_copy 52 = .ok (.iload_n 2, 1) := by decide +kernel
theorem dX5_copy_53 : decode cX5_copy 53 = .ok (.iconst 2, 1) := by decide +kernel
theorem dX5_copy_54 : decode cX5_copy 54 = .ok (.if_icmp .ge 40, 3) := by decide +kernel
theorem dX5_copy_57 : decode cX5_copy 57 = .ok (.iload 4, 2) := by decide +kernel
theorem dX5_copy_59 : decode cX5_copy 59 = .ok (.aload_n 0, 1) := by decide +kernel
theorem dX5_copy_60 : decode cX5_copy 60 = .ok (.getfield 16, 3) := by decide +kernel
theorem dX5_copy_63 : decode cX5_copy 63 = .ok (.iload_n 2, 1) := by decide +kernel
theorem dX5_copy_64 : decode cX5_copy 64 = .ok (.iconst 2, 1) := by decide +kernel
theorem dX5_copy_65 : decode cX5_copy 65 = .ok (.if_icmp .ge 7, 3) := by decide +kernel
theorem dX5_copy_68 : decode cX5_copy 68 = .ok (.iload_n 2, 1) := by decide +kernel
theorem dX5_copy_69 : decode cX5_copy 69 = .ok (.goto 4, 3) := by decide +kernel
theorem dX5_copy_72 : decode cX5_copy 72 = .ok (.iconst 0, 1) := by decide +kernel
theorem dX5_copy_73 : decode cX5_copy 73 = .ok (.iaload, 1) := by decide +kernel
theorem dX5_copy_74 : decode cX5_copy 74 = .ok (.if_icmp .le 20, 3) := by decide +kernel
theorem dX5_copy_77 : decode cX5_copy 77 = .ok (.aload_n 0, 1) := by decide +kernel
theorem dX5_copy_78 : decode cX5_copy 78 = .ok (.iload_n 2, 1) := by decide +kernel
theorem dX5_copy_79 : decode cX5_copy 79 = .ok (.iconst 1, 1) := by decide +kernel
theorem dX5_copy_80 : decode cX5_copy 80 = .ok (.iadd, 1) := by decide +kernel
theorem dX5_copy_81 : decode cX5_copy 81 = .ok (.iload_n 3, 1) := by decide +kernel
theorem dX5_copy_82 : decode cX5_copy 82 = .ok (.invokevirtual 127, 3) := by decide +kernel
theorem dX5_copy_85 : decode cX5_copy 85 = .ok (.ifCond .eq 9, 3) := by decide +kernel
theorem dX5_copy_88 : decode cX5_copy 88 = .ok (.iload_n 2, 1) := by decide +kernel
theorem dX5_copy_89 : decode cX5_copy 89 = .ok (.iconst 1, 1) := by decide +kernel
theorem dX5_copy_90 : decode cX5_copy 90 = .ok (.iadd, 1) := by decide +kernel
theorem dX5_copy_91 : decode cX5_copy 91 = .ok (.goto 4, 3) := by decide +kernel
theorem dX5_copy_94 : decode cX5_copy 94 = .ok (.iload_n 2, 1) := by decide +kernel
theorem dX5_copy_95 : decode cX5_copy 95 = .ok (.istore 5, 2) := by decide +kernel
theorem dX5_copy_97 : decode cX5_copy 97 = .ok (.aload_n 0, 1) := by decide +kernel
theorem dX5_copy_98 : decode cX5_copy 98 = .ok (.iload 5, 2) := by decide +kernel
theorem dX5_copy_100 : decode cX5_copy 100 = .ok (.aload_n 0, 1) := by decide +kernel
theorem dX5_copy_101 : decode cX5_copy 101 = .ok (.getfield 19, 3) := by decide +kernel
theorem dX5_copy_104 : decode cX5_copy 104 = .ok (.iload 5, 2) := by decide +kernel
theorem dX5_copy_106 : decode cX5_copy 106 = .ok (.iaload, 1) := by decide +kernel
theorem dX5_copy_107 : decode cX5_copy 107 = .ok (.invokevirtual 131, 3) := by decide +kernel
theorem dX5_copy_110 : decode cX5_copy 110 = .ok (.aload_n 0, 1) := by decide +kernel
theorem dX5_copy_111 : decode cX5_copy 111 = .ok (.getfield 22, 3) := by decide +kernel
theorem dX5_copy_114 : decode cX5_copy 114 = .ok (.iload 5, 2) := by decide +kernel
theorem dX5_copy_116 : decode cX5_copy 116 = .ok (.iaload, 1) := by decide +kernel
theorem dX5_copy_117 : decode cX5_copy 117 = .ok (.iadd, 1) := by decide +kernel
theorem dX5_copy_118 : decode cX5_copy 118 = .ok (.istore 6, 2) := by decide +kernel
theorem dX5_copy_120 : decode cX5_copy 120 = .ok (.aload_n 0, 1) := by decide +kernel
theorem dX5_copy_121 : decode cX5_copy 121 = .ok (.getfield 22, 3) := by decide +kernel
theorem dX5_copy_124 : decode cX5_copy 124 = .ok (.iload 5, 2) := by decide +kernel
theorem dX5_copy_126 : decode cX5_copy 126 = .ok (.aload_n 0, 1) := by decide +kernel
theorem dX5_copy_127 : decode cX5_copy 127 = .ok (.getfield 22, 3) := by decide +kernel
theorem dX5_copy_130 : decode cX5_copy 130 = .ok (.iload 5, 2) := by decide +kernel
theorem dX5_copy_132 : decode cX5_copy 132 = .ok (.iaload, 1) := by decide +kernel
theorem dX5_copy_133 : decode cX5_copy 133 = .ok (.iload_n 3, 1) := by decide +kernel
theorem dX5_copy_134 : decode cX5_copy 134 = .ok (.iadd, 1) := by decide +kernel
theorem dX5_copy_135 : decode cX5_copy 135 = .ok (.iastore, 1) := by decide +kernel
theorem dX5_copy_136 : decode cX5_copy 136 = .ok (.iconst 0, 1) := by decide +kernel
theorem dX5_copy_137 : decode cX5_copy 137 = .ok (.istore 7, 2) := by decide +kernel
theorem dX5_copy_139 : decode cX5_copy 139 = .ok (.iload 7, 2) := by decide +kernel
theorem dX5_copy_141 : decode cX5_copy 141 = .ok (.iload_n 3, 1) := by decide +kernel
theorem dX5_copy_142 : decode cX5_copy 142 = .ok (.if_icmp .ge 28, 3) := by decide +kernel
theorem dX5_copy_145 : decode cX5_copy 145 = .ok (.aload_n 0, 1) := by decide +kernel
theorem dX5_copy_146 : decode cX5_copy 146 = .ok (.getfield 7, 3) := by decide +kernel
theorem dX5_copy_149 : decode cX5_copy 149 = .ok (.iload 6, 2) := by decide +kernel
theorem dX5_copy_151 : decode cX5_copy 151 = .ok (.iload 7, 2) := by decide +kernel
theorem dX5_copy_153 : decode cX5_copy 153 = .ok (.iadd, 1) := by decide +kernel
theorem dX5_copy_154 : decode cX5_copy 154 = .ok (.aload_n 0, 1) := by decide +kernel
theorem dX5_copy_155 : decode cX5_copy 155 = .ok (.getfield 7, 3) := by decide +kernel
theorem dX5_copy_158 : decode cX5_copy 158 = .ok (.iload_n 1, 1) := by decide +kernel
theorem dX5_copy_159 : decode cX5_copy 159 = .ok (.iload 7, 2) := by decide +kernel
theorem dX5_copy_161 : decode cX5_copy 161 = .ok (.iadd, 1) := by decide +kernel
theorem dX5_copy_162 : decode cX5_copy 162 = .ok (.iaload, 1) := by decide +kernel
theorem dX5_copy_163 : decode cX5_copy 163 = .ok (.iastore, 1) := by decide +kernel
theorem dX5_copy_164 : decode cX5_copy 164 = .ok (.iinc 7 1, 3) := by decide +kernel
theorem dX5_copy_167 : decode cX5_copy 167 = .ok (.goto (-28), 3) := by decide +kernel
theorem dX5_copy_170 : decode cX5_copy 170 = .ok (.aload_n 0, 1) := by decide +kernel
theorem dX5_copy_171 : decode cX5_copy 171 = .ok (.getfield 7, 3) := by decide +kernel
theorem dX5_copy_174 : decode cX5_copy 174 = .ok (.iload 6, 2) := by decide +kernel
theorem dX5_copy_176 : decode cX5_copy 176 = .ok (.aload_n 0, 1) := by decide +kernel
theorem dX5_copy_177 : decode cX5_copy 177 = .ok (.iload_n 1, 1) := by decide +kernel
theorem dX5_copy_178 : decode cX5_copy 178 = .ok (.invokevirtual 121, 3) := by decide +kernel
theorem dX5_copy_181 : decode cX5_copy 181 = .ok (.bipush 8, 2) := by decide +kernel
theorem dX5_copy_183 : decode cX5_copy 183 = .ok (.iload 5, 2) := by decide +kernel
theorem dX5_copy_185 : decode cX5_copy 185 = .ok (.iload_n 2, 1) := by decide +kernel
theorem dX5_copy_186 : decode cX5_copy 186 = .ok (.if_icmp .le 7, 3) := by decide +kernel
theorem dX5_copy_189 : decode cX5_copy 189 = .ok (.iconst 0, 1) := by decide +kernel
theorem dX5_copy_190 : decode cX5_copy 190 = .ok (.goto 5, 3) := by decide +kernel
theorem dX5_copy_193 : decode cX5_copy 193 = .ok (.iload 4, 2) := by decide +kernel
theorem dX5_copy_195 : decode cX5_copy 195 = .ok (.imul, 1) := by decide +kernel
theorem dX5_copy_196 : decode cX5_copy 196 = .ok (.iadd, 1) := by decide +kernel
theorem dX5_copy_197 : decode cX5_copy 197 = .ok (.aload_n 0, 1) := by decide +kernel
theorem dX5_copy_198 : decode cX5_copy 198 = .ok (.getfield 7, 3) := by decide +kernel
theorem dX5_copy_201 : decode cX5_copy 201 = .ok (.iload_n 1, 1) := by decide +kernel
theorem dX5_copy_202 : decode cX5_copy 202 = .ok (.iaload, 1) := by decide +kernel
theorem dX5_copy_203 : decode cX5_copy 203 = .ok (.bipush 64, 2) := by decide +kernel
theorem dX5_copy_205 : decode cX5_copy 205 = .ok (.iand, 1) := by decide +kernel
theorem dX5_copy_206 : decode cX5_copy 206 = .ok (.iadd, 1) := by decide +kernel
theorem dX5_copy_207 : decode cX5_copy 207 = .ok (.iastore, 1) := by decide +kernel
theorem dX5_copy_208 : decode cX5_copy 208 = .ok (.aload_n 0, 1) := by decide +kernel
theorem dX5_copy_209 : decode cX5_copy 209 = .ok (.iload 5, 2) := by decide +kernel
theorem dX5_copy_211 : decode cX5_copy 211 = .ok (.iload_n 2, 1) := by decide +kernel
theorem dX5_copy_212 : decode cX5_copy 212 = .ok (.if_icmp .le 12, 3) := by decide +kernel
theorem dX5_copy_215 : decode cX5_copy 215 = .ok (.aload_n 0, 1) := by decide +kernel
theorem dX5_copy_216 : decode cX5_copy 216 = .ok (.getfield 135, 3) := by decide +kernel
theorem dX5_copy_219 : decode cX5_copy 219 = .ok (.iconst 1, 1) := by decide +kernel
theorem dX5_copy_220 : decode cX5_copy 220 = .ok (.iadd, 1) := by decide +kernel
theorem dX5_copy_221 : decode cX5_copy 221 = .ok (.goto 7, 3) := by decide +kernel
theorem dX5_copy_224 : decode cX5_copy 224 = .ok (.aload_n 0, 1) := by decide +kernel
theorem dX5_copy_225 : decode cX5_copy 225 = .ok (.getfield 135, 3) := by decide +kernel
theorem dX5_copy_228 : decode cX5_copy 228 = .ok (.putfield 135, 3) := by decide +kernel
theorem dX5_copy_231 : decode cX5_copy 231 = .ok (.aload_n 0, 1) := by decide +kernel
theorem dX5_copy_232 : decode cX5_copy 232 = .ok (.aload_n 0, 1) := by decide +kernel
theorem dX5_copy_233 : decode cX5_copy 233 = .ok (.getfield 138, 3) := by decide +kernel
theorem dX5_copy_236 : decode cX5_copy 236 = .ok (.iload_n 3, 1) := by decide +kernel
theorem dX5_copy_237 : decode cX5_copy 237 = .ok (.iadd, 1) := by decide +kernel
theorem dX5_copy_238 : decode cX5_copy 238 = .ok (.putfield 138, 3) := by decide +kernel
theorem dX5_copy_241 : decode cX5_copy 241 = .ok (.aload_n 0, 1) := by decide +kernel
theorem dX5_copy_242 : decode cX5_copy 242 = .ok (.getfield 13, 3) := by decide +kernel
theorem dX5_copy_245 : decode cX5_copy 245 = .ok (.iload_n 1, 1) := by decide +kernel
theorem dX5_copy_246 : decode cX5_copy 246 = .ok (.iload 6, 2) := by decide +kernel
theorem dX5_copy_248 : decode cX5_copy 248 = .ok (.iastore, 1) := by decide +kernel
theorem dX5_copy_249 : decode cX5_copy 249 = .ok (.iload 6, 2) := by decide +kernel
theorem dX5_copy_251 : decode cX5_copy 251 = .ok (.ireturn, 1) := by decide +kernel
theorem dX5_bring_0 : decode cX5_bring 0 = .ok (.aload_n 0, 1) := by decide +kernel
theorem dX5_bring_1 : decode cX5_bring 1 = .ok (.iload_n 1, 1) := by decide +kernel
theorem dX5_bring_2 : decode cX5_bring 2 = .ok (.invokevirtual 141, 3) := by decide +kernel
theorem dX5_bring_5 : decode cX5_bring 5 = .ok (.ifCond .ne 5, 3) := by decide +kernel
theorem dX5_bring_8 : decode cX5_bring 8 = .ok (.iload_n 1, 1) := by decide +kernel
theorem dX5_bring_9 : decode cX5_bring 9 = .ok (.ireturn, 1) := by decide +kernel
theorem dX5_bring_10 : decode cX5_bring 10 = .ok (.aload_n 0, 1) := by decide +kernel
theorem dX5_bring_11 : decode cX5_bring 11 = .ok (.getfield 13, 3) := by decide +kernel
theorem dX5_bring_14 : decode cX5_bring 14 = .ok (.iload_n 1, 1) := by decide +kernel
theorem dX5_bring_15 : decode cX5_bring 15 = .ok (.iaload, 1) := by decide +kernel
theorem dX5_bring_16 : decode cX5_bring 16 = .ok (.ifCond .eq 12, 3) := by decide +kernel
theorem dX5_bring_19 : decode cX5_bring 19 = .ok (.aload_n 0, 1) := by decide +kernel
theorem dX5_bring_20 : decode cX5_bring 20 = .ok (.getfield 13, 3) := by decide +kernel
theorem dX5_bring_23 : decode cX5_bring 23 = .ok (.iload_n 1, 1) := by decide +kernel
theorem dX5_bring_24 : decode cX5_bring 24 = .ok (.iaload, 1) := by decide +kernel
theorem dX5_bring_25 : decode cX5_bring 25 = .ok (.goto 8, 3) := by decide +kernel
theorem dX5_bring_28 : decode cX5_bring 28 = .ok (.aload_n 0, 1) := by decide +kernel
theorem dX5_bring_29 : decode cX5_bring 29 = .ok (.iload_n 1, 1) := by decide +kernel
theorem dX5_bring_30 : decode cX5_bring 30 = .ok (.invokevirtual 145, 3) := by decide +kernel
theorem dX5_bring_33 : decode cX5_bring 33 = .ok (.ireturn, 1) := by decide +kernel
theorem dX5_scan_0 : decode cX5_scan 0 = .ok (.iconst 0, 1) := by decide +kernel
theorem dX5_scan_1 : decode cX5_scan 1 = .ok (.istore_n 1, 1) := by decide +kernel
theorem dX5_scan_2 : decode cX5_scan 2 = .ok (.iload_n 1, 1) := by decide +kernel
theorem dX5_scan_3 : decode cX5_scan 3 = .ok (.iconst 3, 1) := by decide +kernel
theorem dX5_scan_4 : decode cX5_scan 4 = .ok (.if_icmp .ge 115, 3) := by decide +kernel
theorem dX5_scan_7 : decode cX5_scan 7 = .ok (.aload_n 0, 1) := by decide +kernel
theorem dX5_scan_8 : decode cX5_scan 8 = .ok (.getfield 73, 3) := by decide +kernel
theorem dX5_scan_11 : decode cX5_scan 11 = .ok (.iload_n 1, 1) := by decide +kernel
theorem dX5_scan_12 : decode cX5_scan 12 = .ok (.iaload, 1) := by decide +kernel
theorem dX5_scan_13 : decode cX5_scan 13 = .ok (.aload_n 0, 1) := by decide +kernel
theorem dX5_scan_14 : decode cX5_scan 14 = .ok (.getfield 22, 3) := by decide +kernel
theorem dX5_scan_17 : decode cX5_scan 17 = .ok (.iload_n 1, 1) := by decide +kernel
theorem dX5_scan_18 : decode cX5_scan 18 = .ok (.iaload, 1) := by decide +kernel
theorem dX5_scan_19 : decode cX5_scan 19 = .ok (.if_icmp .ne 9, 3) := by decide +kernel
theorem dX5_scan_22 : decode cX5_scan 22 = .ok (.iinc 1 1, 3) := by decide +kernel
theorem dX5_scan_25 : decode cX5_scan 25 = .ok (.goto (-23), 3) := by decide +kernel
theorem dX5_scan_28 : decode cX5_scan 28 = .ok (.aload_n 0, 1) := by decide +kernel
theorem dX5_scan_29 : decode cX5_scan 29 = .ok (.iload_n 1, 1) := by decide +kernel
theorem dX5_scan_30 : decode cX5_scan 30 = .ok (.aload_n 0, 1) := by decide +kernel
theorem dX5_scan_31 : decode cX5_scan 31 = .ok (.getfield 19, 3) := by decide +kernel
theorem dX5_scan_34 : decode cX5_scan 34 = .ok (.iload_n 1, 1) := by decide +kernel
theorem dX5_scan_35 : decode cX5_scan 35 = .ok (.iaload, 1) := by decide +kernel
theorem dX5_scan_36 : decode cX5_scan 36 = .ok (.invokevirtual 131, 3) := by decide +kernel
theorem dX5_scan_39 : decode cX5_scan 39 = .ok (.aload_n 0, 1) := by decide +kernel
theorem dX5_scan_40 : decode cX5_scan 40 = .ok (.getfield 73, 3) := by decide +kernel
theorem dX5_scan_43 : decode cX5_scan 43 = .ok (.iload_n 1, 1) := by decide +kernel
theorem dX5_scan_44 : decode cX5_scan 44 = .ok (.iaload, 1) := by decide +kernel
theorem dX5_scan_45 : decode cX5_scan 45 = .ok (.iadd, 1) := by decide +kernel
theorem dX5_scan_46 : decode cX5_scan 46 = .ok (.istore_n 2, 1) := by decide +kernel
theorem dX5_scan_47 : decode cX5_scan 47 = .ok (.aload_n 0, 1) := by decide +kernel
theorem dX5_scan_48 : decode cX5_scan 48 = .ok (.iload_n 2, 1) := by decide +kernel
theorem dX5_scan_49 : decode cX5_scan 49 = .ok (.invokevirtual 121, 3) := by decide +kernel
theorem dX5_scan_52 : decode cX5_scan 52 = .ok (.istore_n 3, 1) := by decide +kernel
theorem dX5_scan_53 : decode cX5_scan 53 = .ok (.iload_n 2, 1) := by decide +kernel
theorem dX5_scan_54 : decode cX5_scan 54 = .ok (.iconst 2, 1) := by decide +kernel
theorem dX5_scan_55 : decode cX5_scan 55 = .ok (.iadd, 1) := by decide +kernel
theorem dX5_scan_56 : decode cX5_scan 56 = .ok (.istore 4, 2) := by decide +kernel
theorem dX5_scan_58 : decode cX5_scan 58 = .ok (.iload 4, 2) := by decide +kernel
theorem dX5_scan_60 : decode cX5_scan 60 = .ok (.iload_n 2, 1) := by decide +kernel
theorem dX5_scan_61 : decode cX5_scan 61 = .ok (.iconst 2, 1) := by decide +kernel
theorem dX5_scan_62 : decode cX5_scan 62 = .ok (.iadd, 1) := by decide +kernel
theorem dX5_scan_63 : decode cX5_scan 63 = .ok (.iload_n 3, 1) := by decide +kernel
theorem dX5_scan_64 : decode cX5_scan 64 = .ok (.iadd, 1) := by decide +kernel
theorem dX5_scan_65 : decode cX5_scan 65 = .ok (.if_icmp .ge 33, 3) := by decide +kernel
theorem dX5_scan_68 : decode cX5_scan 68 = .ok (.aload_n 0, 1) := by decide +kernel
theorem dX5_scan_69 : decode cX5_scan 69 = .ok (.getfield 7, 3) := by decide +kernel
theorem dX5_scan_72 : decode cX5_scan 72 = .ok (.iload 4, 2) := by decide +kernel
theorem dX5_scan_74 : decode cX5_scan 74 = .ok (.aload_n 0, 1) := by decide +kernel
theorem dX5_scan_75 : decode cX5_scan 75 = .ok (.aload_n 0, 1) := by decide +kernel
theorem dX5_scan_76 : decode cX5_scan 76 = .ok (.getfield 7, 3) := by decide +kernel
theorem dX5_scan_79 : decode cX5_scan 79 = .ok (.iload 4, 2) := by decide +kernel
theorem dX5_scan_81 : decode cX5_scan 81 = .ok (.iaload, 1) := by decide +kernel
theorem dX5_scan_82 : decode cX5_scan 82 = .ok (.invokevirtual 148, 3) := by decide +kernel
theorem dX5_scan_85 : decode cX5_scan 85 = .ok (.iastore, 1) := by decide +kernel
theorem dX5_scan_86 : decode cX5_scan 86 = .ok (.aload_n 0, 1) := by decide +kernel
theorem dX5_scan_87 : decode cX5_scan 87 = .ok (.iload 4, 2) := by decide +kernel
theorem dX5_scan_89 : decode cX5_scan 89 = .ok (.invokevirtual 108, 3) := by decide +kernel
theorem dX5_scan_92 : decode cX5_scan 92 = .ok (.iinc 4 1, 3) := by decide +kernel
theorem dX5_scan_95 : decode cX5_scan 95 = .ok (.goto (-37), 3) := by decide +kernel
theorem dX5_scan_98 : decode cX5_scan 98 = .ok (.aload_n 0, 1) := by decide +kernel
theorem dX5_scan_99 : decode cX5_scan 99 = .ok (.getfield 73, 3) := by decide +kernel
theorem dX5_scan_102 : decode cX5_scan 102 = .ok (.iload_n 1, 1) := by decide +kernel
theorem dX5_scan_103 : decode cX5_scan 103 = .ok (.aload_n 0, 1) := by decide +kernel
theorem dX5_scan_104 : decode cX5_scan 104 = .ok (.getfield 73, 3) := by decide +kernel
theorem dX5_scan_107 : decode cX5_scan 107 = .ok (.iload_n 1, 1) := by decide +kernel
theorem dX5_scan_108 : decode cX5_scan 108 = .ok (.iaload, 1) := by decide +kernel
theorem dX5_scan_109 : decode cX5_scan 109 = .ok (.iload_n 3, 1) := by decide +kernel
theorem dX5_scan_110 : decode cX5_scan 110 = .ok (.iadd, 1) := by decide +kernel
theorem dX5_scan_111 : decode cX5_scan 111 = .ok (.iconst 2, 1) := by decide +kernel
theorem dX5_scan_112 : decode cX5_scan 112 = .ok (.iadd, 1) := by decide +kernel
theorem dX5_scan_113 : decode cX5_scan 113 = .ok (.iastore, 1) := by decide +kernel
theorem dX5_scan_114 : decode cX5_scan 114 = .ok (.iconst 0, 1) := by decide +kernel
theorem dX5_scan_115 : decode cX5_scan 115 = .ok (.istore_n 1, 1) := by decide +kernel
theorem dX5_scan_116 : decode cX5_scan 116 = .ok (.goto (-114), 3) := by decide +kernel
theorem dX5_scan_119 : decode cX5_scan 119 = .ok (.return_, 1) := by decide +kernel
theorem dX5_bringRows_0 : decode cX5_bringRows 0 = .ok (.iconst 0, 1) := by decide +kernel
theorem dX5_bringRows_1 : decode cX5_bringRows 1 = .ok (.istore_n 2, 1) := by decide +kernel
theorem dX5_bringRows_2 : decode cX5_bringRows 2 = .ok (.iload_n 2, 1) := by decide +kernel
theorem dX5_bringRows_3 : decode cX5_bringRows 3 = .ok (.iconst 2, 1) := by decide +kernel
theorem dX5_bringRows_4 : decode cX5_bringRows 4 = .ok (.if_icmp .ge 75, 3) := by decide +kernel
theorem dX5_bringRows_7 : decode cX5_bringRows 7 = .ok (.iconst 0, 1) := by decide +kernel
theorem dX5_bringRows_8 : decode cX5_bringRows 8 = .ok (.istore_n 3, 1) := by decide +kernel
theorem dX5_bringRows_9 : decode cX5_bringRows 9 = .ok (.iload_n 3, 1) := by decide +kernel
theorem dX5_bringRows_10 : decode cX5_bringRows 10 = .ok (.aload_n 0, 1) := by decide +kernel
theorem dX5_bringRows_11 : decode cX5_bringRows 11 = .ok (.getfield 49, 3) := by decide +kernel
theorem dX5_bringRows_14 : decode cX5_bringRows 14 = .ok (.iload_n 2, 1) := by decide +kernel
theorem dX5_bringRows_15 : decode cX5_bringRows 15 = .ok (.iaload, 1) := by decide +kernel
theorem dX5_bringRows_16 : decode cX5_bringRows 16 = .ok (.if_icmp .ge 57, 3) := by decide +kernel
theorem dX5_bringRows_19 : decode cX5_bringRows 19 = .ok (.aload_n 0, 1) := by decide +kernel
theorem dX5_bringRows_20 : decode cX5_bringRows 20 = .ok (.getfield 52, 3) := by decide +kernel
theorem dX5_bringRows_23 : decode cX5_bringRows 23 = .ok (.sipush 1000, 3) := by decide +kernel
theorem dX5_bringRows_26 : decode cX5_bringRows 26 = .ok (.iload_n 2, 1) := by decide +kernel
theorem dX5_bringRows_27 : decode cX5_bringRows 27 = .ok (.imul, 1) := by decide +kernel
theorem dX5_bringRows_28 : decode cX5_bringRows 28 = .ok (.iload_n 3, 1) := by decide +kernel
theorem dX5_bringRows_29 : decode cX5_bringRows 29 = .ok (.iadd, 1) := by decide +kernel
theorem dX5_bringRows_30 : decode cX5_bringRows 30 = .ok (.iaload, 1) := by decide +kernel
theorem dX5_bringRows_31 : decode cX5_bringRows 31 = .ok (.istore 4, 2) := by decide +kernel
theorem dX5_bringRows_33 : decode cX5_bringRows 33 = .ok (.aload_n 0, 1) := by decide +kernel
theorem dX5_bringRows_34 : decode cX5_bringRows 34 = .ok (.iload 4, 2) := by decide +kernel
theorem dX5_bringRows_36 : decode cX5_bringRows 36 = .ok (.invokevirtual 98, 3) := by decide +kernel
theorem dX5_bringRows_39 : decode cX5_bringRows 39 = .ok (.iload_n 1, 1) := by decide +kernel
theorem dX5_bringRows_40 : decode cX5_bringRows 40 = .ok (.if_icmp .le 27, 3) := by decide +kernel
theorem dX5_bringRows_43 : decode cX5_bringRows 43 = .ok (.aload_n 0, 1) := by decide +kernel
theorem dX5_bringRows_44 : decode cX5_bringRows 44 = .ok (.getfield 7, 3) := by decide +kernel
theorem dX5_bringRows_47 : decode cX5_bringRows 47 = .ok (.iload 4, 2) := by decide +kernel
theorem dX5_bringRows_49 : decode cX5_bringRows 49 = .ok (.aload_n 0, 1) := by decide +kernel
theorem dX5_bringRows_50 : decode cX5_bringRows 50 = .ok (.aload_n 0, 1) := by decide +kernel
theorem dX5_bringRows_51 : decode cX5_bringRows 51 = .ok (.getfield 7, 3) := by decide +kernel
theorem dX5_bringRows_54 : decode cX5_bringRows 54 = .ok (.iload 4, 2) := by decide +kernel
theorem dX5_bringRows_56 : decode cX5_bringRows 56 = .ok (.iaload, 1) := by decide +kernel
theorem dX5_bringRows_57 : decode cX5_bringRows 57 = .ok (.invokevirtual 148, 3) := by decide +kernel
theorem dX5_bringRows_60 : decode cX5_bringRows 60 = .ok (.iastore, 1) := by decide +kernel
theorem dX5_bringRows_61 : decode cX5_bringRows 61 = .ok (.aload_n 0, 1) := by decide +kernel
theorem dX5_bringRows_62 : decode cX5_bringRows 62 = .ok (.iload 4, 2) := by decide +kernel
theorem dX5_bringRows_64 : decode cX5_bringRows 64 = .ok (.invokevirtual 108, 3) := by decide +kernel
theorem dX5_bringRows_67 : decode cX5_bringRows 67 = .ok (.iinc 3 1, 3) := by decide +kernel
theorem dX5_bringRows_70 : decode cX5_bringRows 70 = .ok (.goto (-61), 3) := by decide +kernel
theorem dX5_bringRows_73 : decode cX5_bringRows 73 = .ok (.iinc 2 1, 3) := by decide +kernel
theorem dX5_bringRows_76 : decode cX5_bringRows 76 = .ok (.goto (-74), 3) := by decide +kernel
theorem dX5_bringRows_79 : decode cX5_bringRows 79 = .ok (.return_, 1) := by decide +kernel
theorem dX5_grantWishes_0 : decode cX5_grantWishes 0 = .ok (.iconst 0, 1) := by decide +kernel
theorem dX5_grantWishes_1 : decode cX5_grantWishes 1 = .ok (.istore_n 1, 1) := by decide +kernel
theorem dX5_grantWishes_2 : decode cX5_grantWishes 2 = .ok (.iconst 0, 1) := by decide +kernel
theorem dX5_grantWishes_3 : decode cX5_grantWishes 3 = .ok (.istore_n 2, 1) := by decide +kernel
theorem dX5_grantWishes_4 : decode cX5_grantWishes 4 = .ok (.iload_n 2, 1) := by decide +kernel
theorem dX5_grantWishes_5 : decode cX5_grantWishes 5 = .ok (.aload_n 0, 1) := by decide +kernel
theorem dX5_grantWishes_6 : decode cX5_grantWishes 6 = .ok (.getfield 151, 3) := by decide +kernel
theorem dX5_grantWishes_9 : decode cX5_grantWishes 9 = .ok (.if_icmp .ge 95, 3) := by decide +kernel
theorem dX5_grantWishes_12 : decode cX5_grantWishes 12 = .ok (.aload_n 0, 1) := by decide +kernel
theorem dX5_grantWishes_13 : decode cX5_grantWishes 13 = .ok (.getfield 34, 3) := by decide +kernel
theorem dX5_grantWishes_16 : decode cX5_grantWishes 16 = .ok (.iload_n 2, 1) := by decide +kernel
theorem dX5_grantWishes_17 : decode cX5_grantWishes 17 = .ok (.iaload, 1) := by decide +kernel
theorem dX5_grantWishes_18 : decode cX5_grantWishes 18 = .ok (.istore_n 3, 1) := by decide +kernel
theorem dX5_grantWishes_19 : decode cX5_grantWishes 19 = .ok (.aload_n 0, 1) := by decide +kernel
theorem dX5_grantWishes_20 : decode cX5_grantWishes 20 = .ok (.iload_n 3, 1) := by decide +kernel
theorem dX5_grantWishes_21 : decode cX5_grantWishes 21 = .ok (.invokevirtual 141, 3) := by decide +kernel
theorem dX5_grantWishes_24 : decode cX5_grantWishes 24 = .ok (.ifCond .eq 60, 3) := by decide +kernel
theorem dX5_grantWishes_27 : decode cX5_grantWishes 27 = .ok (.aload_n 0, 1) := by decide +kernel
theorem dX5_grantWishes_28 : decode cX5_grantWishes 28 = .ok (.getfield 13, 3) := by decide +kernel
theorem dX5_grantWishes_31 : decode cX5_grantWishes 31 = .ok (.iload_n 3, 1) := by decide +kernel
theorem dX5_grantWishes_32 : decode cX5_grantWishes 32 = .ok (.iaload, 1) := by decide +kernel
theorem dX5_grantWishes_33 : decode cX5_grantWishes 33 = .ok (.ifCond .ne 51, 3) := by decide +kernel
theorem dX5_grantWishes_36 : decode cX5_grantWishes 36 = .ok (.aload_n 0, 1) := by decide +kernel
theorem dX5_grantWishes_37 : decode cX5_grantWishes 37 = .ok (.iload_n 3, 1) := by decide +kernel
theorem dX5_grantWishes_38 : decode cX5_grantWishes 38 = .ok (.invokevirtual 148, 3) := by decide +kernel
theorem dX5_grantWishes_41 : decode cX5_grantWishes 41 = .ok (.istore 4, 2) := by decide +kernel
theorem dX5_grantWishes_43 : decode cX5_grantWishes 43 = .ok (.aload_n 0, 1) := by decide +kernel
theorem dX5_grantWishes_44 : decode cX5_grantWishes 44 = .ok (.getfield 7, 3) := by decide +kernel
theorem dX5_grantWishes_47 : decode cX5_grantWishes 47 = .ok (.iload 4, 2) := by decide +kernel
theorem dX5_grantWishes_49 : decode cX5_grantWishes 49 = .ok (.aload_n 0, 1) := by decide +kernel
theorem dX5_grantWishes_50 : decode cX5_grantWishes 50 = .ok (.getfield 7, 3) := by decide +kernel
theorem dX5_grantWishes_53 : decode cX5_grantWishes 53 = .ok (.iload 4, 2) := by decide +kernel
theorem dX5_grantWishes_55 : decode cX5_grantWishes 55 = .ok (.iaload, 1) := by decide +kernel
theorem dX5_grantWishes_56 : decode cX5_grantWishes 56 = .ok (.bipush 63, 2) := by decide +kernel
theorem dX5_grantWishes_58 : decode cX5_grantWishes 58 = .ok (.iand, 1) := by decide +kernel
theorem dX5_grantWishes_59 : decode cX5_grantWishes 59 = .ok (.iastore, 1) := by decide +kernel
theorem dX5_grantWishes_60 : decode cX5_grantWishes 60 = .ok (.aload_n 0, 1) := by decide +kernel
theorem dX5_grantWishes_61 : decode cX5_grantWishes 61 = .ok (.getfield 37, 3) := by decide +kernel
theorem dX5_grantWishes_64 : decode cX5_grantWishes 64 = .ok (.aload_n 0, 1) := by decide +kernel
theorem dX5_grantWishes_65 : decode cX5_grantWishes 65 = .ok (.getfield 154, 3) := by decide +kernel
theorem dX5_grantWishes_68 : decode cX5_grantWishes 68 = .ok (.iload 4, 2) := by decide +kernel
theorem dX5_grantWishes_70 : decode cX5_grantWishes 70 = .ok (.iastore, 1) := by decide +kernel
theorem dX5_grantWishes_71 : decode cX5_grantWishes 71 = .ok (.aload_n 0, 1) := by decide +kernel
theorem dX5_grantWishes_72 : decode cX5_grantWishes 72 = .ok (.dup, 1) := by decide +kernel
theorem dX5_grantWishes_73 : decode cX5_grantWishes 73 = .ok (.getfield 154, 3) := by decide +kernel
theorem dX5_grantWishes_76 : decode cX5_grantWishes 76 = .ok (.iconst 1, 1) := by decide +kernel
theorem dX5_grantWishes_77 : decode cX5_grantWishes 77 = .ok (.iadd, 1) := by decide +kernel
theorem dX5_grantWishes_78 : decode cX5_grantWishes 78 = .ok (.putfield 154, 3) := by decide +kernel
theorem dX5_grantWishes_81 : decode cX5_grantWishes 81 = .ok (.goto 17, 3) := by decide +kernel
theorem dX5_grantWishes_84 : decode cX5_grantWishes 84 = .ok (.aload_n 0, 1) := by decide +kernel
theorem dX5_grantWishes_85 : decode cX5_grantWishes 85 = .ok (.getfield 34, 3) := by decide +kernel
theorem dX5_grantWishes_88 : decode cX5_grantWishes 88 = .ok (.iload_n 1, 1) := by decide +kernel
theorem dX5_grantWishes_89 : decode cX5_grantWishes 89 = .ok (.aload_n 0, 1) := by decide +kernel
theorem dX5_grantWishes_90 : decode cX5_grantWishes 90 = .ok (.iload_n 3, 1) := by decide +kernel
theorem dX5_grantWishes_91 : decode cX5_grantWishes 91 = .ok (.invokevirtual 148, 3) := by decide +kernel
theorem dX5_grantWishes_94 : decode cX5_grantWishes 94 = .ok (.iastore, 1) := by decide +kernel
theorem dX5_grantWishes_95 : decode cX5_grantWishes 95 = .ok (.iinc 1 1, 3) := by decide +kernel
theorem dX5_grantWishes_98 : decode cX5_grantWishes 98 = .ok (.iinc 2 1, 3) := by decide +kernel
theorem dX5_grantWishes_101 : decode cX5_grantWishes 101 = .ok (.goto (-97), 3) := by decide +kernel
theorem dX5_grantWishes_104 : decode cX5_grantWishes 104 = .ok (.aload_n 0, 1) := by decide +kernel
theorem dX5_grantWishes_105 : decode cX5_grantWishes 105 = .ok (.iload_n 1, 1) := by decide +kernel
theorem dX5_grantWishes_106 : decode cX5_grantWishes 106 = .ok (.putfield 151, 3) := by decide +kernel
theorem dX5_grantWishes_109 : decode cX5_grantWishes 109 = .ok (.return_, 1) := by decide +kernel
theorem dX5_gather_0 : decode cX5_gather 0 = .ok (.aload_n 0, 1) := by decide +kernel
theorem dX5_gather_1 : decode cX5_gather 1 = .ok (.invokevirtual 115, 3) := by decide +kernel
theorem dX5_gather_4 : decode cX5_gather 4 = .ok (.aload_n 0, 1) := by decide +kernel
theorem dX5_gather_5 : decode cX5_gather 5 = .ok (.iload_n 1, 1) := by decide +kernel
theorem dX5_gather_6 : decode cX5_gather 6 = .ok (.putfield 118, 3) := by decide +kernel
theorem dX5_gather_9 : decode cX5_gather 9 = .ok (.aload_n 0, 1) := by decide +kernel
theorem dX5_gather_10 : decode cX5_gather 10 = .ok (.iconst 0, 1) := by decide +kernel
theorem dX5_gather_11 : decode cX5_gather 11 = .ok (.putfield 138, 3) := by decide +kernel
theorem dX5_gather_14 : decode cX5_gather 14 = .ok (.iconst 0, 1) := by decide +kernel
theorem dX5_gather_15 : decode cX5_gather 15 = .ok (.istore_n 2, 1) := by decide +kernel
theorem dX5_gather_16 : decode cX5_gather 16 = .ok (.iload_n 2, 1) := by decide +kernel
theorem dX5_gather_17 : decode cX5_gather 17 = .ok (.iconst 3, 1) := by decide +kernel
theorem dX5_gather_18 : decode cX5_gather 18 = .ok (.if_icmp .ge 125, 3) := by decide +kernel
theorem dX5_gather_21 : decode cX5_gather 21 = .ok (.iload_n 2, 1) := by decide +kernel
theorem dX5_gather_22 : decode cX5_gather 22 = .ok (.iload_n 1, 1) := by decide +kernel
theorem dX5_gather_23 : decode cX5_gather 23 = .ok (.if_icmp .gt 102, 3) := by decide +kernel
theorem dX5_gather_26 : decode cX5_gather 26 = .ok (.aload_n 0, 1) := by decide +kernel
theorem dX5_gather_27 : decode cX5_gather 27 = .ok (.getfield 64, 3) := by decide +kernel
theorem dX5_gather_30 : decode cX5_gather 30 = .ok (.iload_n 2, 1) := by decide +kernel
theorem dX5_gather_31 : decode cX5_gather 31 = .ok (.aload_n 0, 1) := by decide +kernel
theorem dX5_gather_32 : decode cX5_gather 32 = .ok (.iload_n 2, 1) := by decide +kernel
theorem dX5_gather_33 : decode cX5_gather 33 = .ok (.aload_n 0, 1) := by decide +kernel
theorem dX5_gather_34 : decode cX5_gather 34 = .ok (.getfield 19, 3) := by decide +kernel
theorem dX5_gather_37 : decode cX5_gather 37 = .ok (.iload_n 2, 1) := by decide +kernel
theorem dX5_gather_38 : decode cX5_gather 38 = .ok (.iaload, 1) := by decide +kernel
theorem dX5_gather_39 : decode cX5_gather 39 = .ok (.invokevirtual 131, 3) := by decide +kernel
theorem dX5_gather_42 : decode cX5_gather 42 = .ok (.iastore, 1) := by decide +kernel
theorem dX5_gather_43 : decode cX5_gather 43 = .ok (.aload_n 0, 1) := by decide +kernel
theorem dX5_gather_44 : decode cX5_gather 44 = .ok (.getfield 67, 3) := by decide +kernel
theorem dX5_gather_47 : decode cX5_gather 47 = .ok (.iload_n 2, 1) := by decide +kernel
theorem dX5_gather_48 : decode cX5_gather 48 = .ok (.aload_n 0, 1) := by decide +kernel
theorem dX5_gather_49 : decode cX5_gather 49 = .ok (.getfield 64, 3) := by decide +kernel
theorem dX5_gather_52 : decode cX5_gather 52 = .ok (.iload_n 2, 1) := by decide +kernel
theorem dX5_gather_53 : decode cX5_gather 53 = .ok (.iaload, 1) := by decide +kernel
theorem dX5_gather_54 : decode cX5_gather 54 = .ok (.aload_n 0, 1) := by decide +kernel
theorem dX5_gather_55 : decode cX5_gather 55 = .ok (.getfield 22, 3) := by decide +kernel
theorem dX5_gather_58 : decode cX5_gather 58 = .ok (.iload_n 2, 1) := by decide +kernel
theorem dX5_gather_59 : decode cX5_gather 59 = .ok (.iaload, 1) := by decide +kernel
theorem dX5_gather_60 : decode cX5_gather 60 = .ok (.iadd, 1) := by decide +kernel
theorem dX5_gather_61 : decode cX5_gather 61 = .ok (.iastore, 1) := by decide +kernel
theorem dX5_gather_62 : decode cX5_gather 62 = .ok (.aload_n 0, 1) := by decide +kernel
theorem dX5_gather_63 : decode cX5_gather 63 = .ok (.getfield 70, 3) := by decide +kernel
theorem dX5_gather_66 : decode cX5_gather 66 = .ok (.iload_n 2, 1) := by decide +kernel
theorem dX5_gather_67 : decode cX5_gather 67 = .ok (.aload_n 0, 1) := by decide +kernel
theorem dX5_gather_68 : decode cX5_gather 68 = .ok (.getfield 22, 3) := by decide +kernel
theorem dX5_gather_71 : decode cX5_gather 71 = .ok (.iload_n 2, 1) := by decide +kernel
theorem dX5_gather_72 : decode cX5_gather 72 = .ok (.iaload, 1) := by decide +kernel
theorem dX5_gather_73 : decode cX5_gather 73 = .ok (.iastore, 1) := by decide +kernel
theorem dX5_gather_74 : decode cX5_gather 74 = .ok (.aload_n 0, 1) := by decide +kernel
theorem dX5_gather_75 : decode cX5_gather 75 = .ok (.getfield 19, 3) := by decide +kernel
theorem dX5_gather_78 : decode cX5_gather 78 = .ok (.iload_n 2, 1) := by decide +kernel
theorem dX5_gather_79 : decode cX5_gather 79 = .ok (.iconst 1, 1) := by decide +kernel
theorem dX5_gather_80 : decode cX5_gather 80 = .ok (.aload_n 0, 1) := by decide +kernel
theorem dX5_gather_81 : decode cX5_gather 81 = .ok (.getfield 19, 3) := by decide +kernel
theorem dX5_gather_84 : decode cX5_gather 84 = .ok (.iload_n 2, 1) := by decide +kernel
theorem dX5_gather_85 : decode cX5_gather 85 = .ok (.iaload, 1) := by decide +kernel
theorem dX5_gather_86 : decode cX5_gather 86 = .ok (.isub, 1) := by decide +kernel
theorem dX5_gather_87 : decode cX5_gather 87 = .ok (.iastore, 1) := by decide +kernel
theorem dX5_gather_88 : decode cX5_gather 88 = .ok (.aload_n 0, 1) := by decide +kernel
theorem dX5_gather_89 : decode cX5_gather 89 = .ok (.getfield 22, 3) := by decide +kernel
theorem dX5_gather_92 : decode cX5_gather 92 = .ok (.iload_n 2, 1) := by decide +kernel
theorem dX5_gather_93 : decode cX5_gather 93 = .ok (.iconst 0, 1) := by decide +kernel
theorem dX5_gather_94 : decode cX5_gather 94 = .ok (.iastore, 1) := by decide +kernel
theorem dX5_gather_95 : decode cX5_gather 95 = .ok (.aload_n 0, 1) := by decide +kernel
theorem dX5_gather_96 : decode cX5_gather 96 = .ok (.getfield 64, 3) := by decide +kernel
theorem dX5_gather_99 : decode cX5_gather 99 = .ok (.iload_n 2, 1) := by decide +kernel
theorem dX5_gather_100 : decode cX5_gather 100 = .ok (.iaload, 1) := by decide +kernel
theorem dX5_gather_101 : decode cX5_gather 101 = .ok (.istore_n 3, 1) := by decide +kernel
theorem dX5_gather_102 : decode cX5_gather 102 = .ok (.iload_n 3, 1) := by decide +kernel
theorem dX5_gather_103 : decode cX5_gather 103 = .ok (.aload_n 0, 1) := by decide +kernel
theorem dX5_gather_104 : decode cX5_gather 104 = .ok (.getfield 67, 3) := by decide +kernel
theorem dX5_gather_107 : decode cX5_gather 107 = .ok (.iload_n 2, 1) := by decide +kernel
theorem dX5_gather_108 : decode cX5_gather 108 = .ok (.iaload, 1) := by decide +kernel
theorem dX5_gather_109 : decode cX5_gather 109 = .ok (.if_icmp .ge 16, 3) := by decide +kernel
theorem dX5_gather_112 : decode cX5_gather 112 = .ok (.aload_n 0, 1) := by decide +kernel
theorem dX5_gather_113 : decode cX5_gather 113 = .ok (.getfield 13, 3) := by decide +kernel
theorem dX5_gather_116 : decode cX5_gather 116 = .ok (.iload_n 3, 1) := by decide +kernel
theorem dX5_gather_117 : decode cX5_gather 117 = .ok (.iconst 0, 1) := by decide +kernel
theorem dX5_gather_118 : decode cX5_gather 118 = .ok (.iastore, 1) := by decide +kernel
theorem dX5_gather_119 : decode cX5_gather 119 = .ok (.iinc 3 1, 3) := by decide +kernel
theorem dX5_gather_122 : decode cX5_gather 122 = .ok (.goto (-20), 3) := by decide +kernel
theorem dX5_gather_125 : decode cX5_gather 125 = .ok (.aload_n 0, 1) := by decide +kernel
theorem dX5_gather_126 : decode cX5_gather 126 = .ok (.getfield 73, 3) := by decide +kernel
theorem dX5_gather_129 : decode cX5_gather 129 = .ok (.iload_n 2, 1) := by decide +kernel
theorem dX5_gather_130 : decode cX5_gather 130 = .ok (.aload_n 0, 1) := by decide +kernel
theorem dX5_gather_131 : decode cX5_gather 131 = .ok (.getfield 22, 3) := by decide +kernel
theorem dX5_gather_134 : decode cX5_gather 134 = .ok (.iload_n 2, 1) := by decide +kernel
theorem dX5_gather_135 : decode cX5_gather 135 = .ok (.iaload, 1) := by decide +kernel
theorem dX5_gather_136 : decode cX5_gather 136 = .ok (.iastore, 1) := by decide +kernel
theorem dX5_gather_137 : decode cX5_gather 137 = .ok (.iinc 2 1, 3) := by decide +kernel
theorem dX5_gather_140 : decode cX5_gather 140 = .ok (.goto (-124), 3) := by decide +kernel
theorem dX5_gather_143 : decode cX5_gather 143 = .ok (.iconst 0, 1) := by decide +kernel
theorem dX5_gather_144 : decode cX5_gather 144 = .ok (.istore_n 2, 1) := by decide +kernel
theorem dX5_gather_145 : decode cX5_gather 145 = .ok (.iload_n 2, 1) := by decide +kernel
theorem dX5_gather_146 : decode cX5_gather 146 = .ok (.iconst 2, 1) := by decide +kernel
theorem dX5_gather_147 : decode cX5_gather 147 = .ok (.if_icmp .ge 70, 3) := by decide +kernel
theorem dX5_gather_150 : decode cX5_gather 150 = .ok (.aload_n 0, 1) := by decide +kernel
theorem dX5_gather_151 : decode cX5_gather 151 = .ok (.getfield 49, 3) := by decide +kernel
theorem dX5_gather_154 : decode cX5_gather 154 = .ok (.iload_n 2, 1) := by decide +kernel
theorem dX5_gather_155 : decode cX5_gather 155 = .ok (.aload_n 0, 1) := by decide +kernel
theorem dX5_gather_156 : decode cX5_gather 156 = .ok (.getfield 43, 3) := by decide +kernel
theorem dX5_gather_159 : decode cX5_gather 159 = .ok (.iload_n 2, 1) := by decide +kernel
theorem dX5_gather_160 : decode cX5_gather 160 = .ok (.iaload, 1) := by decide +kernel
theorem dX5_gather_161 : decode cX5_gather 161 = .ok (.iastore, 1) := by decide +kernel
theorem dX5_gather_162 : decode cX5_gather 162 = .ok (.aload_n 0, 1) := by decide +kernel
theorem dX5_gather_163 : decode cX5_gather 163 = .ok (.getfield 43, 3) := by decide +kernel
theorem dX5_gather_166 : decode cX5_gather 166 = .ok (.iload_n 2, 1) := by decide +kernel
theorem dX5_gather_167 : decode cX5_gather 167 = .ok (.iconst 0, 1) := by decide +kernel
theorem dX5_gather_168 : decode cX5_gather 168 = .ok (.iastore, 1) := by decide +kernel
theorem dX5_gather_169 : decode cX5_gather 169 = .ok (.iconst 0, 1) := by decide +kernel
theorem dX5_gather_170 : decode cX5_gather 170 = .ok (.istore_n 3, 1) := by decide +kernel
theorem dX5_gather_171 : decode cX5_gather 171 = .ok (.iload_n 3, 1) := by decide +kernel
theorem dX5_gather_172 : decode cX5_gather 172 = .ok (.aload_n 0, 1) := by decide +kernel
theorem dX5_gather_173 : decode cX5_gather 173 = .ok (.getfield 49, 3) := by decide +kernel
theorem dX5_gather_176 : decode cX5_gather 176 = .ok (.iload_n 2, 1) := by decide +kernel
theorem dX5_gather_177 : decode cX5_gather 177 = .ok (.iaload, 1) := by decide +kernel
theorem dX5_gather_178 : decode cX5_gather 178 = .ok (.if_icmp .ge 33, 3) := by decide +kernel
theorem dX5_gather_181 : decode cX5_gather 181 = .ok (.aload_n 0, 1) := by decide +kernel
theorem dX5_gather_182 : decode cX5_gather 182 = .ok (.getfield 52, 3) := by decide +kernel
theorem dX5_gather_185 : decode cX5_gather 185 = .ok (.sipush 1000, 3) := by decide +kernel
theorem dX5_gather_188 : decode cX5_gather 188 = .ok (.iload_n 2, 1) := by decide +kernel
theorem dX5_gather_189 : decode cX5_gather 189 = .ok (.imul, 1) := by decide +kernel
theorem dX5_gather_190 : decode cX5_gather 190 = .ok (.iload_n 3, 1) := by decide +kernel
theorem dX5_gather_191 : decode cX5_gather 191 = .ok (.iadd, 1) := by decide +kernel
theorem dX5_gather_192 : decode cX5_gather 192 = .ok (.aload_n 0, 1) := by decide +kernel
theorem dX5_gather_193 : decode cX5_gather 193 = .ok (.getfield 46, 3) := by decide +kernel
theorem dX5_gather_196 : decode cX5_gather 196 = .ok (.sipush 1000, 3) := by decide +kernel
theorem dX5_gather_199 : decode cX5_gather 199 = .ok (.iload_n 2, 1) := by decide +kernel
theorem dX5_gather_200 : decode cX5_gather 200 = .ok (.imul, 1) := by decide +kernel
theorem dX5_gather_201 : decode cX5_gather 201 = .ok (.iload_n 3, 1) := by decide +kernel
theorem dX5_gather_202 : decode cX5_gather 202 = .ok (.iadd, 1) := by decide +kernel
theorem dX5_gather_203 : decode cX5_gather 203 = .ok (.iaload, 1) := by decide +kernel
theorem dX5_gather_204 : decode cX5_gather 204 = .ok (.iastore, 1) := by decide +kernel
theorem dX5_gather_205 : decode cX5_gather 205 = .ok (.iinc 3 1, 3) := by decide +kernel
theorem dX5_gather_208 : decode cX5_gather 208 = .ok (.goto (-37), 3) := by decide +kernel
theorem dX5_gather_211 : decode cX5_gather 211 = .ok (.iinc 2 1, 3) := by decide +kernel
theorem dX5_gather_214 : decode cX5_gather 214 = .ok (.goto (-69), 3) := by decide +kernel
theorem dX5_gather_217 : decode cX5_gather 217 = .ok (.iconst 0, 1) := by decide +kernel
theorem dX5_gather_218 : decode cX5_gather 218 = .ok (.istore_n 2, 1) := by decide +kernel
theorem dX5_gather_219 : decode cX5_gather 219 = .ok (.iload_n 2, 1) := by decide +kernel
theorem dX5_gather_220 : decode cX5_gather 220 = .ok (.bipush 16, 2) := by decide +kernel
theorem dX5_gather_222 : decode cX5_gather 222 = .ok (.if_icmp .ge 25, 3) := by decide +kernel
theorem dX5_gather_225 : decode cX5_gather 225 = .ok (.aload_n 0, 1) := by decide +kernel
theorem dX5_gather_226 : decode cX5_gather 226 = .ok (.getfield 25, 3) := by decide +kernel
theorem dX5_gather_229 : decode cX5_gather 229 = .ok (.iload_n 2, 1) := by decide +kernel
theorem dX5_gather_230 : decode cX5_gather 230 = .ok (.aload_n 0, 1) := by decide +kernel
theorem dX5_gather_231 : decode cX5_gather 231 = .ok (.aload_n 0, 1) := by decide +kernel
theorem dX5_gather_232 : decode cX5_gather 232 = .ok (.getfield 25, 3) := by decide +kernel
theorem dX5_gather_235 : decode cX5_gather 235 = .ok (.iload_n 2, 1) := by decide +kernel
theorem dX5_gather_236 : decode cX5_gather 236 = .ok (.iaload, 1) := by decide +kernel
theorem dX5_gather_237 : decode cX5_gather 237 = .ok (.invokevirtual 148, 3) := by decide +kernel
theorem dX5_gather_240 : decode cX5_gather 240 = .ok (.iastore, 1) := by decide +kernel
theorem dX5_gather_241 : decode cX5_gather 241 = .ok (.iinc 2 1, 3) := by decide +kernel
theorem dX5_gather_244 : decode cX5_gather 244 = .ok (.goto (-25), 3) := by decide +kernel
theorem dX5_gather_247 : decode cX5_gather 247 = .ok (.iconst 0, 1) := by decide +kernel
theorem dX5_gather_248 : decode cX5_gather 248 = .ok (.istore_n 2, 1) := by decide +kernel
theorem dX5_gather_249 : decode cX5_gather 249 = .ok (.iload_n 2, 1) := by decide +kernel
theorem dX5_gather_250 : decode cX5_gather 250 = .ok (.aload_n 0, 1) := by decide +kernel
theorem dX5_gather_251 : decode cX5_gather 251 = .ok (.getfield 157, 3) := by decide +kernel
theorem dX5_gather_254 : decode cX5_gather 254 = .ok (.if_icmp .ge 25, 3) := by decide +kernel
theorem dX5_gather_257 : decode cX5_gather 257 = .ok (.aload_n 0, 1) := by decide +kernel
theorem dX5_gather_258 : decode cX5_gather 258 = .ok (.getfield 28, 3) := by decide +kernel
theorem dX5_gather_261 : decode cX5_gather 261 = .ok (.iload_n 2, 1) := by decide +kernel
theorem dX5_gather_262 : decode cX5_gather 262 = .ok (.aload_n 0, 1) := by decide +kernel
theorem dX5_gather_263 : decode cX5_gather 263 = .ok (.aload_n 0, 1) := by decide +kernel
theorem dX5_gather_264 : decode cX5_gather 264 = .ok (.getfield 28, 3) := by decide +kernel
theorem dX5_gather_267 : decode cX5_gather 267 = .ok (.iload_n 2, 1) := by decide +kernel
theorem dX5_gather_268 : decode cX5_gather 268 = .ok (.iaload, 1) := by decide +kernel
theorem dX5_gather_269 : decode cX5_gather 269 = .ok (.invokevirtual 148, 3) := by decide +kernel
theorem dX5_gather_272 : decode cX5_gather 272 = .ok (.iastore, 1) := by decide +kernel
theorem dX5_gather_273 : decode cX5_gather 273 = .ok (.iinc 2 1, 3) := by decide +kernel
theorem dX5_gather_276 : decode cX5_gather 276 = .ok (.goto (-27), 3) := by decide +kernel
theorem dX5_gather_279 : decode cX5_gather 279 = .ok (.iconst 0, 1) := by decide +kernel
theorem dX5_gather_280 : decode cX5_gather 280 = .ok (.istore_n 2, 1) := by decide +kernel
theorem dX5_gather_281 : decode cX5_gather 281 = .ok (.iload_n 2, 1) := by decide +kernel
theorem dX5_gather_282 : decode cX5_gather 282 = .ok (.aload_n 0, 1) := by decide +kernel
theorem dX5_gather_283 : decode cX5_gather 283 = .ok (.getfield 154, 3) := by decide +kernel
theorem dX5_gather_286 : decode cX5_gather 286 = .ok (.if_icmp .ge 25, 3) := by decide +kernel
theorem dX5_gather_289 : decode cX5_gather 289 = .ok (.aload_n 0, 1) := by decide +kernel
theorem dX5_gather_290 : decode cX5_gather 290 = .ok (.getfield 37, 3) := by decide +kernel
theorem dX5_gather_293 : decode cX5_gather 293 = .ok (.iload_n 2, 1) := by decide +kernel
theorem dX5_gather_294 : decode cX5_gather 294 = .ok (.aload_n 0, 1) := by decide +kernel
theorem dX5_gather_295 : decode cX5_gather 295 = .ok (.aload_n 0, 1) := by decide +kernel
theorem dX5_gather_296 : decode cX5_gather 296 = .ok (.getfield 37, 3) := by decide +kernel
theorem dX5_gather_299 : decode cX5_gather 299 = .ok (.iload_n 2, 1) := by decide +kernel
theorem dX5_gather_300 : decode cX5_gather 300 = .ok (.iaload, 1) := by decide +kernel
theorem dX5_gather_301 : decode cX5_gather 301 = .ok (.invokevirtual 148, 3) := by decide +kernel
theorem dX5_gather_304 : decode cX5_gather 304 = .ok (.iastore, 1) := by decide +kernel
theorem dX5_gather_305 : decode cX5_gather 305 = .ok (.iinc 2 1, 3) := by decide +kernel
theorem dX5_gather_308 : decode cX5_gather 308 = .ok (.goto (-27), 3) := by decide +kernel
theorem dX5_gather_311 : decode cX5_gather 311 = .ok (.aload_n 0, 1) := by decide +kernel
theorem dX5_gather_312 : decode cX5_gather 312 = .ok (.iload_n 1, 1) := by decide +kernel
theorem dX5_gather_313 : decode cX5_gather 313 = .ok (.invokevirtual 160, 3) := by decide +kernel
theorem dX5_gather_316 : decode cX5_gather 316 = .ok (.aload_n 0, 1) := by decide +kernel
theorem dX5_gather_317 : decode cX5_gather 317 = .ok (.invokevirtual 163, 3) := by decide +kernel
theorem dX5_gather_320 : decode cX5_gather 320 = .ok (.aload_n 0, 1) := by decide +kernel
theorem dX5_gather_321 : decode cX5_gather 321 = .ok (.invokevirtual 166, 3) := by decide +kernel
theorem dX5_gather_324 : decode cX5_gather 324 = .ok (.aload_n 0, 1) := by decide +kernel
theorem dX5_gather_325 : decode cX5_gather 325 = .ok (.invokevirtual 163, 3) := by decide +kernel
theorem dX5_gather_328 : decode cX5_gather 328 = .ok (.iconst 0, 1) := by decide +kernel
theorem dX5_gather_329 : decode cX5_gather 329 = .ok (.istore_n 2, 1) := by decide +kernel
theorem dX5_gather_330 : decode cX5_gather 330 = .ok (.iload_n 2, 1) := by decide +kernel
theorem dX5_gather_331 : decode cX5_gather 331 = .ok (.bipush 8, 2) := by decide +kernel
theorem dX5_gather_333 : decode cX5_gather 333 = .ok (.if_icmp .ge 48, 3) := by decide +kernel
theorem dX5_gather_336 : decode cX5_gather 336 = .ok (.aload_n 0, 1) := by decide +kernel
theorem dX5_gather_337 : decode cX5_gather 337 = .ok (.getfield 31, 3) := by decide +kernel
theorem dX5_gather_340 : decode cX5_gather 340 = .ok (.iload_n 2, 1) := by decide +kernel
theorem dX5_gather_341 : decode cX5_gather 341 = .ok (.aload_n 0, 1) := by decide +kernel
theorem dX5_gather_342 : decode cX5_gather 342 = .ok (.aload_n 0, 1) := by decide +kernel
theorem dX5_gather_343 : decode cX5_gather 343 = .ok (.getfield 31, 3) := by decide +kernel
theorem dX5_gather_346 : decode cX5_gather 346 = .ok (.iload_n 2, 1) := by decide +kernel
theorem dX5_gather_347 : decode cX5_gather 347 = .ok (.iaload, 1) := by decide +kernel
theorem dX5_gather_348 : decode cX5_gather 348 = .ok (.invokevirtual 141, 3) := by decide +kernel
theorem dX5_gather_351 : decode cX5_gather 351 = .ok (.ifCond .eq 17, 3) := by decide +kernel
theorem dX5_gather_354 : decode cX5_gather 354 = .ok (.aload_n 0, 1) := by decide +kernel
theorem dX5_gather_355 : decode cX5_gather 355 = .ok (.getfield 13, 3) := by decide +kernel
theorem dX5_gather_358 : decode cX5_gather 358 = .ok (.aload_n 0, 1) := by decide +kernel
theorem dX5_gather_359 : decode cX5_gather 359 = .ok (.getfield 31, 3) := by decide +kernel
theorem dX5_gather_362 : decode cX5_gather 362 = .ok (.iload_n 2, 1) := by decide +kernel
theorem dX5_gather_363 : decode cX5_gather 363 = .ok (.iaload, 1) := by decide +kernel
theorem dX5_gather_364 : decode cX5_gather 364 = .ok (.iaload, 1) := by decide +kernel
theorem dX5_gather_365 : decode cX5_gather 365 = .ok (.goto 9, 3) := by decide +kernel
theorem dX5_gather_368 : decode cX5_gather 368 = .ok (.aload_n 0, 1) := by decide +kernel
theorem dX5_gather_369 : decode cX5_gather 369 = .ok (.getfield 31, 3) := by decide +kernel
theorem dX5_gather_372 : decode cX5_gather 372 = .ok (.iload_n 2, 1) := by decide +kernel
theorem dX5_gather_373 : decode cX5_gather 373 = .ok (.iaload, 1) := by decide +kernel
theorem dX5_gather_374 : decode cX5_gather 374 = .ok (.iastore, 1) := by decide +kernel
theorem dX5_gather_375 : decode cX5_gather 375 = .ok (.iinc 2 1, 3) := by decide +kernel
theorem dX5_gather_378 : decode cX5_gather 378 = .ok (.goto (-48), 3) := by decide +kernel
theorem dX5_gather_381 : decode cX5_gather 381 = .ok (.aload_n 0, 1) := by decide +kernel
theorem dX5_gather_382 : decode cX5_gather 382 = .ok (.getfield 55, 3) := by decide +kernel
theorem dX5_gather_385 : decode cX5_gather 385 = .ok (.iload_n 1, 1) := by decide +kernel
theorem dX5_gather_386 : decode cX5_gather 386 = .ok (.dup2, 1) := by decide +kernel
theorem dX5_gather_387 : decode cX5_gather 387 = .ok (.iaload, 1) := by decide +kernel
theorem dX5_gather_388 : decode cX5_gather 388 = .ok (.iconst 1, 1) := by decide +kernel
theorem dX5_gather_389 : decode cX5_gather 389 = .ok (.iadd, 1) := by decide +kernel
theorem dX5_gather_390 : decode cX5_gather 390 = .ok (.iastore, 1) := by decide +kernel
theorem dX5_gather_391 : decode cX5_gather 391 = .ok (.aload_n 0, 1) := by decide +kernel
theorem dX5_gather_392 : decode cX5_gather 392 = .ok (.aload_n 0, 1) := by decide +kernel
theorem dX5_gather_393 : decode cX5_gather 393 = .ok (.getfield 169, 3) := by decide +kernel
theorem dX5_gather_396 : decode cX5_gather 396 = .ok (.aload_n 0, 1) := by decide +kernel
theorem dX5_gather_397 : decode cX5_gather 397 = .ok (.getfield 138, 3) := by decide +kernel
theorem dX5_gather_400 : decode cX5_gather 400 = .ok (.iadd, 1) := by decide +kernel
theorem dX5_gather_401 : decode cX5_gather 401 = .ok (.putfield 169, 3) := by decide +kernel
theorem dX5_gather_404 : decode cX5_gather 404 = .ok (.aload_n 0, 1) := by decide +kernel
theorem dX5_gather_405 : decode cX5_gather 405 = .ok (.getfield 138, 3) := by decide +kernel
theorem dX5_gather_408 : decode cX5_gather 408 = .ok (.ireturn, 1) := by decide +kernel
theorem dX5_object_0 : decode cX5_object 0 = .ok (.iconst 0, 1) := by decide +kernel
theorem dX5_object_1 : decode cX5_object 1 = .ok (.istore 4, 2) := by decide +kernel
theorem dX5_object_3 : decode cX5_object 3 = .ok (.iload 4, 2) := by decide +kernel
theorem dX5_object_5 : decode cX5_object 5 = .ok (.iconst 3, 1) := by decide +kernel
theorem dX5_object_6 : decode cX5_object 6 = .ok (.if_icmp .ge 35, 3) := by decide +kernel
theorem dX5_object_9 : decode cX5_object 9 = .ok (.aload_n 0, 1) := by decide +kernel
theorem dX5_object_10 : decode cX5_object 10 = .ok (.getfield 22, 3) := by decide +kernel
theorem dX5_object_13 : decode cX5_object 13 = .ok (.iconst 0, 1) := by decide +kernel
theorem dX5_object_14 : decode cX5_object 14 = .ok (.iaload, 1) := by decide +kernel
theorem dX5_object_15 : decode cX5_object 15 = .ok (.iload_n 1, 1) := by decide +kernel
theorem dX5_object_16 : decode cX5_object 16 = .ok (.iadd, 1) := by decide +kernel
theorem dX5_object_17 : decode cX5_object 17 = .ok (.iconst 2, 1) := by decide +kernel
theorem dX5_object_18 : decode cX5_object 18 = .ok (.iadd, 1) := by decide +kernel
theorem dX5_object_19 : decode cX5_object 19 = .ok (.aload_n 0, 1) := by decide +kernel
theorem dX5_object_20 : decode cX5_object 20 = .ok (.iconst 0, 1) := by decide +kernel
theorem dX5_object_21 : decode cX5_object 21 = .ok (.invokevirtual 94, 3) := by decide +kernel
theorem dX5_object_24 : decode cX5_object 24 = .ok (.if_icmp .le 17, 3) := by decide +kernel
theorem dX5_object_27 : decode cX5_object 27 = .ok (.aload_n 0, 1) := by decide +kernel
theorem dX5_object_28 : decode cX5_object 28 = .ok (.iload 4, 2) := by decide +kernel
theorem dX5_object_30 : decode cX5_object 30 = .ok (.invokevirtual 172, 3) := by decide +kernel
theorem dX5_object_33 : decode cX5_object 33 = .ok (.istore 5, 2) := by decide +kernel
theorem dX5_object_35 : decode cX5_object 35 = .ok (.iinc 4 1, 3) := by decide +kernel
theorem dX5_object_38 : decode cX5_object 38 = .ok (.goto (-35), 3) := by decide +kernel
theorem dX5_object_41 : decode cX5_object 41 = .ok (.aload_n 0, 1) := by decide +kernel
theorem dX5_object_42 : decode cX5_object 42 = .ok (.getfield 22, 3) := by decide +kernel
theorem dX5_object_45 : decode cX5_object 45 = .ok (.iconst 0, 1) := by decide +kernel
theorem dX5_object_46 : decode cX5_object 46 = .ok (.iaload, 1) := by decide +kernel
theorem dX5_object_47 : decode cX5_object 47 = .ok (.iload_n 1, 1) := by decide +kernel
theorem dX5_object_48 : decode cX5_object 48 = .ok (.iadd, 1) := by decide +kernel
theorem dX5_object_49 : decode cX5_object 49 = .ok (.iconst 2, 1) := by decide +kernel
theorem dX5_object_50 : decode cX5_object 50 = .ok (.iadd, 1) := by decide +kernel
theorem dX5_object_51 : decode cX5_object 51 = .ok (.aload_n 0, 1) := by decide +kernel
theorem dX5_object_52 : decode cX5_object 52 = .ok (.iconst 0, 1) := by decide +kernel
theorem dX5_object_53 : decode cX5_object 53 = .ok (.invokevirtual 94, 3) := by decide +kernel
theorem dX5_object_56 : decode cX5_object 56 = .ok (.if_icmp .le 5, 3) := by decide +kernel
theorem dX5_object_59 : decode cX5_object 59 = .ok (.iconst 0, 1) := by decide +kernel
theorem dX5_object_60 : decode cX5_object 60 = .ok (.ireturn, 1) := by decide +kernel
theorem dX5_object_61 : decode cX5_object 61 = .ok (.aload_n 0, 1) := by decide +kernel
theorem dX5_object_62 : decode cX5_object 62 = .ok (.iconst 0, 1) := by decide +kernel
theorem dX5_object_63 : decode cX5_object 63 = .ok (.aload_n 0, 1) := by decide +kernel
theorem dX5_object_64 : decode cX5_object 64 = .ok (.getfield 19, 3) := by decide +kernel
theorem dX5_object_67 : decode cX5_object 67 = .ok (.iconst 0, 1) := by decide +kernel
theorem dX5_object_68 : decode cX5_object 68 = .ok (.iaload, 1) := by decide +kernel
theorem dX5_object_69 : decode cX5_object 69 = .ok (.invokevirtual 131, 3) := by decide +kernel
theorem dX5_object_72 : decode cX5_object 72 = .ok (.aload_n 0, 1) := by decide +kernel
theorem dX5_object_73 : decode cX5_object 73 = .ok (.getfield 22, 3) := by decide +kernel
theorem dX5_object_76 : decode cX5_object 76 = .ok (.iconst 0, 1) := by decide +kernel
theorem dX5_object_77 : decode cX5_object 77 = .ok (.iaload, 1) := by decide +kernel
theorem dX5_object_78 : decode cX5_object 78 = .ok (.iadd, 1) := by decide +kernel
theorem dX5_object_79 : decode cX5_object 79 = .ok (.istore 4, 2) := by decide +kernel
theorem dX5_object_81 : decode cX5_object 81 = .ok (.aload_n 0, 1) := by decide +kernel
theorem dX5_object_82 : decode cX5_object 82 = .ok (.getfield 22, 3) := by decide +kernel
theorem dX5_object_85 : decode cX5_object 85 = .ok (.iconst 0, 1) := by decide +kernel
theorem dX5_object_86 : decode cX5_object 86 = .ok (.aload_n 0, 1) := by decide +kernel
theorem dX5_object_87 : decode cX5_object 87 = .ok (.getfield 22, 3) := by decide +kernel
theorem dX5_object_90 : decode cX5_object 90 = .ok (.iconst 0, 1) := by decide +kernel
theorem dX5_object_91 : decode cX5_object 91 = .ok (.iaload, 1) := by decide +kernel
theorem dX5_object_92 : decode cX5_object 92 = .ok (.iload_n 1, 1) := by decide +kernel
theorem dX5_object_93 : decode cX5_object 93 = .ok (.iadd, 1) := by decide +kernel
theorem dX5_object_94 : decode cX5_object 94 = .ok (.iconst 2, 1) := by decide +kernel
theorem dX5_object_95 : decode cX5_object 95 = .ok (.iadd, 1) := by decide +kernel
theorem dX5_object_96 : decode cX5_object 96 = .ok (.iastore, 1) := by decide +kernel
theorem dX5_object_97 : decode cX5_object 97 = .ok (.aload_n 0, 1) := by decide +kernel
theorem dX5_object_98 : decode cX5_object 98 = .ok (.getfield 7, 3) := by decide +kernel
theorem dX5_object_101 : decode cX5_object 101 = .ok (.iload 4, 2) := by decide +kernel
theorem dX5_object_103 : decode cX5_object 103 = .ok (.iload_n 1, 1) := by decide +kernel
theorem dX5_object_104 : decode cX5_object 104 = .ok (.iload_n 3, 1) := by decide +kernel
theorem dX5_object_105 : decode cX5_object 105 = .ok (.ifCond .eq 8, 3) := by decide +kernel
theorem dX5_object_108 : decode cX5_object 108 = .ok (.bipush 64, 2) := by decide +kernel
theorem dX5_object_110 : decode cX5_object 110 = .ok (.goto 4, 3) := by decide +kernel
theorem dX5_object_113 : decode cX5_object 113 = .ok (.iconst 0, 1) := by decide +kernel
theorem dX5_object_114 : decode cX5_object 114 = .ok (.iadd, 1) := by decide +kernel
theorem dX5_object_115 : decode cX5_object 115 = .ok (.iastore, 1) := by decide +kernel
theorem dX5_object_116 : decode cX5_object 116 = .ok (.aload_n 0, 1) := by decide +kernel
theorem dX5_object_117 : decode cX5_object 117 = .ok (.getfield 7, 3) := by decide +kernel
theorem dX5_object_120 : decode cX5_object 120 = .ok (.iload 4, 2) := by decide +kernel
theorem dX5_object_122 : decode cX5_object 122 = .ok (.iconst 1, 1) := by decide +kernel
theorem dX5_object_123 : decode cX5_object 123 = .ok (.iadd, 1) := by decide +kernel
theorem dX5_object_124 : decode cX5_object 124 = .ok (.iload_n 2, 1) := by decide +kernel
theorem dX5_object_125 : decode cX5_object 125 = .ok (.iastore, 1) := by decide +kernel
theorem dX5_object_126 : decode cX5_object 126 = .ok (.iconst 0, 1) := by decide +kernel
theorem dX5_object_127 : decode cX5_object 127 = .ok (.istore 5, 2) := by decide +kernel
theorem dX5_object_129 : decode cX5_object 129 = .ok (.iload 5, 2) := by decide +kernel
theorem dX5_object_131 : decode cX5_object 131 = .ok (.iload_n 1, 1) := by decide +kernel
theorem dX5_object_132 : decode cX5_object 132 = .ok (.if_icmp .ge 22, 3) := by decide +kernel
theorem dX5_object_135 : decode cX5_object 135 = .ok (.aload_n 0, 1) := by decide +kernel
theorem dX5_object_136 : decode cX5_object 136 = .ok (.getfield 7, 3) := by decide +kernel
theorem dX5_object_139 : decode cX5_object 139 = .ok (.iload 4, 2) := by decide +kernel
theorem dX5_object_141 : decode cX5_object 141 = .ok (.iconst 2, 1) := by decide +kernel
theorem dX5_object_142 : decode cX5_object 142 = .ok (.iadd, 1) := by decide +kernel
theorem dX5_object_143 : decode cX5_object 143 = .ok (.iload 5, 2) := by decide +kernel
theorem dX5_object_145 : decode cX5_object 145 = .ok (.iadd, 1) := by decide +kernel
theorem dX5_object_146 : decode cX5_object 146 = .ok (.iconst 0, 1) := by decide +kernel
theorem dX5_object_147 : decode cX5_object 147 = .ok (.iastore, 1) := by decide +kernel
theorem dX5_object_148 : decode cX5_object 148 = .ok (.iinc 5 1, 3) := by decide +kernel
theorem dX5_object_151 : decode cX5_object 151 = .ok (.goto (-22), 3) := by decide +kernel
theorem dX5_object_154 : decode cX5_object 154 = .ok (.iload_n 3, 1) := by decide +kernel
theorem dX5_object_155 : decode cX5_object 155 = .ok (.ifCond .eq 24, 3) := by decide +kernel
theorem dX5_object_158 : decode cX5_object 158 = .ok (.aload_n 0, 1) := by decide +kernel
theorem dX5_object_159 : decode cX5_object 159 = .ok (.getfield 34, 3) := by decide +kernel
theorem dX5_object_162 : decode cX5_object 162 = .ok (.aload_n 0, 1) := by decide +kernel
theorem dX5_object_163 : decode cX5_object 163 = .ok (.getfield 151, 3) := by decide +kernel
theorem dX5_object_166 : decode cX5_object 166 = .ok (.iload 4, 2) := by decide +kernel
theorem dX5_object_168 : decode cX5_object 168 = .ok (.iastore, 1) := by decide +kernel
theorem dX5_object_169 : decode cX5_object 169 = .ok (.aload_n 0, 1) := by decide +kernel
theorem dX5_object_170 : decode cX5_object 170 = .ok (.dup, 1) := by decide +kernel
theorem dX5_object_171 : decode cX5_object 171 = .ok (.getfield 151, 3) := by decide +kernel
theorem dX5_object_174 : decode cX5_object 174 = .ok (.iconst 1, 1) := by decide +kernel
theorem dX5_object_175 : decode cX5_object 175 = .ok (.iadd, 1) := by decide +kernel
theorem dX5_object_176 : decode cX5_object 176 = .ok (.putfield 151, 3) := by decide +kernel
theorem dX5_object_179 : decode cX5_object 179 = .ok (.iload 4, 2) := by decide +kernel
theorem dX5_object_181 : decode cX5_object 181 = .ok (.ireturn, 1) := by decide +kernel
theorem dX5_make_0 : decode cX5_make 0 = .ok (.aload_n 0, 1) := by decide +kernel
theorem dX5_make_1 : decode cX5_make 1 = .ok (.iload_n 1, 1) := by decide +kernel
theorem dX5_make_2 : decode cX5_make 2 = .ok (.invokestatic 175, 3) := by decide +kernel
theorem dX5_make_5 : decode cX5_make 5 = .ok (.ifCond .ne 7, 3) := by decide +kernel
theorem dX5_make_8 : decode cX5_make 8 = .ok (.iconst 1, 1) := by decide +kernel
theorem dX5_make_9 : decode cX5_make 9 = .ok (.goto 18, 3) := by decide +kernel
theorem dX5_make_12 : decode cX5_make 12 = .ok (.iload_n 2, 1) := by decide +kernel
theorem dX5_make_13 : decode cX5_make 13 = .ok (.iconst 0, 1) := by decide +kernel
theorem dX5_make_14 : decode cX5_make 14 = .ok (.bipush 6, 2) := by decide +kernel
theorem dX5_make_16 : decode cX5_make 16 = .ok (.invokestatic 90, 3) := by decide +kernel
theorem dX5_make_19 : decode cX5_make 19 = .ok (.ifCond .ne 7, 3) := by decide +kernel
theorem dX5_make_22 : decode cX5_make 22 = .ok (.iconst 2, 1) := by decide +kernel
theorem dX5_make_23 : decode cX5_make 23 = .ok (.goto 4, 3) := by decide +kernel
theorem dX5_make_26 : decode cX5_make 26 = .ok (.iconst 0, 1) := by decide +kernel
theorem dX5_make_27 : decode cX5_make 27 = .ok (.putfield 87, 3) := by decide +kernel
theorem dX5_make_30 : decode cX5_make 30 = .ok (.aload_n 0, 1) := by decide +kernel
theorem dX5_make_31 : decode cX5_make 31 = .ok (.getfield 87, 3) := by decide +kernel
theorem dX5_make_34 : decode cX5_make 34 = .ok (.ifCond .le 5, 3) := by decide +kernel
theorem dX5_make_37 : decode cX5_make 37 = .ok (.iconst 0, 1) := by decide +kernel
theorem dX5_make_38 : decode cX5_make 38 = .ok (.ireturn, 1) := by decide +kernel
theorem dX5_make_39 : decode cX5_make 39 = .ok (.aload_n 0, 1) := by decide +kernel
theorem dX5_make_40 : decode cX5_make 40 = .ok (.iload_n 2, 1) := by decide +kernel
theorem dX5_make_41 : decode cX5_make 41 = .ok (.iload_n 3, 1) := by decide +kernel
theorem dX5_make_42 : decode cX5_make 42 = .ok (.iload 4, 2) := by decide +kernel
theorem dX5_make_44 : decode cX5_make 44 = .ok (.invokevirtual 178, 3) := by decide +kernel
theorem dX5_make_47 : decode cX5_make 47 = .ok (.istore 5, 2) := by decide +kernel
theorem dX5_make_49 : decode cX5_make 49 = .ok (.aload_n 0, 1) := by decide +kernel
theorem dX5_make_50 : decode cX5_make 50 = .ok (.getfield 25, 3) := by decide +kernel
theorem dX5_make_53 : decode cX5_make 53 = .ok (.iload_n 1, 1) := by decide +kernel
theorem dX5_make_54 : decode cX5_make 54 = .ok (.iload 5, 2) := by decide +kernel
theorem dX5_make_56 : decode cX5_make 56 = .ok (.ifCond .eq 8, 3) := by decide +kernel
theorem dX5_make_59 : decode cX5_make 59 = .ok (.iload 5, 2) := by decide +kernel
theorem dX5_make_61 : decode cX5_make 61 = .ok (.goto 9, 3) := by decide +kernel
theorem dX5_make_64 : decode cX5_make 64 = .ok (.aload_n 0, 1) := by decide +kernel
theorem dX5_make_65 : decode cX5_make 65 = .ok (.getfield 25, 3) := by decide +kernel
theorem dX5_make_68 : decode cX5_make 68 = .ok (.iload_n 1, 1) := by decide +kernel
theorem dX5_make_69 : decode cX5_make 69 = .ok (.iaload, 1) := by decide +kernel
theorem dX5_make_70 : decode cX5_make 70 = .ok (.iastore, 1) := by decide +kernel
theorem dX5_make_71 : decode cX5_make 71 = .ok (.iload 5, 2) := by decide +kernel
theorem dX5_make_73 : decode cX5_make 73 = .ok (.ireturn, 1) := by decide +kernel
theorem dX5_push_0 : decode cX5_push 0 = .ok (.aload_n 0, 1) := by decide +kernel
theorem dX5_push_1 : decode cX5_push 1 = .ok (.iload_n 1, 1) := by decide +kernel
theorem dX5_push_2 : decode cX5_push 2 = .ok (.invokestatic 175, 3) := by decide +kernel
theorem dX5_push_5 : decode cX5_push 5 = .ok (.ifCond .ne 7, 3) := by decide +kernel
theorem dX5_push_8 : decode cX5_push 8 = .ok (.iconst 1, 1) := by decide +kernel
theorem dX5_push_9 : decode cX5_push 9 = .ok (.goto 18, 3) := by decide +kernel
theorem dX5_push_12 : decode cX5_push 12 = .ok (.iload_n 3, 1) := by decide +kernel
theorem dX5_push_13 : decode cX5_push 13 = .ok (.iconst 1, 1) := by decide +kernel
theorem dX5_push_14 : decode cX5_push 14 = .ok (.bipush 40, 2) := by decide +kernel
theorem dX5_push_16 : decode cX5_push 16 = .ok (.invokestatic 90, 3) := by decide +kernel
theorem dX5_push_19 : decode cX5_push 19 = .ok (.ifCond .ne 7, 3) := by decide +kernel
theorem dX5_push_22 : decode cX5_push 22 = .ok (.iconst 2, 1) := by decide +kernel
theorem dX5_push_23 : decode cX5_push 23 = .ok (.goto 4, 3) := by decide +kernel
theorem dX5_push_26 : decode cX5_push 26 = .ok (.iconst 0, 1) := by decide +kernel
theorem dX5_push_27 : decode cX5_push 27 = .ok (.putfield 87, 3) := by decide +kernel
theorem dX5_push_30 : decode cX5_push 30 = .ok (.iconst 0, 1) := by decide +kernel
theorem dX5_push_31 : decode cX5_push 31 = .ok (.istore 4, 2) := by decide +kernel
theorem dX5_push_33 : decode cX5_push 33 = .ok (.iconst 1, 1) := by decide +kernel
theorem dX5_push_34 : decode cX5_push 34 = .ok (.istore 5, 2) := by decide +kernel
theorem dX5_push_36 : decode cX5_push 36 = .ok (.aload_n 0, 1) := by decide +kernel
theorem dX5_push_37 : decode cX5_push 37 = .ok (.getfield 87, 3) := by decide +kernel
theorem dX5_push_40 : decode cX5_push 40 = .ok (.ifCond .ne 59, 3) := by decide +kernel
theorem dX5_push_43 : decode cX5_push 43 = .ok (.iload 5, 2) := by decide +kernel
theorem dX5_push_45 : decode cX5_push 45 = .ok (.ifCond .eq 54, 3) := by decide +kernel
theorem dX5_push_48 : decode cX5_push 48 = .ok (.iload 4, 2) := by decide +kernel
theorem dX5_push_50 : decode cX5_push 50 = .ok (.iload_n 3, 1) := by decide +kernel
theorem dX5_push_51 : decode cX5_push 51 = .ok (.if_icmp .ge 48, 3) := by decide +kernel
theorem dX5_push_54 : decode cX5_push 54 = .ok (.aload_n 0, 1) := by decide +kernel
theorem dX5_push_55 : decode cX5_push 55 = .ok (.iconst 2, 1) := by decide +kernel
theorem dX5_push_56 : decode cX5_push 56 = .ok (.iload_n 2, 1) := by decide +kernel
theorem dX5_push_57 : decode cX5_push 57 = .ok (.iload 4, 2) := by decide +kernel
theorem dX5_push_59 : decode cX5_push 59 = .ok (.iadd, 1) := by decide +kernel
theorem dX5_push_60 : decode cX5_push 60 = .ok (.iconst 0, 1) := by decide +kernel
theorem dX5_push_61 : decode cX5_push 61 = .ok (.invokevirtual 178, 3) := by decide +kernel
theorem dX5_push_64 : decode cX5_push 64 = .ok (.istore 5, 2) := by decide +kernel
theorem dX5_push_66 : decode cX5_push 66 = .ok (.iload 5, 2) := by decide +kernel
theorem dX5_push_68 : decode cX5_push 68 = .ok (.ifCond .eq (-32), 3) := by decide +kernel
theorem dX5_push_71 : decode cX5_push 71 = .ok (.aload_n 0, 1) := by decide +kernel
theorem dX5_push_72 : decode cX5_push 72 = .ok (.iload 5, 2) := by decide +kernel
theorem dX5_push_74 : decode cX5_push 74 = .ok (.iconst 2, 1) := by decide +kernel
theorem dX5_push_75 : decode cX5_push 75 = .ok (.iadd, 1) := by decide +kernel
theorem dX5_push_76 : decode cX5_push 76 = .ok (.aload_n 0, 1) := by decide +kernel
theorem dX5_push_77 : decode cX5_push 77 = .ok (.getfield 25, 3) := by decide +kernel
theorem dX5_push_80 : decode cX5_push 80 = .ok (.iload_n 1, 1) := by decide +kernel
theorem dX5_push_81 : decode cX5_push 81 = .ok (.iaload, 1) := by decide +kernel
theorem dX5_push_82 : decode cX5_push 82 = .ok (.invokevirtual 182, 3) := by decide +kernel
theorem dX5_push_85 : decode cX5_push 85 = .ok (.aload_n 0, 1) := by decide +kernel
theorem dX5_push_86 : decode cX5_push 86 = .ok (.getfield 25, 3) := by decide +kernel
theorem dX5_push_89 : decode cX5_push 89 = .ok (.iload_n 1, 1) := by decide +kernel
theorem dX5_push_90 : decode cX5_push 90 = .ok (.iload 5, 2) := by decide +kernel
theorem dX5_push_92 : decode cX5_push 92 = .ok (.iastore, 1) := by decide +kernel
theorem dX5_push_93 : decode cX5_push 93 = .ok (.iinc 4 1, 3) := by decide +kernel
theorem dX5_push_96 : decode cX5_push 96 = .ok (.goto (-60), 3) := by decide +kernel
theorem dX5_push_99 : decode cX5_push 99 = .ok (.iload 4, 2) := by decide +kernel
theorem dX5_push_101 : decode cX5_push 101 = .ok (.ireturn, 1) := by decide +kernel
theorem dX5_hasField_0 : decode cX5_hasField 0 = .ok (.aload_n 0, 1) := by decide +kernel
theorem dX5_hasField_1 : decode cX5_hasField 1 = .ok (.aload_n 0, 1) := by decide +kernel
theorem dX5_hasField_2 : decode cX5_hasField 2 = .ok (.getfield 25, 3) := by decide +kernel
theorem dX5_hasField_5 : decode cX5_hasField 5 = .ok (.iload_n 1, 1) := by decide +kernel
theorem dX5_hasField_6 : decode cX5_hasField 6 = .ok (.iaload, 1) := by decide +kernel
theorem dX5_hasField_7 : decode cX5_hasField 7 = .ok (.ifCond .ne 7, 3) := by decide +kernel
theorem dX5_hasField_10 : decode cX5_hasField 10 = .ok (.iconst 2, 1) := by decide +kernel
theorem dX5_hasField_11 : decode cX5_hasField 11 = .ok (.goto 28, 3) := by decide +kernel
theorem dX5_hasField_14 : decode cX5_hasField 14 = .ok (.iload_n 2, 1) := by decide +kernel
theorem dX5_hasField_15 : decode cX5_hasField 15 = .ok (.iconst 0, 1) := by decide +kernel
theorem dX5_hasField_16 : decode cX5_hasField 16 = .ok (.aload_n 0, 1) := by decide +kernel
theorem dX5_hasField_17 : decode cX5_hasField 17 = .ok (.aload_n 0, 1) := by decide +kernel
theorem dX5_hasField_18 : decode cX5_hasField 18 = .ok (.getfield 25, 3) := by decide +kernel
theorem dX5_hasField_21 : decode cX5_hasField 21 = .ok (.iload_n 1, 1) := by decide +kernel
theorem dX5_hasField_22 : decode cX5_hasField 22 = .ok (.iaload, 1) := by decide +kernel
theorem dX5_hasField_23 : decode cX5_hasField 23 = .ok (.invokevirtual 121, 3) := by decide +kernel
theorem dX5_hasField_26 : decode cX5_hasField 26 = .ok (.iconst 1, 1) := by decide +kernel
theorem dX5_hasField_27 : decode cX5_hasField 27 = .ok (.isub, 1) := by decide +kernel
theorem dX5_hasField_28 : decode cX5_hasField 28 = .ok (.invokestatic 90, 3) := by decide +kernel
theorem dX5_hasField_31 : decode cX5_hasField 31 = .ok (.ifCond .ne 7, 3) := by decide +kernel
theorem dX5_hasField_34 : decode cX5_hasField 34 = .ok (.iconst 1, 1) := by decide +kernel
theorem dX5_hasField_35 : decode cX5_hasField 35 = .ok (.goto 4, 3) := by decide +kernel
theorem dX5_hasField_38 : decode cX5_hasField 38 = .ok (.iconst 0, 1) := by decide +kernel
theorem dX5_hasField_39 : decode cX5_hasField 39 = .ok (.putfield 87, 3) := by decide +kernel
theorem dX5_hasField_42 : decode cX5_hasField 42 = .ok (.aload_n 0, 1) := by decide +kernel
theorem dX5_hasField_43 : decode cX5_hasField 43 = .ok (.getfield 87, 3) := by decide +kernel
theorem dX5_hasField_46 : decode cX5_hasField 46 = .ok (.ifCond .ne 7, 3) := by decide +kernel
theorem dX5_hasField_49 : decode cX5_hasField 49 = .ok (.iconst 1, 1) := by decide +kernel
theorem dX5_hasField_50 : decode cX5_hasField 50 = .ok (.goto 4, 3) := by decide +kernel
theorem dX5_hasField_53 : decode cX5_hasField 53 = .ok (.iconst 0, 1) := by decide +kernel
theorem dX5_hasField_54 : decode cX5_hasField 54 = .ok (.ireturn, 1) := by decide +kernel
theorem dX5_put_0 : decode cX5_put 0 = .ok (.aload_n 0, 1) := by decide +kernel
theorem dX5_put_1 : decode cX5_put 1 = .ok (.iload_n 1, 1) := by decide +kernel
theorem dX5_put_2 : decode cX5_put 2 = .ok (.invokestatic 175, 3) := by decide +kernel
theorem dX5_put_5 : decode cX5_put 5 = .ok (.ifCond .eq 19, 3) := by decide +kernel
theorem dX5_put_8 : decode cX5_put 8 = .ok (.iload_n 3, 1) := by decide +kernel
theorem dX5_put_9 : decode cX5_put 9 = .ok (.iconst (-1), 1) := by decide +kernel
theorem dX5_put_10 : decode cX5_put 10 = .ok (.if_icmp .eq 10, 3) := by decide +kernel
theorem dX5_put_13 : decode cX5_put 13 = .ok (.iload_n 3, 1) := by decide +kernel
theorem dX5_put_14 : decode cX5_put 14 = .ok (.invokestatic 175, 3) := by decide +kernel
theorem dX5_put_17 : decode cX5_put 17 = .ok (.ifCond .eq 7, 3) := by decide +kernel
theorem dX5_put_20 : decode cX5_put 20 = .ok (.iconst 0, 1) := by decide +kernel
theorem dX5_put_21 : decode cX5_put 21 = .ok (.goto 4, 3) := by decide +kernel
theorem dX5_put_24 : decode cX5_put 24 = .ok (.iconst 1, 1) := by decide +kernel
theorem dX5_put_25 : decode cX5_put 25 = .ok (.putfield 87, 3) := by decide +kernel
theorem dX5_put_28 : decode cX5_put 28 = .ok (.aload_n 0, 1) := by decide +kernel
theorem dX5_put_29 : decode cX5_put 29 = .ok (.getfield 87, 3) := by decide +kernel
theorem dX5_put_32 : decode cX5_put 32 = .ok (.ifCond .gt 12, 3) := by decide +kernel
theorem dX5_put_35 : decode cX5_put 35 = .ok (.aload_n 0, 1) := by decide +kernel
theorem dX5_put_36 : decode cX5_put 36 = .ok (.iload_n 1, 1) := by decide +kernel
theorem dX5_put_37 : decode cX5_put 37 = .ok (.iload_n 2, 1) := by decide +kernel
theorem dX5_put_38 : decode cX5_put 38 = .ok (.invokevirtual 185, 3) := by decide +kernel
theorem dX5_put_41 : decode cX5_put 41 = .ok (.ifCond .ne 5, 3) := by decide +kernel
theorem dX5_put_44 : decode cX5_put 44 = .ok (.iconst 0, 1) := by decide +kernel
theorem dX5_put_45 : decode cX5_put 45 = .ok (.ireturn, 1) := by decide +kernel
theorem dX5_put_46 : decode cX5_put 46 = .ok (.aload_n 0, 1) := by decide +kernel
theorem dX5_put_47 : decode cX5_put 47 = .ok (.getfield 25, 3) := by decide +kernel
theorem dX5_put_50 : decode cX5_put 50 = .ok (.iload_n 1, 1) := by decide +kernel
theorem dX5_put_51 : decode cX5_put 51 = .ok (.iaload, 1) := by decide +kernel
theorem dX5_put_52 : decode cX5_put 52 = .ok (.iconst 2, 1) := by decide +kernel
theorem dX5_put_53 : decode cX5_put 53 = .ok (.iadd, 1) := by decide +kernel
theorem dX5_put_54 : decode cX5_put 54 = .ok (.iload_n 2, 1) := by decide +kernel
theorem dX5_put_55 : decode cX5_put 55 = .ok (.iadd, 1) := by decide +kernel
theorem dX5_put_56 : decode cX5_put 56 = .ok (.istore 4, 2) := by decide +kernel
theorem dX5_put_58 : decode cX5_put 58 = .ok (.aload_n 0, 1) := by decide +kernel
theorem dX5_put_59 : decode cX5_put 59 = .ok (.getfield 7, 3) := by decide +kernel
theorem dX5_put_62 : decode cX5_put 62 = .ok (.iload 4, 2) := by decide +kernel
theorem dX5_put_64 : decode cX5_put 64 = .ok (.iaload, 1) := by decide +kernel
theorem dX5_put_65 : decode cX5_put 65 = .ok (.istore 5, 2) := by decide +kernel
theorem dX5_put_67 : decode cX5_put 67 = .ok (.aload_n 0, 1) := by decide +kernel
theorem dX5_put_68 : decode cX5_put 68 = .ok (.iload 4, 2) := by decide +kernel
theorem dX5_put_70 : decode cX5_put 70 = .ok (.iload_n 3, 1) := by decide +kernel
theorem dX5_put_71 : decode cX5_put 71 = .ok (.iconst (-1), 1) := by decide +kernel
theorem dX5_put_72 : decode cX5_put 72 = .ok (.if_icmp .ne 7, 3) := by decide +kernel
theorem dX5_put_75 : decode cX5_put 75 = .ok (.iconst 0, 1) := by decide +kernel
theorem dX5_put_76 : decode cX5_put 76 = .ok (.goto 9, 3) := by decide +kernel
theorem dX5_put_79 : decode cX5_put 79 = .ok (.aload_n 0, 1) := by decide +kernel
theorem dX5_put_80 : decode cX5_put 80 = .ok (.getfield 25, 3) := by decide +kernel
theorem dX5_put_83 : decode cX5_put 83 = .ok (.iload_n 3, 1) := by decide +kernel
theorem dX5_put_84 : decode cX5_put 84 = .ok (.iaload, 1) := by decide +kernel
theorem dX5_put_85 : decode cX5_put 85 = .ok (.invokevirtual 182, 3) := by decide +kernel
theorem dX5_put_88 : decode cX5_put 88 = .ok (.iload 5, 2) := by decide +kernel
theorem dX5_put_90 : decode cX5_put 90 = .ok (.ireturn, 1) := by decide +kernel
theorem dX5_get_0 : decode cX5_get 0 = .ok (.aload_n 0, 1) := by decide +kernel
theorem dX5_get_1 : decode cX5_get 1 = .ok (.iload_n 1, 1) := by decide +kernel
theorem dX5_get_2 : decode cX5_get 2 = .ok (.invokestatic 175, 3) := by decide +kernel
theorem dX5_get_5 : decode cX5_get 5 = .ok (.ifCond .eq 14, 3) := by decide +kernel
theorem dX5_get_8 : decode cX5_get 8 = .ok (.iload_n 2, 1) := by decide +kernel
theorem dX5_get_9 : decode cX5_get 9 = .ok (.invokestatic 175, 3) := by decide +kernel
theorem dX5_get_12 : decode cX5_get 12 = .ok (.ifCond .eq 7, 3) := by decide +kernel
theorem dX5_get_15 : decode cX5_get 15 = .ok (.iconst 0, 1) := by decide +kernel
theorem dX5_get_16 : decode cX5_get 16 = .ok (.goto 4, 3) := by decide +kernel
theorem dX5_get_19 : decode cX5_get 19 = .ok (.iconst 1, 1) := by decide +kernel
theorem dX5_get_20 : decode cX5_get 20 = .ok (.putfield 87, 3) := by decide +kernel
theorem dX5_get_23 : decode cX5_get 23 = .ok (.aload_n 0, 1) := by decide +kernel
theorem dX5_get_24 : decode cX5_get 24 = .ok (.getfield 87, 3) := by decide +kernel
theorem dX5_get_27 : decode cX5_get 27 = .ok (.ifCond .gt 12, 3) := by decide +kernel
theorem dX5_get_30 : decode cX5_get 30 = .ok (.aload_n 0, 1) := by decide +kernel
theorem dX5_get_31 : decode cX5_get 31 = .ok (.iload_n 2, 1) := by decide +kernel
theorem dX5_get_32 : decode cX5_get 32 = .ok (.iload_n 3, 1) := by decide +kernel
theorem dX5_get_33 : decode cX5_get 33 = .ok (.invokevirtual 185, 3) := by decide +kernel
theorem dX5_get_36 : decode cX5_get 36 = .ok (.ifCond .ne 5, 3) := by decide +kernel
theorem dX5_get_39 : decode cX5_get 39 = .ok (.iconst 0, 1) := by decide +kernel
theorem dX5_get_40 : decode cX5_get 40 = .ok (.ireturn, 1) := by decide +kernel
theorem dX5_get_41 : decode cX5_get 41 = .ok (.aload_n 0, 1) := by decide +kernel
theorem dX5_get_42 : decode cX5_get 42 = .ok (.getfield 25, 3) := by decide +kernel
theorem dX5_get_45 : decode cX5_get 45 = .ok (.iload_n 1, 1) := by decide +kernel
theorem dX5_get_46 : decode cX5_get 46 = .ok (.aload_n 0, 1) := by decide +kernel
theorem dX5_get_47 : decode cX5_get 47 = .ok (.getfield 7, 3) := by decide +kernel
theorem dX5_get_50 : decode cX5_get 50 = .ok (.aload_n 0, 1) := by decide +kernel
theorem dX5_get_51 : decode cX5_get 51 = .ok (.getfield 25, 3) := by decide +kernel
theorem dX5_get_54 : decode cX5_get 54 = .ok (.iload_n 2, 1) := by decide +kernel
theorem dX5_get_55 : decode cX5_get 55 = .ok (.iaload, 1) := by decide +kernel
theorem dX5_get_56 : decode cX5_get 56 = .ok (.iconst 2, 1) := by decide +kernel
theorem dX5_get_57 : decode cX5_get 57 = .ok (.iadd, 1) := by decide +kernel
theorem dX5_get_58 : decode cX5_get 58 = .ok (.iload_n 3, 1) := by decide +kernel
theorem dX5_get_59 : decode cX5_get 59 = .ok (.iadd, 1) := by decide +kernel
theorem dX5_get_60 : decode cX5_get 60 = .ok (.iaload, 1) := by decide +kernel
theorem dX5_get_61 : decode cX5_get 61 = .ok (.iastore, 1) := by decide +kernel
theorem dX5_get_62 : decode cX5_get 62 = .ok (.aload_n 0, 1) := by decide +kernel
theorem dX5_get_63 : decode cX5_get 63 = .ok (.getfield 25, 3) := by decide +kernel
theorem dX5_get_66 : decode cX5_get 66 = .ok (.iload_n 1, 1) := by decide +kernel
theorem dX5_get_67 : decode cX5_get 67 = .ok (.iaload, 1) := by decide +kernel
theorem dX5_get_68 : decode cX5_get 68 = .ok (.ireturn, 1) := by decide +kernel
theorem dX5_move_0 : decode cX5_move 0 = .ok (.aload_n 0, 1) := by decide +kernel
theorem dX5_move_1 : decode cX5_move 1 = .ok (.iload_n 1, 1) := by decide +kernel
theorem dX5_move_2 : decode cX5_move 2 = .ok (.invokestatic 175, 3) := by decide +kernel
theorem dX5_move_5 : decode cX5_move 5 = .ok (.ifCond .eq 19, 3) := by decide +kernel
theorem dX5_move_8 : decode cX5_move 8 = .ok (.iload_n 2, 1) := by decide +kernel
theorem dX5_move_9 : decode cX5_move 9 = .ok (.iconst (-1), 1) := by decide +kernel
theorem dX5_move_10 : decode cX5_move 10 = .ok (.if_icmp .eq 10, 3) := by decide +kernel
theorem dX5_move_13 : decode cX5_move 13 = .ok (.iload_n 2, 1) := by decide +kernel
theorem dX5_move_14 : decode cX5_move 14 = .ok (.invokestatic 175, 3) := by decide +kernel
theorem dX5_move_17 : decode cX5_move 17 = .ok (.ifCond .eq 7, 3) := by decide +kernel
theorem dX5_move_20 : decode cX5_move 20 = .ok (.iconst 0, 1) := by decide +kernel
theorem dX5_move_21 : decode cX5_move 21 = .ok (.goto 4, 3) := by decide +kernel
theorem dX5_move_24 : decode cX5_move 24 = .ok (.iconst 1, 1) := by decide +kernel
theorem dX5_move_25 : decode cX5_move 25 = .ok (.putfield 87, 3) := by decide +kernel
theorem dX5_move_28 : decode cX5_move 28 = .ok (.aload_n 0, 1) := by decide +kernel
theorem dX5_move_29 : decode cX5_move 29 = .ok (.getfield 87, 3) := by decide +kernel
theorem dX5_move_32 : decode cX5_move 32 = .ok (.ifCond .le 5, 3) := by decide +kernel
theorem dX5_move_35 : decode cX5_move 35 = .ok (.iconst 0, 1) := by decide +kernel
theorem dX5_move_36 : decode cX5_move 36 = .ok (.ireturn, 1) := by decide +kernel
theorem dX5_move_37 : decode cX5_move 37 = .ok (.aload_n 0, 1) := by decide +kernel
theorem dX5_move_38 : decode cX5_move 38 = .ok (.getfield 25, 3) := by decide +kernel
theorem dX5_move_41 : decode cX5_move 41 = .ok (.iload_n 1, 1) := by decide +kernel
theorem dX5_move_42 : decode cX5_move 42 = .ok (.iload_n 2, 1) := by decide +kernel
theorem dX5_move_43 : decode cX5_move 43 = .ok (.iconst (-1), 1) := by decide +kernel
theorem dX5_move_44 : decode cX5_move 44 = .ok (.if_icmp .ne 7, 3) := by decide +kernel
theorem dX5_move_47 : decode cX5_move 47 = .ok (.iconst 0, 1) := by decide +kernel
theorem dX5_move_48 : decode cX5_move 48 = .ok (.goto 9, 3) := by decide +kernel
theorem dX5_move_51 : decode cX5_move 51 = .ok (.aload_n 0, 1) := by decide +kernel
theorem dX5_move_52 : decode cX5_move 52 = .ok (.getfield 25, 3) := by decide +kernel
theorem dX5_move_55 : decode cX5_move 55 = .ok (.iload_n 2, 1) := by decide +kernel
theorem dX5_move_56 : decode cX5_move 56 = .ok (.iaload, 1) := by decide +kernel
theorem dX5_move_57 : decode cX5_move 57 = .ok (.iastore, 1) := by decide +kernel
theorem dX5_move_58 : decode cX5_move 58 = .ok (.aload_n 0, 1) := by decide +kernel
theorem dX5_move_59 : decode cX5_move 59 = .ok (.getfield 25, 3) := by decide +kernel
theorem dX5_move_62 : decode cX5_move 62 = .ok (.iload_n 1, 1) := by decide +kernel
theorem dX5_move_63 : decode cX5_move 63 = .ok (.iaload, 1) := by decide +kernel
theorem dX5_move_64 : decode cX5_move 64 = .ok (.ireturn, 1) := by decide +kernel
theorem dX5_keep_0 : decode cX5_keep 0 = .ok (.aload_n 0, 1) := by decide +kernel
theorem dX5_keep_1 : decode cX5_keep 1 = .ok (.iload_n 1, 1) := by decide +kernel
theorem dX5_keep_2 : decode cX5_keep 2 = .ok (.invokestatic 175, 3) := by decide +kernel
theorem dX5_keep_5 : decode cX5_keep 5 = .ok (.ifCond .ne 7, 3) := by decide +kernel
theorem dX5_keep_8 : decode cX5_keep 8 = .ok (.iconst 1, 1) := by decide +kernel
theorem dX5_keep_9 : decode cX5_keep 9 = .ok (.goto 17, 3) := by decide +kernel
theorem dX5_keep_12 : decode cX5_keep 12 = .ok (.aload_n 0, 1) := by decide +kernel
theorem dX5_keep_13 : decode cX5_keep 13 = .ok (.getfield 157, 3) := by decide +kernel
theorem dX5_keep_16 : decode cX5_keep 16 = .ok (.bipush 40, 2) := by decide +kernel
theorem dX5_keep_18 : decode cX5_keep 18 = .ok (.if_icmp .ne 7, 3) := by decide +kernel
theorem dX5_keep_21 : decode cX5_keep 21 = .ok (.iconst 2, 1) := by decide +kernel
theorem dX5_keep_22 : decode cX5_keep 22 = .ok (.goto 4, 3) := by decide +kernel
theorem dX5_keep_25 : decode cX5_keep 25 = .ok (.iconst 0, 1) := by decide +kernel
theorem dX5_keep_26 : decode cX5_keep 26 = .ok (.putfield 87, 3) := by decide +kernel
theorem dX5_keep_29 : decode cX5_keep 29 = .ok (.aload_n 0, 1) := by decide +kernel
theorem dX5_keep_30 : decode cX5_keep 30 = .ok (.getfield 87, 3) := by decide +kernel
theorem dX5_keep_33 : decode cX5_keep 33 = .ok (.ifCond .le 5, 3) := by decide +kernel
theorem dX5_keep_36 : decode cX5_keep 36 = .ok (.iconst 0, 1) := by decide +kernel
theorem dX5_keep_37 : decode cX5_keep 37 = .ok (.ireturn, 1) := by decide +kernel
theorem dX5_keep_38 : decode cX5_keep 38 = .ok (.aload_n 0, 1) := by decide +kernel
theorem dX5_keep_39 : decode cX5_keep 39 = .ok (.getfield 28, 3) := by decide +kernel
theorem dX5_keep_42 : decode cX5_keep 42 = .ok (.aload_n 0, 1) := by decide +kernel
theorem dX5_keep_43 : decode cX5_keep 43 = .ok (.getfield 157, 3) := by decide +kernel
theorem dX5_keep_46 : decode cX5_keep 46 = .ok (.aload_n 0, 1) := by decide +kernel
theorem dX5_keep_47 : decode cX5_keep 47 = .ok (.getfield 25, 3) := by decide +kernel
theorem dX5_keep_50 : decode cX5_keep 50 = .ok (.iload_n 1, 1) := by decide +kernel
theorem dX5_keep_51 : decode cX5_keep 51 = .ok (.iaload, 1) := by decide +kernel
theorem dX5_keep_52 : decode cX5_keep 52 = .ok (.iastore, 1) := by decide +kernel
theorem dX5_keep_53 : decode cX5_keep 53 = .ok (.aload_n 0, 1) := by decide +kernel
theorem dX5_keep_54 : decode cX5_keep 54 = .ok (.dup, 1) := by decide +kernel
theorem dX5_keep_55 : decode cX5_keep 55 = .ok (.getfield 157, 3) := by decide +kernel
theorem dX5_keep_58 : decode cX5_keep 58 = .ok (.iconst 1, 1) := by decide +kernel
theorem dX5_keep_59 : decode cX5_keep 59 = .ok (.iadd, 1) := by decide +kernel
theorem dX5_keep_60 : decode cX5_keep 60 = .ok (.putfield 157, 3) := by decide +kernel
theorem dX5_keep_63 : decode cX5_keep 63 = .ok (.aload_n 0, 1) := by decide +kernel
theorem dX5_keep_64 : decode cX5_keep 64 = .ok (.getfield 157, 3) := by decide +kernel
theorem dX5_keep_67 : decode cX5_keep 67 = .ok (.ireturn, 1) := by decide +kernel
theorem dX5_back_0 : decode cX5_back 0 = .ok (.aload_n 0, 1) := by decide +kernel
theorem dX5_back_1 : decode cX5_back 1 = .ok (.iload_n 1, 1) := by decide +kernel
theorem dX5_back_2 : decode cX5_back 2 = .ok (.invokestatic 175, 3) := by decide +kernel
theorem dX5_back_5 : decode cX5_back 5 = .ok (.ifCond .ne 7, 3) := by decide +kernel
theorem dX5_back_8 : decode cX5_back 8 = .ok (.iconst 1, 1) := by decide +kernel
theorem dX5_back_9 : decode cX5_back 9 = .ok (.goto 15, 3) := by decide +kernel
theorem dX5_back_12 : decode cX5_back 12 = .ok (.aload_n 0, 1) := by decide +kernel
theorem dX5_back_13 : decode cX5_back 13 = .ok (.getfield 157, 3) := by decide +kernel
theorem dX5_back_16 : decode cX5_back 16 = .ok (.ifCond .ne 7, 3) := by decide +kernel
theorem dX5_back_19 : decode cX5_back 19 = .ok (.iconst 2, 1) := by decide +kernel
theorem dX5_back_20 : decode cX5_back 20 = .ok (.goto 4, 3) := by decide +kernel
theorem dX5_back_23 : decode cX5_back 23 = .ok (.iconst 0, 1) := by decide +kernel
theorem dX5_back_24 : decode cX5_back 24 = .ok (.putfield 87, 3) := by decide +kernel
theorem dX5_back_27 : decode cX5_back 27 = .ok (.aload_n 0, 1) := by decide +kernel
theorem dX5_back_28 : decode cX5_back 28 = .ok (.getfield 87, 3) := by decide +kernel
theorem dX5_back_31 : decode cX5_back 31 = .ok (.ifCond .le 5, 3) := by decide +kernel
theorem dX5_back_34 : decode cX5_back 34 = .ok (.iconst 0, 1) := by decide +kernel
theorem dX5_back_35 : decode cX5_back 35 = .ok (.ireturn, 1) := by decide +kernel
theorem dX5_back_36 : decode cX5_back 36 = .ok (.aload_n 0, 1) := by decide +kernel
theorem dX5_back_37 : decode cX5_back 37 = .ok (.dup, 1) := by decide +kernel
theorem dX5_back_38 : decode cX5_back 38 = .ok (.getfield 157, 3) := by decide +kernel
theorem dX5_back_41 : decode cX5_back 41 = .ok (.iconst 1, 1) := by decide +kernel
theorem dX5_back_42 : decode cX5_back 42 = .ok (.isub, 1) := by decide +kernel
theorem dX5_back_43 : decode cX5_back 43 = .ok (.putfield 157, 3) := by decide +kernel
theorem dX5_back_46 : decode cX5_back 46 = .ok (.aload_n 0, 1) := by decide +kernel
theorem dX5_back_47 : decode cX5_back 47 = .ok (.getfield 25, 3) := by decide +kernel
theorem dX5_back_50 : decode cX5_back 50 = .ok (.iload_n 1, 1) := by decide +kernel
theorem dX5_back_51 : decode cX5_back 51 = .ok (.aload_n 0, 1) := by decide +kernel
theorem dX5_back_52 : decode cX5_back 52 = .ok (.getfield 28, 3) := by decide +kernel
theorem dX5_back_55 : decode cX5_back 55 = .ok (.aload_n 0, 1) := by decide +kernel
theorem dX5_back_56 : decode cX5_back 56 = .ok (.getfield 157, 3) := by decide +kernel
theorem dX5_back_59 : decode cX5_back 59 = .ok (.iaload, 1) := by decide +kernel
theorem dX5_back_60 : decode cX5_back 60 = .ok (.iastore, 1) := by decide +kernel
theorem dX5_back_61 : decode cX5_back 61 = .ok (.aload_n 0, 1) := by decide +kernel
theorem dX5_back_62 : decode cX5_back 62 = .ok (.getfield 25, 3) := by decide +kernel
theorem dX5_back_65 : decode cX5_back 65 = .ok (.iload_n 1, 1) := by decide +kernel
theorem dX5_back_66 : decode cX5_back 66 = .ok (.iaload, 1) := by decide +kernel
theorem dX5_back_67 : decode cX5_back 67 = .ok (.ireturn, 1) := by decide +kernel
theorem dX5_weak_0 : decode cX5_weak 0 = .ok (.aload_n 0, 1) := by decide +kernel
theorem dX5_weak_1 : decode cX5_weak 1 = .ok (.iload_n 1, 1) := by decide +kernel
theorem dX5_weak_2 : decode cX5_weak 2 = .ok (.iconst 0, 1) := by decide +kernel
theorem dX5_weak_3 : decode cX5_weak 3 = .ok (.bipush 7, 2) := by decide +kernel
theorem dX5_weak_5 : decode cX5_weak 5 = .ok (.invokestatic 90, 3) := by decide +kernel
theorem dX5_weak_8 : decode cX5_weak 8 = .ok (.ifCond .eq 14, 3) := by decide +kernel
theorem dX5_weak_11 : decode cX5_weak 11 = .ok (.iload_n 2, 1) := by decide +kernel
theorem dX5_weak_12 : decode cX5_weak 12 = .ok (.invokestatic 175, 3) := by decide +kernel
theorem dX5_weak_15 : decode cX5_weak 15 = .ok (.ifCond .eq 7, 3) := by decide +kernel
theorem dX5_weak_18 : decode cX5_weak 18 = .ok (.iconst 0, 1) := by decide +kernel
theorem dX5_weak_19 : decode cX5_weak 19 = .ok (.goto 4, 3) := by decide +kernel
theorem dX5_weak_22 : decode cX5_weak 22 = .ok (.iconst 1, 1) := by decide +kernel
theorem dX5_weak_23 : decode cX5_weak 23 = .ok (.putfield 87, 3) := by decide +kernel
theorem dX5_weak_26 : decode cX5_weak 26 = .ok (.aload_n 0, 1) := by decide +kernel
theorem dX5_weak_27 : decode cX5_weak 27 = .ok (.getfield 87, 3) := by decide +kernel
theorem dX5_weak_30 : decode cX5_weak 30 = .ok (.ifCond .le 5, 3) := by decide +kernel
theorem dX5_weak_33 : decode cX5_weak 33 = .ok (.iconst 0, 1) := by decide +kernel
theorem dX5_weak_34 : decode cX5_weak 34 = .ok (.ireturn, 1) := by decide +kernel
theorem dX5_weak_35 : decode cX5_weak 35 = .ok (.aload_n 0, 1) := by decide +kernel
theorem dX5_weak_36 : decode cX5_weak 36 = .ok (.getfield 31, 3) := by decide +kernel
theorem dX5_weak_39 : decode cX5_weak 39 = .ok (.iload_n 1, 1) := by decide +kernel
theorem dX5_weak_40 : decode cX5_weak 40 = .ok (.iaload, 1) := by decide +kernel
theorem dX5_weak_41 : decode cX5_weak 41 = .ok (.istore_n 3, 1) := by decide +kernel
theorem dX5_weak_42 : decode cX5_weak 42 = .ok (.aload_n 0, 1) := by decide +kernel
theorem dX5_weak_43 : decode cX5_weak 43 = .ok (.getfield 31, 3) := by decide +kernel
theorem dX5_weak_46 : decode cX5_weak 46 = .ok (.iload_n 1, 1) := by decide +kernel
theorem dX5_weak_47 : decode cX5_weak 47 = .ok (.aload_n 0, 1) := by decide +kernel
theorem dX5_weak_48 : decode cX5_weak 48 = .ok (.getfield 25, 3) := by decide +kernel
theorem dX5_weak_51 : decode cX5_weak 51 = .ok (.iload_n 2, 1) := by decide +kernel
theorem dX5_weak_52 : decode cX5_weak 52 = .ok (.iaload, 1) := by decide +kernel
theorem dX5_weak_53 : decode cX5_weak 53 = .ok (.iastore, 1) := by decide +kernel
theorem dX5_weak_54 : decode cX5_weak 54 = .ok (.iload_n 3, 1) := by decide +kernel
theorem dX5_weak_55 : decode cX5_weak 55 = .ok (.ireturn, 1) := by decide +kernel
theorem dX5_strong_0 : decode cX5_strong 0 = .ok (.aload_n 0, 1) := by decide +kernel
theorem dX5_strong_1 : decode cX5_strong 1 = .ok (.iload_n 2, 1) := by decide +kernel
theorem dX5_strong_2 : decode cX5_strong 2 = .ok (.iconst 0, 1) := by decide +kernel
theorem dX5_strong_3 : decode cX5_strong 3 = .ok (.bipush 7, 2) := by decide +kernel
theorem dX5_strong_5 : decode cX5_strong 5 = .ok (.invokestatic 90, 3) := by decide +kernel
theorem dX5_strong_8 : decode cX5_strong 8 = .ok (.ifCond .eq 14, 3) := by decide +kernel
theorem dX5_strong_11 : decode cX5_strong 11 = .ok (.iload_n 1, 1) := by decide +kernel
theorem dX5_strong_12 : decode cX5_strong 12 = .ok (.invokestatic 175, 3) := by decide +kernel
theorem dX5_strong_15 : decode cX5_strong 15 = .ok (.ifCond .eq 7, 3) := by decide +kernel
theorem dX5_strong_18 : decode cX5_strong 18 = .ok (.iconst 0, 1) := by decide +kernel
theorem dX5_strong_19 : decode cX5_strong 19 = .ok (.goto 4, 3) := by decide +kernel
theorem dX5_strong_22 : decode cX5_strong 22 = .ok (.iconst 1, 1) := by decide +kernel
theorem dX5_strong_23 : decode cX5_strong 23 = .ok (.putfield 87, 3) := by decide +kernel
theorem dX5_strong_26 : decode cX5_strong 26 = .ok (.aload_n 0, 1) := by decide +kernel
theorem dX5_strong_27 : decode cX5_strong 27 = .ok (.getfield 87, 3) := by decide +kernel
theorem dX5_strong_30 : decode cX5_strong 30 = .ok (.ifCond .le 5, 3) := by decide +kernel
theorem dX5_strong_33 : decode cX5_strong 33 = .ok (.iconst 0, 1) := by decide +kernel
theorem dX5_strong_34 : decode cX5_strong 34 = .ok (.ireturn, 1) := by decide +kernel
theorem dX5_strong_35 : decode cX5_strong 35 = .ok (.aload_n 0, 1) := by decide +kernel
theorem dX5_strong_36 : decode cX5_strong 36 = .ok (.getfield 25, 3) := by decide +kernel
theorem dX5_strong_39 : decode cX5_strong 39 = .ok (.iload_n 1, 1) := by decide +kernel
theorem dX5_strong_40 : decode cX5_strong 40 = .ok (.aload_n 0, 1) := by decide +kernel
theorem dX5_strong_41 : decode cX5_strong 41 = .ok (.getfield 31, 3) := by decide +kernel
theorem dX5_strong_44 : decode cX5_strong 44 = .ok (.iload_n 2, 1) := by decide +kernel
theorem dX5_strong_45 : decode cX5_strong 45 = .ok (.iaload, 1) := by decide +kernel
theorem dX5_strong_46 : decode cX5_strong 46 = .ok (.iastore, 1) := by decide +kernel
theorem dX5_strong_47 : decode cX5_strong 47 = .ok (.aload_n 0, 1) := by decide +kernel
theorem dX5_strong_48 : decode cX5_strong 48 = .ok (.getfield 25, 3) := by decide +kernel
theorem dX5_strong_51 : decode cX5_strong 51 = .ok (.iload_n 1, 1) := by decide +kernel
theorem dX5_strong_52 : decode cX5_strong 52 = .ok (.iaload, 1) := by decide +kernel
theorem dX5_strong_53 : decode cX5_strong 53 = .ok (.ireturn, 1) := by decide +kernel
theorem dX5_wish_0 : decode cX5_wish 0 = .ok (.aload_n 0, 1) := by decide +kernel
theorem dX5_wish_1 : decode cX5_wish 1 = .ok (.iload_n 1, 1) := by decide +kernel
theorem dX5_wish_2 : decode cX5_wish 2 = .ok (.invokestatic 175, 3) := by decide +kernel
theorem dX5_wish_5 : decode cX5_wish 5 = .ok (.ifCond .eq 7, 3) := by decide +kernel
theorem dX5_wish_8 : decode cX5_wish 8 = .ok (.iconst 0, 1) := by decide +kernel
theorem dX5_wish_9 : decode cX5_wish 9 = .ok (.goto 4, 3) := by decide +kernel
theorem dX5_wish_12 : decode cX5_wish 12 = .ok (.iconst 1, 1) := by decide +kernel
theorem dX5_wish_13 : decode cX5_wish 13 = .ok (.putfield 87, 3) := by decide +kernel
theorem dX5_wish_16 : decode cX5_wish 16 = .ok (.aload_n 0, 1) := by decide +kernel
theorem dX5_wish_17 : decode cX5_wish 17 = .ok (.getfield 87, 3) := by decide +kernel
theorem dX5_wish_20 : decode cX5_wish 20 = .ok (.ifCond .gt 10, 3) := by decide +kernel
theorem dX5_wish_23 : decode cX5_wish 23 = .ok (.aload_n 0, 1) := by decide +kernel
theorem dX5_wish_24 : decode cX5_wish 24 = .ok (.getfield 154, 3) := by decide +kernel
theorem dX5_wish_27 : decode cX5_wish 27 = .ok (.ifCond .ne 5, 3) := by decide +kernel
theorem dX5_wish_30 : decode cX5_wish 30 = .ok (.iconst 0, 1) := by decide +kernel
theorem dX5_wish_31 : decode cX5_wish 31 = .ok (.ireturn, 1) := by decide +kernel
theorem dX5_wish_32 : decode cX5_wish 32 = .ok (.aload_n 0, 1) := by decide +kernel
theorem dX5_wish_33 : decode cX5_wish 33 = .ok (.getfield 25, 3) := by decide +kernel
theorem dX5_wish_36 : decode cX5_wish 36 = .ok (.iload_n 1, 1) := by decide +kernel
theorem dX5_wish_37 : decode cX5_wish 37 = .ok (.aload_n 0, 1) := by decide +kernel
theorem dX5_wish_38 : decode cX5_wish 38 = .ok (.getfield 37, 3) := by decide +kernel
theorem dX5_wish_41 : decode cX5_wish 41 = .ok (.iconst 0, 1) := by decide +kernel
theorem dX5_wish_42 : decode cX5_wish 42 = .ok (.iaload, 1) := by decide +kernel
theorem dX5_wish_43 : decode cX5_wish 43 = .ok (.iastore, 1) := by decide +kernel
theorem dX5_wish_44 : decode cX5_wish 44 = .ok (.aload_n 0, 1) := by decide +kernel
theorem dX5_wish_45 : decode cX5_wish 45 = .ok (.dup, 1) := by decide +kernel
theorem dX5_wish_46 : decode cX5_wish 46 = .ok (.getfield 154, 3) := by decide +kernel
theorem dX5_wish_49 : decode cX5_wish 49 = .ok (.iconst 1, 1) := by decide +kernel
theorem dX5_wish_50 : decode cX5_wish 50 = .ok (.isub, 1) := by decide +kernel
theorem dX5_wish_51 : decode cX5_wish 51 = .ok (.putfield 154, 3) := by decide +kernel
theorem dX5_wish_54 : decode cX5_wish 54 = .ok (.iconst 0, 1) := by decide +kernel
theorem dX5_wish_55 : decode cX5_wish 55 = .ok (.istore_n 2, 1) := by decide +kernel
theorem dX5_wish_56 : decode cX5_wish 56 = .ok (.iload_n 2, 1) := by decide +kernel
theorem dX5_wish_57 : decode cX5_wish 57 = .ok (.aload_n 0, 1) := by decide +kernel
theorem dX5_wish_58 : decode cX5_wish 58 = .ok (.getfield 154, 3) := by decide +kernel
theorem dX5_wish_61 : decode cX5_wish 61 = .ok (.if_icmp .ge 23, 3) := by decide +kernel
theorem dX5_wish_64 : decode cX5_wish 64 = .ok (.aload_n 0, 1) := by decide +kernel
theorem dX5_wish_65 : decode cX5_wish 65 = .ok (.getfield 37, 3) := by decide +kernel
theorem dX5_wish_68 : decode cX5_wish 68 = .ok (.iload_n 2, 1) := by decide +kernel
theorem dX5_wish_69 : decode cX5_wish 69 = .ok (.aload_n 0, 1) := by decide +kernel
theorem dX5_wish_70 : decode cX5_wish 70 = .ok (.getfield 37, 3) := by decide +kernel
theorem dX5_wish_73 : decode cX5_wish 73 = .ok (.iload_n 2, 1) := by decide +kernel
theorem dX5_wish_74 : decode cX5_wish 74 = .ok (.iconst 1, 1) := by decide +kernel
theorem dX5_wish_75 : decode cX5_wish 75 = .ok (.iadd, 1) := by decide +kernel
theorem dX5_wish_76 : decode cX5_wish 76 = .ok (.iaload, 1) := by decide +kernel
theorem dX5_wish_77 : decode cX5_wish 77 = .ok (.iastore, 1) := by decide +kernel
theorem dX5_wish_78 : decode cX5_wish 78 = .ok (.iinc 2 1, 3) := by decide +kernel
theorem dX5_wish_81 : decode cX5_wish 81 = .ok (.goto (-25), 3) := by decide +kernel
theorem dX5_wish_84 : decode cX5_wish 84 = .ok (.aload_n 0, 1) := by decide +kernel
theorem dX5_wish_85 : decode cX5_wish 85 = .ok (.getfield 25, 3) := by decide +kernel
theorem dX5_wish_88 : decode cX5_wish 88 = .ok (.iload_n 1, 1) := by decide +kernel
theorem dX5_wish_89 : decode cX5_wish 89 = .ok (.iaload, 1) := by decide +kernel
theorem dX5_wish_90 : decode cX5_wish 90 = .ok (.ireturn, 1) := by decide +kernel
theorem dX5_collect_0 : decode cX5_collect 0 = .ok (.aload_n 0, 1) := by decide +kernel
theorem dX5_collect_1 : decode cX5_collect 1 = .ok (.iload_n 1, 1) := by decide +kernel
theorem dX5_collect_2 : decode cX5_collect 2 = .ok (.iconst 0, 1) := by decide +kernel
theorem dX5_collect_3 : decode cX5_collect 3 = .ok (.iconst 2, 1) := by decide +kernel
theorem dX5_collect_4 : decode cX5_collect 4 = .ok (.invokestatic 90, 3) := by decide +kernel
theorem dX5_collect_7 : decode cX5_collect 7 = .ok (.ifCond .eq 7, 3) := by decide +kernel
theorem dX5_collect_10 : decode cX5_collect 10 = .ok (.iconst 0, 1) := by decide +kernel
theorem dX5_collect_11 : decode cX5_collect 11 = .ok (.goto 4, 3) := by decide +kernel
theorem dX5_collect_14 : decode cX5_collect 14 = .ok (.iconst 1, 1) := by decide +kernel
theorem dX5_collect_15 : decode cX5_collect 15 = .ok (.putfield 87, 3) := by decide +kernel
theorem dX5_collect_18 : decode cX5_collect 18 = .ok (.aload_n 0, 1) := by decide +kernel
theorem dX5_collect_19 : decode cX5_collect 19 = .ok (.getfield 87, 3) := by decide +kernel
theorem dX5_collect_22 : decode cX5_collect 22 = .ok (.ifCond .le 7, 3) := by decide +kernel
theorem dX5_collect_25 : decode cX5_collect 25 = .ok (.iconst 0, 1) := by decide +kernel
theorem dX5_collect_26 : decode cX5_collect 26 = .ok (.goto 8, 3) := by decide +kernel
theorem dX5_collect_29 : decode cX5_collect 29 = .ok (.aload_n 0, 1) := by decide +kernel
theorem dX5_collect_30 : decode cX5_collect 30 = .ok (.iload_n 1, 1) := by decide +kernel
theorem dX5_collect_31 : decode cX5_collect 31 = .ok (.invokevirtual 172, 3) := by decide +kernel
theorem dX5_collect_34 : decode cX5_collect 34 = .ok (.ireturn, 1) := by decide +kernel
theorem dX5_root_0 : decode cX5_root 0 = .ok (.aload_n 0, 1) := by decide +kernel
theorem dX5_root_1 : decode cX5_root 1 = .ok (.iload_n 1, 1) := by decide +kernel
theorem dX5_root_2 : decode cX5_root 2 = .ok (.invokestatic 175, 3) := by decide +kernel
theorem dX5_root_5 : decode cX5_root 5 = .ok (.ifCond .eq 7, 3) := by decide +kernel
theorem dX5_root_8 : decode cX5_root 8 = .ok (.iconst 0, 1) := by decide +kernel
theorem dX5_root_9 : decode cX5_root 9 = .ok (.goto 4, 3) := by decide +kernel
theorem dX5_root_12 : decode cX5_root 12 = .ok (.iconst 1, 1) := by decide +kernel
theorem dX5_root_13 : decode cX5_root 13 = .ok (.putfield 87, 3) := by decide +kernel
theorem dX5_root_16 : decode cX5_root 16 = .ok (.aload_n 0, 1) := by decide +kernel
theorem dX5_root_17 : decode cX5_root 17 = .ok (.getfield 87, 3) := by decide +kernel
theorem dX5_root_20 : decode cX5_root 20 = .ok (.ifCond .le 7, 3) := by decide +kernel
theorem dX5_root_23 : decode cX5_root 23 = .ok (.iconst 0, 1) := by decide +kernel
theorem dX5_root_24 : decode cX5_root 24 = .ok (.goto 9, 3) := by decide +kernel
theorem dX5_root_27 : decode cX5_root 27 = .ok (.aload_n 0, 1) := by decide +kernel
theorem dX5_root_28 : decode cX5_root 28 = .ok (.getfield 25, 3) := by decide +kernel
theorem dX5_root_31 : decode cX5_root 31 = .ok (.iload_n 1, 1) := by decide +kernel
theorem dX5_root_32 : decode cX5_root 32 = .ok (.iaload, 1) := by decide +kernel
theorem dX5_root_33 : decode cX5_root 33 = .ok (.ireturn, 1) := by decide +kernel
theorem dX5_about_0 : decode cX5_about 0 = .ok (.aload_n 0, 1) := by decide +kernel
theorem dX5_about_1 : decode cX5_about 1 = .ok (.iload_n 1, 1) := by decide +kernel
theorem dX5_about_2 : decode cX5_about 2 = .ok (.invokestatic 175, 3) := by decide +kernel
theorem dX5_about_5 : decode cX5_about 5 = .ok (.ifCond .ne 7, 3) := by decide +kernel
theorem dX5_about_8 : decode cX5_about 8 = .ok (.iconst 1, 1) := by decide +kernel
theorem dX5_about_9 : decode cX5_about 9 = .ok (.goto 41, 3) := by decide +kernel
theorem dX5_about_12 : decode cX5_about 12 = .ok (.aload_n 0, 1) := by decide +kernel
theorem dX5_about_13 : decode cX5_about 13 = .ok (.getfield 25, 3) := by decide +kernel
theorem dX5_about_16 : decode cX5_about 16 = .ok (.iload_n 1, 1) := by decide +kernel
theorem dX5_about_17 : decode cX5_about 17 = .ok (.iaload, 1) := by decide +kernel
theorem dX5_about_18 : decode cX5_about 18 = .ok (.ifCond .ne 7, 3) := by decide +kernel
theorem dX5_about_21 : decode cX5_about 21 = .ok (.iconst 2, 1) := by decide +kernel
theorem dX5_about_22 : decode cX5_about 22 = .ok (.goto 28, 3) := by decide +kernel
theorem dX5_about_25 : decode cX5_about 25 = .ok (.iload_n 2, 1) := by decide +kernel
theorem dX5_about_26 : decode cX5_about 26 = .ok (.iconst 0, 1) := by decide +kernel
theorem dX5_about_27 : decode cX5_about 27 = .ok (.iconst 4, 1) := by decide +kernel
theorem dX5_about_28 : decode cX5_about 28 = .ok (.aload_n 0, 1) := by decide +kernel
theorem dX5_about_29 : decode cX5_about 29 = .ok (.aload_n 0, 1) := by decide +kernel
theorem dX5_about_30 : decode cX5_about 30 = .ok (.getfield 25, 3) := by decide +kernel
theorem dX5_about_33 : decode cX5_about 33 = .ok (.iload_n 1, 1) := by decide +kernel
theorem dX5_about_34 : decode cX5_about 34 = .ok (.iaload, 1) := by decide +kernel
theorem dX5_about_35 : decode cX5_about 35 = .ok (.invokevirtual 121, 3) := by decide +kernel
theorem dX5_about_38 : decode cX5_about 38 = .ok (.iadd, 1) := by decide +kernel
theorem dX5_about_39 : decode cX5_about 39 = .ok (.invokestatic 90, 3) := by decide +kernel
theorem dX5_about_42 : decode cX5_about 42 = .ok (.ifCond .ne 7, 3) := by decide +kernel
theorem dX5_about_45 : decode cX5_about 45 = .ok (.iconst 1, 1) := by decide +kernel
theorem dX5_about_46 : decode cX5_about 46 = .ok (.goto 4, 3) := by decide +kernel
theorem dX5_about_49 : decode cX5_about 49 = .ok (.iconst 0, 1) := by decide +kernel
theorem dX5_about_50 : decode cX5_about 50 = .ok (.putfield 87, 3) := by decide +kernel
theorem dX5_about_53 : decode cX5_about 53 = .ok (.aload_n 0, 1) := by decide +kernel
theorem dX5_about_54 : decode cX5_about 54 = .ok (.getfield 87, 3) := by decide +kernel
theorem dX5_about_57 : decode cX5_about 57 = .ok (.ifCond .le 5, 3) := by decide +kernel
theorem dX5_about_60 : decode cX5_about 60 = .ok (.iconst 0, 1) := by decide +kernel
theorem dX5_about_61 : decode cX5_about 61 = .ok (.ireturn, 1) := by decide +kernel
theorem dX5_about_62 : decode cX5_about 62 = .ok (.aload_n 0, 1) := by decide +kernel
theorem dX5_about_63 : decode cX5_about 63 = .ok (.getfield 25, 3) := by decide +kernel
theorem dX5_about_66 : decode cX5_about 66 = .ok (.iload_n 1, 1) := by decide +kernel
theorem dX5_about_67 : decode cX5_about 67 = .ok (.iaload, 1) := by decide +kernel
theorem dX5_about_68 : decode cX5_about 68 = .ok (.istore_n 3, 1) := by decide +kernel
theorem dX5_about_69 : decode cX5_about 69 = .ok (.iload_n 2, 1) := by decide +kernel
theorem dX5_about_70 : decode cX5_about 70 = .ok (.tableswitch 75 0 4 #[34, 40, 46, 60, 69], 34) := by decide +kernel
theorem dX5_about_104 : decode cX5_about 104 = .ok (.aload_n 0, 1) := by decide +kernel
theorem dX5_about_105 : decode cX5_about 105 = .ok (.iload_n 3, 1) := by decide +kernel
theorem dX5_about_106 : decode cX5_about 106 = .ok (.invokevirtual 121, 3) := by decide +kernel
theorem dX5_about_109 : decode cX5_about 109 = .ok (.ireturn, 1) := by decide +kernel
theorem dX5_about_110 : decode cX5_about 110 = .ok (.aload_n 0, 1) := by decide +kernel
theorem dX5_about_111 : decode cX5_about 111 = .ok (.iload_n 3, 1) := by decide +kernel
theorem dX5_about_112 : decode cX5_about 112 = .ok (.invokevirtual 124, 3) := by decide +kernel
theorem dX5_about_115 : decode cX5_about 115 = .ok (.ireturn, 1) := by decide +kernel
theorem dX5_about_116 : decode cX5_about 116 = .ok (.aload_n 0, 1) := by decide +kernel
theorem dX5_about_117 : decode cX5_about 117 = .ok (.iload_n 3, 1) := by decide +kernel
theorem dX5_about_118 : decode cX5_about 118 = .ok (.invokevirtual 188, 3) := by decide +kernel
theorem dX5_about_121 : decode cX5_about 121 = .ok (.ifCond .eq 7, 3) := by decide +kernel
theorem dX5_about_124 : decode cX5_about 124 = .ok (.iconst 1, 1) := by decide +kernel
theorem dX5_about_125 : decode cX5_about 125 = .ok (.goto 4, 3) := by decide +kernel
theorem dX5_about_128 : decode cX5_about 128 = .ok (.iconst 0, 1) := by decide +kernel
theorem dX5_about_129 : decode cX5_about 129 = .ok (.ireturn, 1) := by decide +kernel
theorem dX5_about_130 : decode cX5_about 130 = .ok (.aload_n 0, 1) := by decide +kernel
theorem dX5_about_131 : decode cX5_about 131 = .ok (.getfield 7, 3) := by decide +kernel
theorem dX5_about_134 : decode cX5_about 134 = .ok (.iload_n 3, 1) := by decide +kernel
theorem dX5_about_135 : decode cX5_about 135 = .ok (.iconst 1, 1) := by decide +kernel
theorem dX5_about_136 : decode cX5_about 136 = .ok (.iadd, 1) := by decide +kernel
theorem dX5_about_137 : decode cX5_about 137 = .ok (.iaload, 1) := by decide +kernel
theorem dX5_about_138 : decode cX5_about 138 = .ok (.ireturn, 1) := by decide +kernel
theorem dX5_about_139 : decode cX5_about 139 = .ok (.aload_n 0, 1) := by decide +kernel
theorem dX5_about_140 : decode cX5_about 140 = .ok (.iload_n 3, 1) := by decide +kernel
theorem dX5_about_141 : decode cX5_about 141 = .ok (.invokevirtual 98, 3) := by decide +kernel
theorem dX5_about_144 : decode cX5_about 144 = .ok (.ireturn, 1) := by decide +kernel
theorem dX5_about_145 : decode cX5_about 145 = .ok (.aload_n 0, 1) := by decide +kernel
theorem dX5_about_146 : decode cX5_about 146 = .ok (.getfield 7, 3) := by decide +kernel
theorem dX5_about_149 : decode cX5_about 149 = .ok (.iload_n 3, 1) := by decide +kernel
theorem dX5_about_150 : decode cX5_about 150 = .ok (.iconst 2, 1) := by decide +kernel
theorem dX5_about_151 : decode cX5_about 151 = .ok (.iadd, 1) := by decide +kernel
theorem dX5_about_152 : decode cX5_about 152 = .ok (.iload_n 2, 1) := by decide +kernel
theorem dX5_about_153 : decode cX5_about 153 = .ok (.iadd, 1) := by decide +kernel
theorem dX5_about_154 : decode cX5_about 154 = .ok (.iconst 5, 1) := by decide +kernel
theorem dX5_about_155 : decode cX5_about 155 = .ok (.isub, 1) := by decide +kernel
theorem dX5_about_156 : decode cX5_about 156 = .ok (.iaload, 1) := by decide +kernel
theorem dX5_about_157 : decode cX5_about 157 = .ok (.ireturn, 1) := by decide +kernel
theorem dX5_word_0 : decode cX5_word 0 = .ok (.iconst 0, 1) := by decide +kernel
theorem dX5_word_1 : decode cX5_word 1 = .ok (.istore_n 2, 1) := by decide +kernel
theorem dX5_word_2 : decode cX5_word 2 = .ok (.iconst 0, 1) := by decide +kernel
theorem dX5_word_3 : decode cX5_word 3 = .ok (.istore_n 3, 1) := by decide +kernel
theorem dX5_word_4 : decode cX5_word 4 = .ok (.iload_n 3, 1) := by decide +kernel
theorem dX5_word_5 : decode cX5_word 5 = .ok (.iconst 3, 1) := by decide +kernel
theorem dX5_word_6 : decode cX5_word 6 = .ok (.if_icmp .ge 52, 3) := by decide +kernel
theorem dX5_word_9 : decode cX5_word 9 = .ok (.aload_n 0, 1) := by decide +kernel
theorem dX5_word_10 : decode cX5_word 10 = .ok (.iload_n 3, 1) := by decide +kernel
theorem dX5_word_11 : decode cX5_word 11 = .ok (.aload_n 0, 1) := by decide +kernel
theorem dX5_word_12 : decode cX5_word 12 = .ok (.getfield 19, 3) := by decide +kernel
theorem dX5_word_15 : decode cX5_word 15 = .ok (.iload_n 3, 1) := by decide +kernel
theorem dX5_word_16 : decode cX5_word 16 = .ok (.iaload, 1) := by decide +kernel
theorem dX5_word_17 : decode cX5_word 17 = .ok (.invokevirtual 131, 3) := by decide +kernel
theorem dX5_word_20 : decode cX5_word 20 = .ok (.istore 4, 2) := by decide +kernel
theorem dX5_word_22 : decode cX5_word 22 = .ok (.iload_n 2, 1) := by decide +kernel
theorem dX5_word_23 : decode cX5_word 23 = .ok (.ifCond .ne 23, 3) := by decide +kernel
theorem dX5_word_26 : decode cX5_word 26 = .ok (.iload_n 1, 1) := by decide +kernel
theorem dX5_word_27 : decode cX5_word 27 = .ok (.iload 4, 2) := by decide +kernel
theorem dX5_word_29 : decode cX5_word 29 = .ok (.iload 4, 2) := by decide +kernel
theorem dX5_word_31 : decode cX5_word 31 = .ok (.aload_n 0, 1) := by decide +kernel
theorem dX5_word_32 : decode cX5_word 32 = .ok (.getfield 22, 3) := by decide +kernel
theorem dX5_word_35 : decode cX5_word 35 = .ok (.iload_n 3, 1) := by decide +kernel
theorem dX5_word_36 : decode cX5_word 36 = .ok (.iaload, 1) := by decide +kernel
theorem dX5_word_37 : decode cX5_word 37 = .ok (.iadd, 1) := by decide +kernel
theorem dX5_word_38 : decode cX5_word 38 = .ok (.iconst 1, 1) := by decide +kernel
theorem dX5_word_39 : decode cX5_word 39 = .ok (.isub, 1) := by decide +kernel
theorem dX5_word_40 : decode cX5_word 40 = .ok (.invokestatic 90, 3) := by decide +kernel
theorem dX5_word_43 : decode cX5_word 43 = .ok (.ifCond .eq 7, 3) := by decide +kernel
theorem dX5_word_46 : decode cX5_word 46 = .ok (.iconst 1, 1) := by decide +kernel
theorem dX5_word_47 : decode cX5_word 47 = .ok (.goto 4, 3) := by decide +kernel
theorem dX5_word_50 : decode cX5_word 50 = .ok (.iconst 0, 1) := by decide +kernel
theorem dX5_word_51 : decode cX5_word 51 = .ok (.istore_n 2, 1) := by decide +kernel
theorem dX5_word_52 : decode cX5_word 52 = .ok (.iinc 3 1, 3) := by decide +kernel
theorem dX5_word_55 : decode cX5_word 55 = .ok (.goto (-51), 3) := by decide +kernel
theorem dX5_word_58 : decode cX5_word 58 = .ok (.aload_n 0, 1) := by decide +kernel
theorem dX5_word_59 : decode cX5_word 59 = .ok (.iload_n 2, 1) := by decide +kernel
theorem dX5_word_60 : decode cX5_word 60 = .ok (.ifCond .eq 7, 3) := by decide +kernel
theorem dX5_word_63 : decode cX5_word 63 = .ok (.iconst 0, 1) := by decide +kernel
theorem dX5_word_64 : decode cX5_word 64 = .ok (.goto 4, 3) := by decide +kernel
theorem dX5_word_67 : decode cX5_word 67 = .ok (.iconst 1, 1) := by decide +kernel
theorem dX5_word_68 : decode cX5_word 68 = .ok (.putfield 87, 3) := by decide +kernel
theorem dX5_word_71 : decode cX5_word 71 = .ok (.iload_n 2, 1) := by decide +kernel
theorem dX5_word_72 : decode cX5_word 72 = .ok (.ifCond .eq 12, 3) := by decide +kernel
theorem dX5_word_75 : decode cX5_word 75 = .ok (.aload_n 0, 1) := by decide +kernel
theorem dX5_word_76 : decode cX5_word 76 = .ok (.getfield 7, 3) := by decide +kernel
theorem dX5_word_79 : decode cX5_word 79 = .ok (.iload_n 1, 1) := by decide +kernel
theorem dX5_word_80 : decode cX5_word 80 = .ok (.iaload, 1) := by decide +kernel
theorem dX5_word_81 : decode cX5_word 81 = .ok (.goto 4, 3) := by decide +kernel
theorem dX5_word_84 : decode cX5_word 84 = .ok (.iconst 0, 1) := by decide +kernel
theorem dX5_word_85 : decode cX5_word 85 = .ok (.ireturn, 1) := by decide +kernel
theorem dX5_sizeOf_0 : decode cX5_sizeOf 0 = .ok (.iload_n 1, 1) := by decide +kernel
theorem dX5_sizeOf_1 : decode cX5_sizeOf 1 = .ok (.tableswitch 73 0 6 #[43, 43, 50, 55, 60, 65, 70], 43) := by decide +kernel
theorem dX5_sizeOf_44 : decode cX5_sizeOf 44 = .ok (.aload_n 0, 1) := by decide +kernel
theorem dX5_sizeOf_45 : decode cX5_sizeOf 45 = .ok (.getfield 43, 3) := by decide +kernel
theorem dX5_sizeOf_48 : decode cX5_sizeOf 48 = .ok (.iload_n 1, 1) := by decide +kernel
theorem dX5_sizeOf_49 : decode cX5_sizeOf 49 = .ok (.iaload, 1) := by decide +kernel
theorem dX5_sizeOf_50 : decode cX5_sizeOf 50 = .ok (.ireturn, 1) := by decide +kernel
theorem dX5_sizeOf_51 : decode cX5_sizeOf 51 = .ok (.aload_n 0, 1) := by decide +kernel
theorem dX5_sizeOf_52 : decode cX5_sizeOf 52 = .ok (.getfield 105, 3) := by decide +kernel
theorem dX5_sizeOf_55 : decode cX5_sizeOf 55 = .ok (.ireturn, 1) := by decide +kernel
theorem dX5_sizeOf_56 : decode cX5_sizeOf 56 = .ok (.aload_n 0, 1) := by decide +kernel
theorem dX5_sizeOf_57 : decode cX5_sizeOf 57 = .ok (.getfield 157, 3) := by decide +kernel
theorem dX5_sizeOf_60 : decode cX5_sizeOf 60 = .ok (.ireturn, 1) := by decide +kernel
theorem dX5_sizeOf_61 : decode cX5_sizeOf 61 = .ok (.aload_n 0, 1) := by decide +kernel
theorem dX5_sizeOf_62 : decode cX5_sizeOf 62 = .ok (.getfield 151, 3) := by decide +kernel
theorem dX5_sizeOf_65 : decode cX5_sizeOf 65 = .ok (.ireturn, 1) := by decide +kernel
theorem dX5_sizeOf_66 : decode cX5_sizeOf 66 = .ok (.aload_n 0, 1) := by decide +kernel
theorem dX5_sizeOf_67 : decode cX5_sizeOf 67 = .ok (.getfield 154, 3) := by decide +kernel
theorem dX5_sizeOf_70 : decode cX5_sizeOf 70 = .ok (.ireturn, 1) := by decide +kernel
theorem dX5_sizeOf_71 : decode cX5_sizeOf 71 = .ok (.bipush 8, 2) := by decide +kernel
theorem dX5_sizeOf_73 : decode cX5_sizeOf 73 = .ok (.ireturn, 1) := by decide +kernel
theorem dX5_sizeOf_74 : decode cX5_sizeOf 74 = .ok (.iconst 0, 1) := by decide +kernel
theorem dX5_sizeOf_75 : decode cX5_sizeOf 75 = .ok (.ireturn, 1) := by decide +kernel
theorem dX5_row_0 : decode cX5_row 0 = .ok (.aload_n 0, 1) := by decide +kernel
theorem dX5_row_1 : decode cX5_row 1 = .ok (.iload_n 1, 1) := by decide +kernel
theorem dX5_row_2 : decode cX5_row 2 = .ok (.iconst 0, 1) := by decide +kernel
theorem dX5_row_3 : decode cX5_row 3 = .ok (.bipush 6, 2) := by decide +kernel
theorem dX5_row_5 : decode cX5_row 5 = .ok (.invokestatic 90, 3) := by decide +kernel
theorem dX5_row_8 : decode cX5_row 8 = .ok (.ifCond .eq 22, 3) := by decide +kernel
theorem dX5_row_11 : decode cX5_row 11 = .ok (.iload_n 2, 1) := by decide +kernel
theorem dX5_row_12 : decode cX5_row 12 = .ok (.iconst 0, 1) := by decide +kernel
theorem dX5_row_13 : decode cX5_row 13 = .ok (.aload_n 0, 1) := by decide +kernel
theorem dX5_row_14 : decode cX5_row 14 = .ok (.iload_n 1, 1) := by decide +kernel
theorem dX5_row_15 : decode cX5_row 15 = .ok (.invokevirtual 191, 3) := by decide +kernel
theorem dX5_row_18 : decode cX5_row 18 = .ok (.iconst 1, 1) := by decide +kernel
theorem dX5_row_19 : decode cX5_row 19 = .ok (.isub, 1) := by decide +kernel
theorem dX5_row_20 : decode cX5_row 20 = .ok (.invokestatic 90, 3) := by decide +kernel
theorem dX5_row_23 : decode cX5_row 23 = .ok (.ifCond .eq 7, 3) := by decide +kernel
theorem dX5_row_26 : decode cX5_row 26 = .ok (.iconst 0, 1) := by decide +kernel
theorem dX5_row_27 : decode cX5_row 27 = .ok (.goto 4, 3) := by decide +kernel
theorem dX5_row_30 : decode cX5_row 30 = .ok (.iconst 1, 1) := by decide +kernel
theorem dX5_row_31 : decode cX5_row 31 = .ok (.putfield 87, 3) := by decide +kernel
theorem dX5_row_34 : decode cX5_row 34 = .ok (.aload_n 0, 1) := by decide +kernel
theorem dX5_row_35 : decode cX5_row 35 = .ok (.getfield 87, 3) := by decide +kernel
theorem dX5_row_38 : decode cX5_row 38 = .ok (.ifCond .le 5, 3) := by decide +kernel
theorem dX5_row_41 : decode cX5_row 41 = .ok (.iconst 0, 1) := by decide +kernel
theorem dX5_row_42 : decode cX5_row 42 = .ok (.ireturn, 1) := by decide +kernel
theorem dX5_row_43 : decode cX5_row 43 = .ok (.iload_n 1, 1) := by decide +kernel
theorem dX5_row_44 : decode cX5_row 44 = .ok (.tableswitch 81 0 5 #[40, 40, 53, 60, 67, 74], 40) := by decide +kernel
theorem dX5_row_84 : decode cX5_row 84 = .ok (.aload_n 0, 1) := by decide +kernel
theorem dX5_row_85 : decode cX5_row 85 = .ok (.getfield 46, 3) := by decide +kernel
theorem dX5_row_88 : decode cX5_row 88 = .ok (.sipush 1000, 3) := by decide +kernel
theorem dX5_row_91 : decode cX5_row 91 = .ok (.iload_n 1, 1) := by decide +kernel
theorem dX5_row_92 : decode cX5_row 92 = .ok (.imul, 1) := by decide +kernel
theorem dX5_row_93 : decode cX5_row 93 = .ok (.iload_n 2, 1) := by decide +kernel
theorem dX5_row_94 : decode cX5_row 94 = .ok (.iadd, 1) := by decide +kernel
theorem dX5_row_95 : decode cX5_row 95 = .ok (.iaload, 1) := by decide +kernel
theorem dX5_row_96 : decode cX5_row 96 = .ok (.ireturn, 1) := by decide +kernel
theorem dX5_row_97 : decode cX5_row 97 = .ok (.aload_n 0, 1) := by decide +kernel
theorem dX5_row_98 : decode cX5_row 98 = .ok (.getfield 40, 3) := by decide +kernel
theorem dX5_row_101 : decode cX5_row 101 = .ok (.iload_n 2, 1) := by decide +kernel
theorem dX5_row_102 : decode cX5_row 102 = .ok (.iaload, 1) := by decide +kernel
theorem dX5_row_103 : decode cX5_row 103 = .ok (.ireturn, 1) := by decide +kernel
theorem dX5_row_104 : decode cX5_row 104 = .ok (.aload_n 0, 1) := by decide +kernel
theorem dX5_row_105 : decode cX5_row 105 = .ok (.getfield 28, 3) := by decide +kernel
theorem dX5_row_108 : decode cX5_row 108 = .ok (.iload_n 2, 1) := by decide +kernel
theorem dX5_row_109 : decode cX5_row 109 = .ok (.iaload, 1) := by decide +kernel
theorem dX5_row_110 : decode cX5_row 110 = .ok (.ireturn, 1) := by decide +kernel
theorem dX5_row_111 : decode cX5_row 111 = .ok (.aload_n 0, 1) := by decide +kernel
theorem dX5_row_112 : decode cX5_row 112 = .ok (.getfield 34, 3) := by decide +kernel
theorem dX5_row_115 : decode cX5_row 115 = .ok (.iload_n 2, 1) := by decide +kernel
theorem dX5_row_116 : decode cX5_row 116 = .ok (.iaload, 1) := by decide +kernel
theorem dX5_row_117 : decode cX5_row 117 = .ok (.ireturn, 1) := by decide +kernel
theorem dX5_row_118 : decode cX5_row 118 = .ok (.aload_n 0, 1) := by decide +kernel
theorem dX5_row_119 : decode cX5_row 119 = .ok (.getfield 37, 3) := by decide +kernel
theorem dX5_row_122 : decode cX5_row 122 = .ok (.iload_n 2, 1) := by decide +kernel
theorem dX5_row_123 : decode cX5_row 123 = .ok (.iaload, 1) := by decide +kernel
theorem dX5_row_124 : decode cX5_row 124 = .ok (.ireturn, 1) := by decide +kernel
theorem dX5_row_125 : decode cX5_row 125 = .ok (.aload_n 0, 1) := by decide +kernel
theorem dX5_row_126 : decode cX5_row 126 = .ok (.getfield 31, 3) := by decide +kernel
theorem dX5_row_129 : decode cX5_row 129 = .ok (.iload_n 2, 1) := by decide +kernel
theorem dX5_row_130 : decode cX5_row 130 = .ok (.iaload, 1) := by decide +kernel
theorem dX5_row_131 : decode cX5_row 131 = .ok (.ireturn, 1) := by decide +kernel
theorem dX5_code_0 : decode cX5_code 0 = .ok (.aload_n 0, 1) := by decide +kernel
theorem dX5_code_1 : decode cX5_code 1 = .ok (.aload_n 0, 1) := by decide +kernel
theorem dX5_code_2 : decode cX5_code 2 = .ok (.getfield 194, 3) := by decide +kernel
theorem dX5_code_5 : decode cX5_code 5 = .ok (.bipush 64, 2) := by decide +kernel
theorem dX5_code_7 : decode cX5_code 7 = .ok (.if_icmp .ne 7, 3) := by decide +kernel
theorem dX5_code_10 : decode cX5_code 10 = .ok (.iconst 1, 1) := by decide +kernel
theorem dX5_code_11 : decode cX5_code 11 = .ok (.goto 4, 3) := by decide +kernel
theorem dX5_code_14 : decode cX5_code 14 = .ok (.iconst 0, 1) := by decide +kernel
theorem dX5_code_15 : decode cX5_code 15 = .ok (.putfield 87, 3) := by decide +kernel
theorem dX5_code_18 : decode cX5_code 18 = .ok (.aload_n 0, 1) := by decide +kernel
theorem dX5_code_19 : decode cX5_code 19 = .ok (.getfield 87, 3) := by decide +kernel
theorem dX5_code_22 : decode cX5_code 22 = .ok (.ifCond .le 5, 3) := by decide +kernel
theorem dX5_code_25 : decode cX5_code 25 = .ok (.iconst 0, 1) := by decide +kernel
theorem dX5_code_26 : decode cX5_code 26 = .ok (.ireturn, 1) := by decide +kernel
theorem dX5_code_27 : decode cX5_code 27 = .ok (.aload_n 0, 1) := by decide +kernel
theorem dX5_code_28 : decode cX5_code 28 = .ok (.getfield 61, 3) := by decide +kernel
theorem dX5_code_31 : decode cX5_code 31 = .ok (.iconst 4, 1) := by decide +kernel
theorem dX5_code_32 : decode cX5_code 32 = .ok (.aload_n 0, 1) := by decide +kernel
theorem dX5_code_33 : decode cX5_code 33 = .ok (.getfield 194, 3) := by decide +kernel
theorem dX5_code_36 : decode cX5_code 36 = .ok (.imul, 1) := by decide +kernel
theorem dX5_code_37 : decode cX5_code 37 = .ok (.iload_n 1, 1) := by decide +kernel
theorem dX5_code_38 : decode cX5_code 38 = .ok (.iastore, 1) := by decide +kernel
theorem dX5_code_39 : decode cX5_code 39 = .ok (.aload_n 0, 1) := by decide +kernel
theorem dX5_code_40 : decode cX5_code 40 = .ok (.getfield 61, 3) := by decide +kernel
theorem dX5_code_43 : decode cX5_code 43 = .ok (.iconst 4, 1) := by decide +kernel
theorem dX5_code_44 : decode cX5_code 44 = .ok (.aload_n 0, 1) := by decide +kernel
theorem dX5_code_45 : decode cX5_code 45 = .ok (.getfield 194, 3) := by decide +kernel
theorem dX5_code_48 : decode cX5_code 48 = .ok (.imul, 1) := by decide +kernel
theorem dX5_code_49 : decode cX5_code 49 = .ok (.iconst 1, 1) := by decide +kernel
theorem dX5_code_50 : decode cX5_code 50 = .ok (.iadd, 1) := by decide +kernel
theorem dX5_code_51 : decode cX5_code 51 = .ok (.iload_n 2, 1) := by decide +kernel
theorem dX5_code_52 : decode cX5_code 52 = .ok (.iastore, 1) := by decide +kernel
theorem dX5_code_53 : decode cX5_code 53 = .ok (.aload_n 0, 1) := by decide +kernel
theorem dX5_code_54 : decode cX5_code 54 = .ok (.getfield 61, 3) := by decide +kernel
theorem dX5_code_57 : decode cX5_code 57 = .ok (.iconst 4, 1) := by decide +kernel
theorem dX5_code_58 : decode cX5_code 58 = .ok (.aload_n 0, 1) := by decide +kernel
theorem dX5_code_59 : decode cX5_code 59 = .ok (.getfield 194, 3) := by decide +kernel
theorem dX5_code_62 : decode cX5_code 62 = .ok (.imul, 1) := by decide +kernel
theorem dX5_code_63 : decode cX5_code 63 = .ok (.iconst 2, 1) := by decide +kernel
theorem dX5_code_64 : decode cX5_code 64 = .ok (.iadd, 1) := by decide +kernel
theorem dX5_code_65 : decode cX5_code 65 = .ok (.iload_n 3, 1) := by decide +kernel
theorem dX5_code_66 : decode cX5_code 66 = .ok (.iastore, 1) := by decide +kernel
theorem dX5_code_67 : decode cX5_code 67 = .ok (.aload_n 0, 1) := by decide +kernel
theorem dX5_code_68 : decode cX5_code 68 = .ok (.getfield 61, 3) := by decide +kernel
theorem dX5_code_71 : decode cX5_code 71 = .ok (.iconst 4, 1) := by decide +kernel
theorem dX5_code_72 : decode cX5_code 72 = .ok (.aload_n 0, 1) := by decide +kernel
theorem dX5_code_73 : decode cX5_code 73 = .ok (.getfield 194, 3) := by decide +kernel
theorem dX5_code_76 : decode cX5_code 76 = .ok (.imul, 1) := by decide +kernel
theorem dX5_code_77 : decode cX5_code 77 = .ok (.iconst 3, 1) := by decide +kernel
theorem dX5_code_78 : decode cX5_code 78 = .ok (.iadd, 1) := by decide +kernel
theorem dX5_code_79 : decode cX5_code 79 = .ok (.iload 4, 2) := by decide +kernel
theorem dX5_code_81 : decode cX5_code 81 = .ok (.iastore, 1) := by decide +kernel
theorem dX5_code_82 : decode cX5_code 82 = .ok (.aload_n 0, 1) := by decide +kernel
theorem dX5_code_83 : decode cX5_code 83 = .ok (.dup, 1) := by decide +kernel
theorem dX5_code_84 : decode cX5_code 84 = .ok (.getfield 194, 3) := by decide +kernel
theorem dX5_code_87 : decode cX5_code 87 = .ok (.iconst 1, 1) := by decide +kernel
theorem dX5_code_88 : decode cX5_code 88 = .ok (.iadd, 1) := by decide +kernel
theorem dX5_code_89 : decode cX5_code 89 = .ok (.putfield 194, 3) := by decide +kernel
theorem dX5_code_92 : decode cX5_code 92 = .ok (.aload_n 0, 1) := by decide +kernel
theorem dX5_code_93 : decode cX5_code 93 = .ok (.getfield 194, 3) := by decide +kernel
theorem dX5_code_96 : decode cX5_code 96 = .ok (.ireturn, 1) := by decide +kernel
theorem dX5_scrap_0 : decode cX5_scrap 0 = .ok (.aload_n 0, 1) := by decide +kernel
theorem dX5_scrap_1 : decode cX5_scrap 1 = .ok (.iconst 0, 1) := by decide +kernel
theorem dX5_scrap_2 : decode cX5_scrap 2 = .ok (.putfield 87, 3) := by decide +kernel
theorem dX5_scrap_5 : decode cX5_scrap 5 = .ok (.aload_n 0, 1) := by decide +kernel
theorem dX5_scrap_6 : decode cX5_scrap 6 = .ok (.getfield 194, 3) := by decide +kernel
theorem dX5_scrap_9 : decode cX5_scrap 9 = .ok (.istore_n 1, 1) := by decide +kernel
theorem dX5_scrap_10 : decode cX5_scrap 10 = .ok (.aload_n 0, 1) := by decide +kernel
theorem dX5_scrap_11 : decode cX5_scrap 11 = .ok (.iconst 0, 1) := by decide +kernel
theorem dX5_scrap_12 : decode cX5_scrap 12 = .ok (.putfield 194, 3) := by decide +kernel
theorem dX5_scrap_15 : decode cX5_scrap 15 = .ok (.iload_n 1, 1) := by decide +kernel
theorem dX5_scrap_16 : decode cX5_scrap 16 = .ok (.ireturn, 1) := by decide +kernel
theorem dX5_isNumber_0 : decode cX5_isNumber 0 = .ok (.iload_n 0, 1) := by decide +kernel
theorem dX5_isNumber_1 : decode cX5_isNumber 1 = .ok (.iconst 0, 1) := by decide +kernel
theorem dX5_isNumber_2 : decode cX5_isNumber 2 = .ok (.bipush 7, 2) := by decide +kernel
theorem dX5_isNumber_4 : decode cX5_isNumber 4 = .ok (.invokestatic 90, 3) := by decide +kernel
theorem dX5_isNumber_7 : decode cX5_isNumber 7 = .ok (.ireturn, 1) := by decide +kernel
theorem dX5_isPlace_0 : decode cX5_isPlace 0 = .ok (.iload_n 1, 1) := by decide +kernel
theorem dX5_isPlace_1 : decode cX5_isPlace 1 = .ok (.iconst 0, 1) := by decide +kernel
theorem dX5_isPlace_2 : decode cX5_isPlace 2 = .ok (.aload_n 0, 1) := by decide +kernel
theorem dX5_isPlace_3 : decode cX5_isPlace 3 = .ok (.getfield 194, 3) := by decide +kernel
theorem dX5_isPlace_6 : decode cX5_isPlace 6 = .ok (.invokestatic 90, 3) := by decide +kernel
theorem dX5_isPlace_9 : decode cX5_isPlace 9 = .ok (.ireturn, 1) := by decide +kernel
theorem dX5_isField_0 : decode cX5_isField 0 = .ok (.iload_n 0, 1) := by decide +kernel
theorem dX5_isField_1 : decode cX5_isField 1 = .ok (.iconst 0, 1) := by decide +kernel
theorem dX5_isField_2 : decode cX5_isField 2 = .ok (.iconst 5, 1) := by decide +kernel
theorem dX5_isField_3 : decode cX5_isField 3 = .ok (.invokestatic 90, 3) := by decide +kernel
theorem dX5_isField_6 : decode cX5_isField 6 = .ok (.ireturn, 1) := by decide +kernel
theorem dX5_isRight_0 : decode cX5_isRight 0 = .ok (.iload_n 1, 1) := by decide +kernel
theorem dX5_isRight_1 : decode cX5_isRight 1 = .ok (.tableswitch 338 0 14 #[75, 77, 108, 142, 170, 195, 195, 200, 205, 233, 253, 274, 303, 309, 77], 75) := by decide +kernel
theorem dX5_isRight_76 : decode cX5_isRight 76 = .ok (.iconst 1, 1) := by decide +kernel
theorem dX5_isRight_77 : decode cX5_isRight 77 = .ok (.ireturn, 1) := by decide +kernel
theorem dX5_isRight_78 : decode cX5_isRight 78 = .ok (.iload_n 2, 1) := by decide +kernel
theorem dX5_isRight_79 : decode cX5_isRight 79 = .ok (.invokestatic 175, 3) := by decide +kernel
theorem dX5_isRight_82 : decode cX5_isRight 82 = .ok (.ifCond .eq 25, 3) := by decide +kernel
theorem dX5_isRight_85 : decode cX5_isRight 85 = .ok (.iload_n 3, 1) := by decide +kernel
theorem dX5_isRight_86 : decode cX5_isRight 86 = .ok (.iconst 0, 1) := by decide +kernel
theorem dX5_isRight_87 : decode cX5_isRight 87 = .ok (.bipush 6, 2) := by decide +kernel
theorem dX5_isRight_89 : decode cX5_isRight 89 = .ok (.invokestatic 90, 3) := by decide +kernel
theorem dX5_isRight_92 : decode cX5_isRight 92 = .ok (.ifCond .eq 15, 3) := by decide +kernel
theorem dX5_isRight_95 : decode cX5_isRight 95 = .ok (.iload 4, 2) := by decide +kernel
theorem dX5_isRight_97 : decode cX5_isRight 97 = .ok (.invokestatic 197, 3) := by decide +kernel
theorem dX5_isRight_100 : decode cX5_isRight 100 = .ok (.ifCond .eq 7, 3) := by decide +kernel
theorem dX5_isRight_103 : decode cX5_isRight 103 = .ok (.iconst 1, 1) := by decide +kernel
theorem dX5_isRight_104 : decode cX5_isRight 104 = .ok (.goto 4, 3) := by decide +kernel
theorem dX5_isRight_107 : decode cX5_isRight 107 = .ok (.iconst 0, 1) := by decide +kernel
theorem dX5_isRight_108 : decode cX5_isRight 108 = .ok (.ireturn, 1) := by decide +kernel
theorem dX5_isRight_109 : decode cX5_isRight 109 = .ok (.iload_n 2, 1) := by decide +kernel
theorem dX5_isRight_110 : decode cX5_isRight 110 = .ok (.invokestatic 175, 3) := by decide +kernel
theorem dX5_isRight_113 : decode cX5_isRight 113 = .ok (.ifCond .eq 28, 3) := by decide +kernel
theorem dX5_isRight_116 : decode cX5_isRight 116 = .ok (.iload_n 3, 1) := by decide +kernel
theorem dX5_isRight_117 : decode cX5_isRight 117 = .ok (.invokestatic 200, 3) := by decide +kernel
theorem dX5_isRight_120 : decode cX5_isRight 120 = .ok (.ifCond .eq 21, 3) := by decide +kernel
theorem dX5_isRight_123 : decode cX5_isRight 123 = .ok (.iload 4, 2) := by decide +kernel
theorem dX5_isRight_125 : decode cX5_isRight 125 = .ok (.iconst (-1), 1) := by decide +kernel
theorem dX5_isRight_126 : decode cX5_isRight 126 = .ok (.if_icmp .eq 11, 3) := by decide +kernel
theorem dX5_isRight_129 : decode cX5_isRight 129 = .ok (.iload 4, 2) := by decide +kernel
theorem dX5_isRight_131 : decode cX5_isRight 131 = .ok (.invokestatic 175, 3) := by decide +kernel
theorem dX5_isRight_134 : decode cX5_isRight 134 = .ok (.ifCond .eq 7, 3) := by decide +kernel
theorem dX5_isRight_137 : decode cX5_isRight 137 = .ok (.iconst 1, 1) := by decide +kernel
theorem dX5_isRight_138 : decode cX5_isRight 138 = .ok (.goto 4, 3) := by decide +kernel
theorem dX5_isRight_141 : decode cX5_isRight 141 = .ok (.iconst 0, 1) := by decide +kernel
theorem dX5_isRight_142 : decode cX5_isRight 142 = .ok (.ireturn, 1) := by decide +kernel
theorem dX5_isRight_143 : decode cX5_isRight 143 = .ok (.iload_n 2, 1) := by decide +kernel
theorem dX5_isRight_144 : decode cX5_isRight 144 = .ok (.invokestatic 175, 3) := by decide +kernel
theorem dX5_isRight_147 : decode cX5_isRight 147 = .ok (.ifCond .eq 22, 3) := by decide +kernel
theorem dX5_isRight_150 : decode cX5_isRight 150 = .ok (.iload_n 3, 1) := by decide +kernel
theorem dX5_isRight_151 : decode cX5_isRight 151 = .ok (.invokestatic 175, 3) := by decide +kernel
theorem dX5_isRight_154 : decode cX5_isRight 154 = .ok (.ifCond .eq 15, 3) := by decide +kernel
theorem dX5_isRight_157 : decode cX5_isRight 157 = .ok (.iload 4, 2) := by decide +kernel
theorem dX5_isRight_159 : decode cX5_isRight 159 = .ok (.invokestatic 200, 3) := by decide +kernel
theorem dX5_isRight_162 : decode cX5_isRight 162 = .ok (.ifCond .eq 7, 3) := by decide +kernel
theorem dX5_isRight_165 : decode cX5_isRight 165 = .ok (.iconst 1, 1) := by decide +kernel
theorem dX5_isRight_166 : decode cX5_isRight 166 = .ok (.goto 4, 3) := by decide +kernel
theorem dX5_isRight_169 : decode cX5_isRight 169 = .ok (.iconst 0, 1) := by decide +kernel
theorem dX5_isRight_170 : decode cX5_isRight 170 = .ok (.ireturn, 1) := by decide +kernel
theorem dX5_isRight_171 : decode cX5_isRight 171 = .ok (.iload_n 2, 1) := by decide +kernel
theorem dX5_isRight_172 : decode cX5_isRight 172 = .ok (.invokestatic 175, 3) := by decide +kernel
theorem dX5_isRight_175 : decode cX5_isRight 175 = .ok (.ifCond .eq 19, 3) := by decide +kernel
theorem dX5_isRight_178 : decode cX5_isRight 178 = .ok (.iload_n 3, 1) := by decide +kernel
theorem dX5_isRight_179 : decode cX5_isRight 179 = .ok (.iconst (-1), 1) := by decide +kernel
theorem dX5_isRight_180 : decode cX5_isRight 180 = .ok (.if_icmp .eq 10, 3) := by decide +kernel
theorem dX5_isRight_183 : decode cX5_isRight 183 = .ok (.iload_n 3, 1) := by decide +kernel
theorem dX5_isRight_184 : decode cX5_isRight 184 = .ok (.invokestatic 175, 3) := by decide +kernel
theorem dX5_isRight_187 : decode cX5_isRight 187 = .ok (.ifCond .eq 7, 3) := by decide +kernel
theorem dX5_isRight_190 : decode cX5_isRight 190 = .ok (.iconst 1, 1) := by decide +kernel
theorem dX5_isRight_191 : decode cX5_isRight 191 = .ok (.goto 4, 3) := by decide +kernel
theorem dX5_isRight_194 : decode cX5_isRight 194 = .ok (.iconst 0, 1) := by decide +kernel
theorem dX5_isRight_195 : decode cX5_isRight 195 = .ok (.ireturn, 1) := by decide +kernel
theorem dX5_isRight_196 : decode cX5_isRight 196 = .ok (.iload_n 2, 1) := by decide +kernel
theorem dX5_isRight_197 : decode cX5_isRight 197 = .ok (.invokestatic 175, 3) := by decide +kernel
theorem dX5_isRight_200 : decode cX5_isRight 200 = .ok (.ireturn, 1) := by decide +kernel
theorem dX5_isRight_201 : decode cX5_isRight 201 = .ok (.iload_n 2, 1) := by decide +kernel
theorem dX5_isRight_202 : decode cX5_isRight 202 = .ok (.invokestatic 197, 3) := by decide +kernel
theorem dX5_isRight_205 : decode cX5_isRight 205 = .ok (.ireturn, 1) := by decide +kernel
theorem dX5_isRight_206 : decode cX5_isRight 206 = .ok (.iload_n 2, 1) := by decide +kernel
theorem dX5_isRight_207 : decode cX5_isRight 207 = .ok (.invokestatic 197, 3) := by decide +kernel
theorem dX5_isRight_210 : decode cX5_isRight 210 = .ok (.ifCond .eq 22, 3) := by decide +kernel
theorem dX5_isRight_213 : decode cX5_isRight 213 = .ok (.iload_n 3, 1) := by decide +kernel
theorem dX5_isRight_214 : decode cX5_isRight 214 = .ok (.invokestatic 197, 3) := by decide +kernel
theorem dX5_isRight_217 : decode cX5_isRight 217 = .ok (.ifCond .eq 15, 3) := by decide +kernel
theorem dX5_isRight_220 : decode cX5_isRight 220 = .ok (.iload 4, 2) := by decide +kernel
theorem dX5_isRight_222 : decode cX5_isRight 222 = .ok (.invokestatic 197, 3) := by decide +kernel
theorem dX5_isRight_225 : decode cX5_isRight 225 = .ok (.ifCond .eq 7, 3) := by decide +kernel
theorem dX5_isRight_228 : decode cX5_isRight 228 = .ok (.iconst 1, 1) := by decide +kernel
theorem dX5_isRight_229 : decode cX5_isRight 229 = .ok (.goto 4, 3) := by decide +kernel
theorem dX5_isRight_232 : decode cX5_isRight 232 = .ok (.iconst 0, 1) := by decide +kernel
theorem dX5_isRight_233 : decode cX5_isRight 233 = .ok (.ireturn, 1) := by decide +kernel
theorem dX5_isRight_234 : decode cX5_isRight 234 = .ok (.iload_n 2, 1) := by decide +kernel
theorem dX5_isRight_235 : decode cX5_isRight 235 = .ok (.invokestatic 197, 3) := by decide +kernel
theorem dX5_isRight_238 : decode cX5_isRight 238 = .ok (.ifCond .eq 14, 3) := by decide +kernel
theorem dX5_isRight_241 : decode cX5_isRight 241 = .ok (.iload_n 3, 1) := by decide +kernel
theorem dX5_isRight_242 : decode cX5_isRight 242 = .ok (.invokestatic 175, 3) := by decide +kernel
theorem dX5_isRight_245 : decode cX5_isRight 245 = .ok (.ifCond .eq 7, 3) := by decide +kernel
theorem dX5_isRight_248 : decode cX5_isRight 248 = .ok (.iconst 1, 1) := by decide +kernel
theorem dX5_isRight_249 : decode cX5_isRight 249 = .ok (.goto 4, 3) := by decide +kernel
theorem dX5_isRight_252 : decode cX5_isRight 252 = .ok (.iconst 0, 1) := by decide +kernel
theorem dX5_isRight_253 : decode cX5_isRight 253 = .ok (.ireturn, 1) := by decide +kernel
theorem dX5_isRight_254 : decode cX5_isRight 254 = .ok (.iload_n 2, 1) := by decide +kernel
theorem dX5_isRight_255 : decode cX5_isRight 255 = .ok (.invokestatic 175, 3) := by decide +kernel
theorem dX5_isRight_258 : decode cX5_isRight 258 = .ok (.ifCond .eq 15, 3) := by decide +kernel
theorem dX5_isRight_261 : decode cX5_isRight 261 = .ok (.aload_n 0, 1) := by decide +kernel
theorem dX5_isRight_262 : decode cX5_isRight 262 = .ok (.iload_n 3, 1) := by decide +kernel
theorem dX5_isRight_263 : decode cX5_isRight 263 = .ok (.invokevirtual 203, 3) := by decide +kernel
theorem dX5_isRight_266 : decode cX5_isRight 266 = .ok (.ifCond .eq 7, 3) := by decide +kernel
theorem dX5_isRight_269 : decode cX5_isRight 269 = .ok (.iconst 1, 1) := by decide +kernel
theorem dX5_isRight_270 : decode cX5_isRight 270 = .ok (.goto 4, 3) := by decide +kernel
theorem dX5_isRight_273 : decode cX5_isRight 273 = .ok (.iconst 0, 1) := by decide +kernel
theorem dX5_isRight_274 : decode cX5_isRight 274 = .ok (.ireturn, 1) := by decide +kernel
theorem dX5_isRight_275 : decode cX5_isRight 275 = .ok (.iload_n 2, 1) := by decide +kernel
theorem dX5_isRight_276 : decode cX5_isRight 276 = .ok (.invokestatic 197, 3) := by decide +kernel
theorem dX5_isRight_279 : decode cX5_isRight 279 = .ok (.ifCond .eq 23, 3) := by decide +kernel
theorem dX5_isRight_282 : decode cX5_isRight 282 = .ok (.iload_n 3, 1) := by decide +kernel
theorem dX5_isRight_283 : decode cX5_isRight 283 = .ok (.invokestatic 197, 3) := by decide +kernel
theorem dX5_isRight_286 : decode cX5_isRight 286 = .ok (.ifCond .eq 16, 3) := by decide +kernel
theorem dX5_isRight_289 : decode cX5_isRight 289 = .ok (.aload_n 0, 1) := by decide +kernel
theorem dX5_isRight_290 : decode cX5_isRight 290 = .ok (.iload 4, 2) := by decide +kernel
theorem dX5_isRight_292 : decode cX5_isRight 292 = .ok (.invokevirtual 203, 3) := by decide +kernel
theorem dX5_isRight_295 : decode cX5_isRight 295 = .ok (.ifCond .eq 7, 3) := by decide +kernel
theorem dX5_isRight_298 : decode cX5_isRight 298 = .ok (.iconst 1, 1) := by decide +kernel
theorem dX5_isRight_299 : decode cX5_isRight 299 = .ok (.goto 4, 3) := by decide +kernel
theorem dX5_isRight_302 : decode cX5_isRight 302 = .ok (.iconst 0, 1) := by decide +kernel
theorem dX5_isRight_303 : decode cX5_isRight 303 = .ok (.ireturn, 1) := by decide +kernel
theorem dX5_isRight_304 : decode cX5_isRight 304 = .ok (.aload_n 0, 1) := by decide +kernel
theorem dX5_isRight_305 : decode cX5_isRight 305 = .ok (.iload_n 2, 1) := by decide +kernel
theorem dX5_isRight_306 : decode cX5_isRight 306 = .ok (.invokevirtual 203, 3) := by decide +kernel
theorem dX5_isRight_309 : decode cX5_isRight 309 = .ok (.ireturn, 1) := by decide +kernel
theorem dX5_isRight_310 : decode cX5_isRight 310 = .ok (.iload_n 2, 1) := by decide +kernel
theorem dX5_isRight_311 : decode cX5_isRight 311 = .ok (.invokestatic 175, 3) := by decide +kernel
theorem dX5_isRight_314 : decode cX5_isRight 314 = .ok (.ifCond .eq 23, 3) := by decide +kernel
theorem dX5_isRight_317 : decode cX5_isRight 317 = .ok (.iload_n 3, 1) := by decide +kernel
theorem dX5_isRight_318 : decode cX5_isRight 318 = .ok (.invokestatic 175, 3) := by decide +kernel
theorem dX5_isRight_321 : decode cX5_isRight 321 = .ok (.ifCond .eq 16, 3) := by decide +kernel
theorem dX5_isRight_324 : decode cX5_isRight 324 = .ok (.aload_n 0, 1) := by decide +kernel
theorem dX5_isRight_325 : decode cX5_isRight 325 = .ok (.iload 4, 2) := by decide +kernel
theorem dX5_isRight_327 : decode cX5_isRight 327 = .ok (.invokevirtual 203, 3) := by decide +kernel
theorem dX5_isRight_330 : decode cX5_isRight 330 = .ok (.ifCond .eq 7, 3) := by decide +kernel
theorem dX5_isRight_333 : decode cX5_isRight 333 = .ok (.iconst 1, 1) := by decide +kernel
theorem dX5_isRight_334 : decode cX5_isRight 334 = .ok (.goto 4, 3) := by decide +kernel
theorem dX5_isRight_337 : decode cX5_isRight 337 = .ok (.iconst 0, 1) := by decide +kernel
theorem dX5_isRight_338 : decode cX5_isRight 338 = .ok (.ireturn, 1) := by decide +kernel
theorem dX5_isRight_339 : decode cX5_isRight 339 = .ok (.iconst 0, 1) := by decide +kernel
theorem dX5_isRight_340 : decode cX5_isRight 340 = .ok (.ireturn, 1) := by decide +kernel
theorem dX5_hindered_0 : decode cX5_hindered 0 = .ok (.iload_n 1, 1) := by decide +kernel
theorem dX5_hindered_1 : decode cX5_hindered 1 = .ok (.iconst 2, 1) := by decide +kernel
theorem dX5_hindered_2 : decode cX5_hindered 2 = .ok (.if_icmp .ne 7, 3) := by decide +kernel
theorem dX5_hindered_5 : decode cX5_hindered 5 = .ok (.iload_n 2, 1) := by decide +kernel
theorem dX5_hindered_6 : decode cX5_hindered 6 = .ok (.goto 19, 3) := by decide +kernel
theorem dX5_hindered_9 : decode cX5_hindered 9 = .ok (.iload_n 1, 1) := by decide +kernel
theorem dX5_hindered_10 : decode cX5_hindered 10 = .ok (.iconst 3, 1) := by decide +kernel
theorem dX5_hindered_11 : decode cX5_hindered 11 = .ok (.if_icmp .eq 9, 3) := by decide +kernel
theorem dX5_hindered_14 : decode cX5_hindered 14 = .ok (.iload_n 1, 1) := by decide +kernel
theorem dX5_hindered_15 : decode cX5_hindered 15 = .ok (.bipush 9, 2) := by decide +kernel
theorem dX5_hindered_17 : decode cX5_hindered 17 = .ok (.if_icmp .ne 7, 3) := by decide +kernel
theorem dX5_hindered_20 : decode cX5_hindered 20 = .ok (.iload_n 3, 1) := by decide +kernel
theorem dX5_hindered_21 : decode cX5_hindered 21 = .ok (.goto 4, 3) := by decide +kernel
theorem dX5_hindered_24 : decode cX5_hindered 24 = .ok (.iconst (-1), 1) := by decide +kernel
theorem dX5_hindered_25 : decode cX5_hindered 25 = .ok (.istore 5, 2) := by decide +kernel
theorem dX5_hindered_27 : decode cX5_hindered 27 = .ok (.iload 5, 2) := by decide +kernel
theorem dX5_hindered_29 : decode cX5_hindered 29 = .ok (.iconst (-1), 1) := by decide +kernel
theorem dX5_hindered_30 : decode cX5_hindered 30 = .ok (.if_icmp .eq 15, 3) := by decide +kernel
theorem dX5_hindered_33 : decode cX5_hindered 33 = .ok (.aload_n 0, 1) := by decide +kernel
theorem dX5_hindered_34 : decode cX5_hindered 34 = .ok (.getfield 25, 3) := by decide +kernel
theorem dX5_hindered_37 : decode cX5_hindered 37 = .ok (.iload 5, 2) := by decide +kernel
theorem dX5_hindered_39 : decode cX5_hindered 39 = .ok (.iaload, 1) := by decide +kernel
theorem dX5_hindered_40 : decode cX5_hindered 40 = .ok (.ifCond .ne 5, 3) := by decide +kernel
theorem dX5_hindered_43 : decode cX5_hindered 43 = .ok (.iconst 2, 1) := by decide +kernel
theorem dX5_hindered_44 : decode cX5_hindered 44 = .ok (.ireturn, 1) := by decide +kernel
theorem dX5_hindered_45 : decode cX5_hindered 45 = .ok (.iload_n 1, 1) := by decide +kernel
theorem dX5_hindered_46 : decode cX5_hindered 46 = .ok (.iconst 2, 1) := by decide +kernel
theorem dX5_hindered_47 : decode cX5_hindered 47 = .ok (.if_icmp .ne 17, 3) := by decide +kernel
theorem dX5_hindered_50 : decode cX5_hindered 50 = .ok (.iload_n 3, 1) := by decide +kernel
theorem dX5_hindered_51 : decode cX5_hindered 51 = .ok (.aload_n 0, 1) := by decide +kernel
theorem dX5_hindered_52 : decode cX5_hindered 52 = .ok (.aload_n 0, 1) := by decide +kernel
theorem dX5_hindered_53 : decode cX5_hindered 53 = .ok (.getfield 25, 3) := by decide +kernel
theorem dX5_hindered_56 : decode cX5_hindered 56 = .ok (.iload_n 2, 1) := by decide +kernel
theorem dX5_hindered_57 : decode cX5_hindered 57 = .ok (.iaload, 1) := by decide +kernel
theorem dX5_hindered_58 : decode cX5_hindered 58 = .ok (.invokevirtual 121, 3) := by decide +kernel
theorem dX5_hindered_61 : decode cX5_hindered 61 = .ok (.if_icmp .ge 23, 3) := by decide +kernel
theorem dX5_hindered_64 : decode cX5_hindered 64 = .ok (.iload_n 1, 1) := by decide +kernel
theorem dX5_hindered_65 : decode cX5_hindered 65 = .ok (.iconst 3, 1) := by decide +kernel
theorem dX5_hindered_66 : decode cX5_hindered 66 = .ok (.if_icmp .ne 20, 3) := by decide +kernel
theorem dX5_hindered_69 : decode cX5_hindered 69 = .ok (.iload 4, 2) := by decide +kernel
theorem dX5_hindered_71 : decode cX5_hindered 71 = .ok (.aload_n 0, 1) := by decide +kernel
theorem dX5_hindered_72 : decode cX5_hindered 72 = .ok (.aload_n 0, 1) := by decide +kernel
theorem dX5_hindered_73 : decode cX5_hindered 73 = .ok (.getfield 25, 3) := by decide +kernel
theorem dX5_hindered_76 : decode cX5_hindered 76 = .ok (.iload_n 3, 1) := by decide +kernel
theorem dX5_hindered_77 : decode cX5_hindered 77 = .ok (.iaload, 1) := by decide +kernel
theorem dX5_hindered_78 : decode cX5_hindered 78 = .ok (.invokevirtual 121, 3) := by decide +kernel
theorem dX5_hindered_81 : decode cX5_hindered 81 = .ok (.if_icmp .lt 5, 3) := by decide +kernel
theorem dX5_hindered_84 : decode cX5_hindered 84 = .ok (.iconst 3, 1) := by decide +kernel
theorem dX5_hindered_85 : decode cX5_hindered 85 = .ok (.ireturn, 1) := by decide +kernel
theorem dX5_hindered_86 : decode cX5_hindered 86 = .ok (.iload_n 1, 1) := by decide +kernel
theorem dX5_hindered_87 : decode cX5_hindered 87 = .ok (.iconst 5, 1) := by decide +kernel
theorem dX5_hindered_88 : decode cX5_hindered 88 = .ok (.if_icmp .ne 12, 3) := by decide +kernel
theorem dX5_hindered_91 : decode cX5_hindered 91 = .ok (.aload_n 0, 1) := by decide +kernel
theorem dX5_hindered_92 : decode cX5_hindered 92 = .ok (.getfield 157, 3) := by decide +kernel
theorem dX5_hindered_95 : decode cX5_hindered 95 = .ok (.bipush 40, 2) := by decide +kernel
theorem dX5_hindered_97 : decode cX5_hindered 97 = .ok (.if_icmp .eq 16, 3) := by decide +kernel
theorem dX5_hindered_100 : decode cX5_hindered 100 = .ok (.iload_n 1, 1) := by decide +kernel
theorem dX5_hindered_101 : decode cX5_hindered 101 = .ok (.bipush 6, 2) := by decide +kernel
theorem dX5_hindered_103 : decode cX5_hindered 103 = .ok (.if_icmp .ne 14, 3) := by decide +kernel
theorem dX5_hindered_106 : decode cX5_hindered 106 = .ok (.aload_n 0, 1) := by decide +kernel
theorem dX5_hindered_107 : decode cX5_hindered 107 = .ok (.getfield 157, 3) := by decide +kernel
theorem dX5_hindered_110 : decode cX5_hindered 110 = .ok (.ifCond .ne 7, 3) := by decide +kernel
theorem dX5_hindered_113 : decode cX5_hindered 113 = .ok (.iconst 4, 1) := by decide +kernel
theorem dX5_hindered_114 : decode cX5_hindered 114 = .ok (.goto 4, 3) := by decide +kernel
theorem dX5_hindered_117 : decode cX5_hindered 117 = .ok (.iconst 0, 1) := by decide +kernel
theorem dX5_hindered_118 : decode cX5_hindered 118 = .ok (.ireturn, 1) := by decide +kernel
theorem dX5_does_0 : decode cX5_does 0 = .ok (.iload_n 1, 1) := by decide +kernel
theorem dX5_does_1 : decode cX5_does 1 = .ok (.iconst 1, 1) := by decide +kernel
theorem dX5_does_2 : decode cX5_does 2 = .ok (.iadd, 1) := by decide +kernel
theorem dX5_does_3 : decode cX5_does 3 = .ok (.istore 6, 2) := by decide +kernel
theorem dX5_does_5 : decode cX5_does 5 = .ok (.iload_n 2, 1) := by decide +kernel
theorem dX5_does_6 : decode cX5_does 6 = .ok (.tableswitch 374 1 14 #[70, 130, 165, 191, 217, 245, 273, 284, 308, 331, 348, 372, 374, 70], 70) := by decide +kernel
theorem dX5_does_76 : decode cX5_does 76 = .ok (.aload_n 0, 1) := by decide +kernel
theorem dX5_does_77 : decode cX5_does 77 = .ok (.iload 4, 2) := by decide +kernel
theorem dX5_does_79 : decode cX5_does 79 = .ok (.aload_n 0, 1) := by decide +kernel
theorem dX5_does_80 : decode cX5_does 80 = .ok (.getfield 58, 3) := by decide +kernel
theorem dX5_does_83 : decode cX5_does 83 = .ok (.iload 5, 2) := by decide +kernel
theorem dX5_does_85 : decode cX5_does 85 = .ok (.iaload, 1) := by decide +kernel
theorem dX5_does_86 : decode cX5_does 86 = .ok (.iload_n 2, 1) := by decide +kernel
theorem dX5_does_87 : decode cX5_does 87 = .ok (.bipush 14, 2) := by decide +kernel
theorem dX5_does_89 : decode cX5_does 89 = .ok (.if_icmp .ne 7, 3) := by decide +kernel
theorem dX5_does_92 : decode cX5_does 92 = .ok (.iconst 1, 1) := by decide +kernel
theorem dX5_does_93 : decode cX5_does 93 = .ok (.goto 4, 3) := by decide +kernel
theorem dX5_does_96 : decode cX5_does 96 = .ok (.iconst 0, 1) := by decide +kernel
theorem dX5_does_97 : decode cX5_does 97 = .ok (.invokevirtual 178, 3) := by decide +kernel
theorem dX5_does_100 : decode cX5_does 100 = .ok (.istore 7, 2) := by decide +kernel
theorem dX5_does_102 : decode cX5_does 102 = .ok (.aload_n 0, 1) := by decide +kernel
theorem dX5_does_103 : decode cX5_does 103 = .ok (.getfield 25, 3) := by decide +kernel
theorem dX5_does_106 : decode cX5_does 106 = .ok (.iload_n 3, 1) := by decide +kernel
theorem dX5_does_107 : decode cX5_does 107 = .ok (.iload 7, 2) := by decide +kernel
theorem dX5_does_109 : decode cX5_does 109 = .ok (.ifCond .eq 8, 3) := by decide +kernel
theorem dX5_does_112 : decode cX5_does 112 = .ok (.iload 7, 2) := by decide +kernel
theorem dX5_does_114 : decode cX5_does 114 = .ok (.goto 9, 3) := by decide +kernel
theorem dX5_does_117 : decode cX5_does 117 = .ok (.aload_n 0, 1) := by decide +kernel
theorem dX5_does_118 : decode cX5_does 118 = .ok (.getfield 25, 3) := by decide +kernel
theorem dX5_does_121 : decode cX5_does 121 = .ok (.iload_n 3, 1) := by decide +kernel
theorem dX5_does_122 : decode cX5_does 122 = .ok (.iaload, 1) := by decide +kernel
theorem dX5_does_123 : decode cX5_does 123 = .ok (.iastore, 1) := by decide +kernel
theorem dX5_does_124 : decode cX5_does 124 = .ok (.iload 7, 2) := by decide +kernel
theorem dX5_does_126 : decode cX5_does 126 = .ok (.ifCond .eq 8, 3) := by decide +kernel
theorem dX5_does_129 : decode cX5_does 129 = .ok (.iload 6, 2) := by decide +kernel
theorem dX5_does_131 : decode cX5_does 131 = .ok (.goto 4, 3) := by decide +kernel
theorem dX5_does_134 : decode cX5_does 134 = .ok (.iconst (-1), 1) := by decide +kernel
theorem dX5_does_135 : decode cX5_does 135 = .ok (.ireturn, 1) := by decide +kernel
theorem dX5_does_136 : decode cX5_does 136 = .ok (.aload_n 0, 1) := by decide +kernel
theorem dX5_does_137 : decode cX5_does 137 = .ok (.aload_n 0, 1) := by decide +kernel
theorem dX5_does_138 : decode cX5_does 138 = .ok (.getfield 25, 3) := by decide +kernel
theorem dX5_does_141 : decode cX5_does 141 = .ok (.iload_n 3, 1) := by decide +kernel
theorem dX5_does_142 : decode cX5_does 142 = .ok (.iaload, 1) := by decide +kernel
theorem dX5_does_143 : decode cX5_does 143 = .ok (.iconst 2, 1) := by decide +kernel
theorem dX5_does_144 : decode cX5_does 144 = .ok (.iadd, 1) := by decide +kernel
theorem dX5_does_145 : decode cX5_does 145 = .ok (.iload 4, 2) := by decide +kernel
theorem dX5_does_147 : decode cX5_does 147 = .ok (.iadd, 1) := by decide +kernel
theorem dX5_does_148 : decode cX5_does 148 = .ok (.iload 5, 2) := by decide +kernel
theorem dX5_does_150 : decode cX5_does 150 = .ok (.iconst (-1), 1) := by decide +kernel
theorem dX5_does_151 : decode cX5_does 151 = .ok (.if_icmp .ne 7, 3) := by decide +kernel
theorem dX5_does_154 : decode cX5_does 154 = .ok (.iconst 0, 1) := by decide +kernel
theorem dX5_does_155 : decode cX5_does 155 = .ok (.goto 10, 3) := by decide +kernel
theorem dX5_does_158 : decode cX5_does 158 = .ok (.aload_n 0, 1) := by decide +kernel
theorem dX5_does_159 : decode cX5_does 159 = .ok (.getfield 25, 3) := by decide +kernel
theorem dX5_does_162 : decode cX5_does 162 = .ok (.iload 5, 2) := by decide +kernel
theorem dX5_does_164 : decode cX5_does 164 = .ok (.iaload, 1) := by decide +kernel
theorem dX5_does_165 : decode cX5_does 165 = .ok (.invokevirtual 182, 3) := by decide +kernel
theorem dX5_does_168 : decode cX5_does 168 = .ok (.iload 6, 2) := by decide +kernel
theorem dX5_does_170 : decode cX5_does 170 = .ok (.ireturn, 1) := by decide +kernel
theorem dX5_does_171 : decode cX5_does 171 = .ok (.aload_n 0, 1) := by decide +kernel
theorem dX5_does_172 : decode cX5_does 172 = .ok (.getfield 25, 3) := by decide +kernel
theorem dX5_does_175 : decode cX5_does 175 = .ok (.iload_n 3, 1) := by decide +kernel
theorem dX5_does_176 : decode cX5_does 176 = .ok (.aload_n 0, 1) := by decide +kernel
theorem dX5_does_177 : decode cX5_does 177 = .ok (.getfield 7, 3) := by decide +kernel
theorem dX5_does_180 : decode cX5_does 180 = .ok (.aload_n 0, 1) := by decide +kernel
theorem dX5_does_181 : decode cX5_does 181 = .ok (.getfield 25, 3) := by decide +kernel
theorem dX5_does_184 : decode cX5_does 184 = .ok (.iload 4, 2) := by decide +kernel
theorem dX5_does_186 : decode cX5_does 186 = .ok (.iaload, 1) := by decide +kernel
theorem dX5_does_187 : decode cX5_does 187 = .ok (.iconst 2, 1) := by decide +kernel
theorem dX5_does_188 : decode cX5_does 188 = .ok (.iadd, 1) := by decide +kernel
theorem dX5_does_189 : decode cX5_does 189 = .ok (.iload 5, 2) := by decide +kernel
theorem dX5_does_191 : decode cX5_does 191 = .ok (.iadd, 1) := by decide +kernel
theorem dX5_does_192 : decode cX5_does 192 = .ok (.iaload, 1) := by decide +kernel
theorem dX5_does_193 : decode cX5_does 193 = .ok (.iastore, 1) := by decide +kernel
theorem dX5_does_194 : decode cX5_does 194 = .ok (.iload 6, 2) := by decide +kernel
theorem dX5_does_196 : decode cX5_does 196 = .ok (.ireturn, 1) := by decide +kernel
theorem dX5_does_197 : decode cX5_does 197 = .ok (.aload_n 0, 1) := by decide +kernel
theorem dX5_does_198 : decode cX5_does 198 = .ok (.getfield 25, 3) := by decide +kernel
theorem dX5_does_201 : decode cX5_does 201 = .ok (.iload_n 3, 1) := by decide +kernel
theorem dX5_does_202 : decode cX5_does 202 = .ok (.iload 4, 2) := by decide +kernel
theorem dX5_does_204 : decode cX5_does 204 = .ok (.iconst (-1), 1) := by decide +kernel
theorem dX5_does_205 : decode cX5_does 205 = .ok (.if_icmp .ne 7, 3) := by decide +kernel
theorem dX5_does_208 : decode cX5_does 208 = .ok (.iconst 0, 1) := by decide +kernel
theorem dX5_does_209 : decode cX5_does 209 = .ok (.goto 10, 3) := by decide +kernel
theorem dX5_does_212 : decode cX5_does 212 = .ok (.aload_n 0, 1) := by decide +kernel
theorem dX5_does_213 : decode cX5_does 213 = .ok (.getfield 25, 3) := by decide +kernel
theorem dX5_does_216 : decode cX5_does 216 = .ok (.iload 4, 2) := by decide +kernel
theorem dX5_does_218 : decode cX5_does 218 = .ok (.iaload, 1) := by decide +kernel
theorem dX5_does_219 : decode cX5_does 219 = .ok (.iastore, 1) := by decide +kernel
theorem dX5_does_220 : decode cX5_does 220 = .ok (.iload 6, 2) := by decide +kernel
theorem dX5_does_222 : decode cX5_does 222 = .ok (.ireturn, 1) := by decide +kernel
theorem dX5_does_223 : decode cX5_does 223 = .ok (.aload_n 0, 1) := by decide +kernel
theorem dX5_does_224 : decode cX5_does 224 = .ok (.getfield 28, 3) := by decide +kernel
theorem dX5_does_227 : decode cX5_does 227 = .ok (.aload_n 0, 1) := by decide +kernel
theorem dX5_does_228 : decode cX5_does 228 = .ok (.getfield 157, 3) := by decide +kernel
theorem dX5_does_231 : decode cX5_does 231 = .ok (.aload_n 0, 1) := by decide +kernel
theorem dX5_does_232 : decode cX5_does 232 = .ok (.getfield 25, 3) := by decide +kernel
theorem dX5_does_235 : decode cX5_does 235 = .ok (.iload_n 3, 1) := by decide +kernel
theorem dX5_does_236 : decode cX5_does 236 = .ok (.iaload, 1) := by decide +kernel
theorem dX5_does_237 : decode cX5_does 237 = .ok (.iastore, 1) := by decide +kernel
theorem dX5_does_238 : decode cX5_does 238 = .ok (.aload_n 0, 1) := by decide +kernel
theorem dX5_does_239 : decode cX5_does 239 = .ok (.dup, 1) := by decide +kernel
theorem dX5_does_240 : decode cX5_does 240 = .ok (.getfield 157, 3) := by decide +kernel
theorem dX5_does_243 : decode cX5_does 243 = .ok (.iconst 1, 1) := by decide +kernel
theorem dX5_does_244 : decode cX5_does 244 = .ok (.iadd, 1) := by decide +kernel
theorem dX5_does_245 : decode cX5_does 245 = .ok (.putfield 157, 3) := by decide +kernel
theorem dX5_does_248 : decode cX5_does 248 = .ok (.iload 6, 2) := by decide +kernel
theorem dX5_does_250 : decode cX5_does 250 = .ok (.ireturn, 1) := by decide +kernel
theorem dX5_does_251 : decode cX5_does 251 = .ok (.aload_n 0, 1) := by decide +kernel
theorem dX5_does_252 : decode cX5_does 252 = .ok (.dup, 1) := by decide +kernel
theorem dX5_does_253 : decode cX5_does 253 = .ok (.getfield 157, 3) := by decide +kernel
theorem dX5_does_256 : decode cX5_does 256 = .ok (.iconst 1, 1) := by decide +kernel
theorem dX5_does_257 : decode cX5_does 257 = .ok (.isub, 1) := by decide +kernel
theorem dX5_does_258 : decode cX5_does 258 = .ok (.putfield 157, 3) := by decide +kernel
theorem dX5_does_261 : decode cX5_does 261 = .ok (.aload_n 0, 1) := by decide +kernel
theorem dX5_does_262 : decode cX5_does 262 = .ok (.getfield 25, 3) := by decide +kernel
theorem dX5_does_265 : decode cX5_does 265 = .ok (.iload_n 3, 1) := by decide +kernel
theorem dX5_does_266 : decode cX5_does 266 = .ok (.aload_n 0, 1) := by decide +kernel
theorem dX5_does_267 : decode cX5_does 267 = .ok (.getfield 28, 3) := by decide +kernel
theorem dX5_does_270 : decode cX5_does 270 = .ok (.aload_n 0, 1) := by decide +kernel
theorem dX5_does_271 : decode cX5_does 271 = .ok (.getfield 157, 3) := by decide +kernel
theorem dX5_does_274 : decode cX5_does 274 = .ok (.iaload, 1) := by decide +kernel
theorem dX5_does_275 : decode cX5_does 275 = .ok (.iastore, 1) := by decide +kernel
theorem dX5_does_276 : decode cX5_does 276 = .ok (.iload 6, 2) := by decide +kernel
theorem dX5_does_278 : decode cX5_does 278 = .ok (.ireturn, 1) := by decide +kernel
theorem dX5_does_279 : decode cX5_does 279 = .ok (.aload_n 0, 1) := by decide +kernel
theorem dX5_does_280 : decode cX5_does 280 = .ok (.getfield 58, 3) := by decide +kernel
theorem dX5_does_283 : decode cX5_does 283 = .ok (.iload_n 3, 1) := by decide +kernel
theorem dX5_does_284 : decode cX5_does 284 = .ok (.iload 4, 2) := by decide +kernel
theorem dX5_does_286 : decode cX5_does 286 = .ok (.iastore, 1) := by decide +kernel
theorem dX5_does_287 : decode cX5_does 287 = .ok (.iload 6, 2) := by decide +kernel
theorem dX5_does_289 : decode cX5_does 289 = .ok (.ireturn, 1) := by decide +kernel
theorem dX5_does_290 : decode cX5_does 290 = .ok (.aload_n 0, 1) := by decide +kernel
theorem dX5_does_291 : decode cX5_does 291 = .ok (.getfield 58, 3) := by decide +kernel
theorem dX5_does_294 : decode cX5_does 294 = .ok (.iload_n 3, 1) := by decide +kernel
theorem dX5_does_295 : decode cX5_does 295 = .ok (.aload_n 0, 1) := by decide +kernel
theorem dX5_does_296 : decode cX5_does 296 = .ok (.getfield 58, 3) := by decide +kernel
theorem dX5_does_299 : decode cX5_does 299 = .ok (.iload 4, 2) := by decide +kernel
theorem dX5_does_301 : decode cX5_does 301 = .ok (.iaload, 1) := by decide +kernel
theorem dX5_does_302 : decode cX5_does 302 = .ok (.aload_n 0, 1) := by decide +kernel
theorem dX5_does_303 : decode cX5_does 303 = .ok (.getfield 58, 3) := by decide +kernel
theorem dX5_does_306 : decode cX5_does 306 = .ok (.iload 5, 2) := by decide +kernel
theorem dX5_does_308 : decode cX5_does 308 = .ok (.iaload, 1) := by decide +kernel
theorem dX5_does_309 : decode cX5_does 309 = .ok (.iadd, 1) := by decide +kernel
theorem dX5_does_310 : decode cX5_does 310 = .ok (.iastore, 1) := by decide +kernel
theorem dX5_does_311 : decode cX5_does 311 = .ok (.iload 6, 2) := by decide +kernel
theorem dX5_does_313 : decode cX5_does 313 = .ok (.ireturn, 1) := by decide +kernel
theorem dX5_does_314 : decode cX5_does 314 = .ok (.aload_n 0, 1) := by decide +kernel
theorem dX5_does_315 : decode cX5_does 315 = .ok (.getfield 58, 3) := by decide +kernel
theorem dX5_does_318 : decode cX5_does 318 = .ok (.iload_n 3, 1) := by decide +kernel
theorem dX5_does_319 : decode cX5_does 319 = .ok (.aload_n 0, 1) := by decide +kernel
theorem dX5_does_320 : decode cX5_does 320 = .ok (.getfield 7, 3) := by decide +kernel
theorem dX5_does_323 : decode cX5_does 323 = .ok (.aload_n 0, 1) := by decide +kernel
theorem dX5_does_324 : decode cX5_does 324 = .ok (.getfield 25, 3) := by decide +kernel
theorem dX5_does_327 : decode cX5_does 327 = .ok (.iload 4, 2) := by decide +kernel
theorem dX5_does_329 : decode cX5_does 329 = .ok (.iaload, 1) := by decide +kernel
theorem dX5_does_330 : decode cX5_does 330 = .ok (.iconst 1, 1) := by decide +kernel
theorem dX5_does_331 : decode cX5_does 331 = .ok (.iadd, 1) := by decide +kernel
theorem dX5_does_332 : decode cX5_does 332 = .ok (.iaload, 1) := by decide +kernel
theorem dX5_does_333 : decode cX5_does 333 = .ok (.iastore, 1) := by decide +kernel
theorem dX5_does_334 : decode cX5_does 334 = .ok (.iload 6, 2) := by decide +kernel
theorem dX5_does_336 : decode cX5_does 336 = .ok (.ireturn, 1) := by decide +kernel
theorem dX5_does_337 : decode cX5_does 337 = .ok (.aload_n 0, 1) := by decide +kernel
theorem dX5_does_338 : decode cX5_does 338 = .ok (.getfield 25, 3) := by decide +kernel
theorem dX5_does_341 : decode cX5_does 341 = .ok (.iload_n 3, 1) := by decide +kernel
theorem dX5_does_342 : decode cX5_does 342 = .ok (.iaload, 1) := by decide +kernel
theorem dX5_does_343 : decode cX5_does 343 = .ok (.ifCond .ne 8, 3) := by decide +kernel
theorem dX5_does_346 : decode cX5_does 346 = .ok (.iload 4, 2) := by decide +kernel
theorem dX5_does_348 : decode cX5_does 348 = .ok (.goto 5, 3) := by decide +kernel
theorem dX5_does_351 : decode cX5_does 351 = .ok (.iload 6, 2) := by decide +kernel
theorem dX5_does_353 : decode cX5_does 353 = .ok (.ireturn, 1) := by decide +kernel
theorem dX5_does_354 : decode cX5_does 354 = .ok (.aload_n 0, 1) := by decide +kernel
theorem dX5_does_355 : decode cX5_does 355 = .ok (.getfield 58, 3) := by decide +kernel
theorem dX5_does_358 : decode cX5_does 358 = .ok (.iload_n 3, 1) := by decide +kernel
theorem dX5_does_359 : decode cX5_does 359 = .ok (.iaload, 1) := by decide +kernel
theorem dX5_does_360 : decode cX5_does 360 = .ok (.aload_n 0, 1) := by decide +kernel
theorem dX5_does_361 : decode cX5_does 361 = .ok (.getfield 58, 3) := by decide +kernel
theorem dX5_does_364 : decode cX5_does 364 = .ok (.iload 4, 2) := by decide +kernel
theorem dX5_does_366 : decode cX5_does 366 = .ok (.iaload, 1) := by decide +kernel
theorem dX5_does_367 : decode cX5_does 367 = .ok (.if_icmp .ge 8, 3) := by decide +kernel
theorem dX5_does_370 : decode cX5_does 370 = .ok (.iload 5, 2) := by decide +kernel
theorem dX5_does_372 : decode cX5_does 372 = .ok (.goto 5, 3) := by decide +kernel
theorem dX5_does_375 : decode cX5_does 375 = .ok (.iload 6, 2) := by decide +kernel
theorem dX5_does_377 : decode cX5_does 377 = .ok (.ireturn, 1) := by decide +kernel
theorem dX5_does_378 : decode cX5_does 378 = .ok (.iload_n 3, 1) := by decide +kernel
theorem dX5_does_379 : decode cX5_does 379 = .ok (.ireturn, 1) := by decide +kernel
theorem dX5_does_380 : decode cX5_does 380 = .ok (.aload_n 0, 1) := by decide +kernel
theorem dX5_does_381 : decode cX5_does 381 = .ok (.getfield 25, 3) := by decide +kernel
theorem dX5_does_384 : decode cX5_does 384 = .ok (.iload_n 3, 1) := by decide +kernel
theorem dX5_does_385 : decode cX5_does 385 = .ok (.iaload, 1) := by decide +kernel
theorem dX5_does_386 : decode cX5_does 386 = .ok (.aload_n 0, 1) := by decide +kernel
theorem dX5_does_387 : decode cX5_does 387 = .ok (.getfield 25, 3) := by decide +kernel
theorem dX5_does_390 : decode cX5_does 390 = .ok (.iload 4, 2) := by decide +kernel
theorem dX5_does_392 : decode cX5_does 392 = .ok (.iaload, 1) := by decide +kernel
theorem dX5_does_393 : decode cX5_does 393 = .ok (.if_icmp .ne 8, 3) := by decide +kernel
theorem dX5_does_396 : decode cX5_does 396 = .ok (.iload 5, 2) := by decide +kernel
theorem dX5_does_398 : decode cX5_does 398 = .ok (.goto 5, 3) := by decide +kernel
theorem dX5_does_401 : decode cX5_does 401 = .ok (.iload 6, 2) := by decide +kernel
theorem dX5_does_403 : decode cX5_does 403 = .ok (.ireturn, 1) := by decide +kernel
theorem dX5_run_0 : decode cX5_run 0 = .ok (.aload_n 0, 1) := by decide +kernel
theorem dX5_run_1 : decode cX5_run 1 = .ok (.aload_n 0, 1) := by decide +kernel
theorem dX5_run_2 : decode cX5_run 2 = .ok (.iload_n 1, 1) := by decide +kernel
theorem dX5_run_3 : decode cX5_run 3 = .ok (.invokevirtual 203, 3) := by decide +kernel
theorem dX5_run_6 : decode cX5_run 6 = .ok (.ifCond .ne 7, 3) := by decide +kernel
theorem dX5_run_9 : decode cX5_run 9 = .ok (.iconst 1, 1) := by decide +kernel
theorem dX5_run_10 : decode cX5_run 10 = .ok (.goto 19, 3) := by decide +kernel
theorem dX5_run_13 : decode cX5_run 13 = .ok (.iload_n 2, 1) := by decide +kernel
theorem dX5_run_14 : decode cX5_run 14 = .ok (.iconst 0, 1) := by decide +kernel
theorem dX5_run_15 : decode cX5_run 15 = .ok (.sipush 400, 3) := by decide +kernel
theorem dX5_run_18 : decode cX5_run 18 = .ok (.invokestatic 90, 3) := by decide +kernel
theorem dX5_run_21 : decode cX5_run 21 = .ok (.ifCond .ne 7, 3) := by decide +kernel
theorem dX5_run_24 : decode cX5_run 24 = .ok (.iconst 2, 1) := by decide +kernel
theorem dX5_run_25 : decode cX5_run 25 = .ok (.goto 4, 3) := by decide +kernel
theorem dX5_run_28 : decode cX5_run 28 = .ok (.iconst 0, 1) := by decide +kernel
theorem dX5_run_29 : decode cX5_run 29 = .ok (.putfield 87, 3) := by decide +kernel
theorem dX5_run_32 : decode cX5_run 32 = .ok (.aload_n 0, 1) := by decide +kernel
theorem dX5_run_33 : decode cX5_run 33 = .ok (.getfield 87, 3) := by decide +kernel
theorem dX5_run_36 : decode cX5_run 36 = .ok (.ifCond .le 5, 3) := by decide +kernel
theorem dX5_run_39 : decode cX5_run 39 = .ok (.iconst 0, 1) := by decide +kernel
theorem dX5_run_40 : decode cX5_run 40 = .ok (.ireturn, 1) := by decide +kernel
theorem dX5_run_41 : decode cX5_run 41 = .ok (.aload_n 0, 1) := by decide +kernel
theorem dX5_run_42 : decode cX5_run 42 = .ok (.iload_n 1, 1) := by decide +kernel
theorem dX5_run_43 : decode cX5_run 43 = .ok (.putfield 206, 3) := by decide +kernel
theorem dX5_run_46 : decode cX5_run 46 = .ok (.iconst 0, 1) := by decide +kernel
theorem dX5_run_47 : decode cX5_run 47 = .ok (.istore_n 3, 1) := by decide +kernel
theorem dX5_run_48 : decode cX5_run 48 = .ok (.aload_n 0, 1) := by decide +kernel
theorem dX5_run_49 : decode cX5_run 49 = .ok (.getfield 206, 3) := by decide +kernel
theorem dX5_run_52 : decode cX5_run 52 = .ok (.aload_n 0, 1) := by decide +kernel
theorem dX5_run_53 : decode cX5_run 53 = .ok (.getfield 194, 3) := by decide +kernel
theorem dX5_run_56 : decode cX5_run 56 = .ok (.if_icmp .ge 173, 3) := by decide +kernel
theorem dX5_run_59 : decode cX5_run 59 = .ok (.iload_n 3, 1) := by decide +kernel
theorem dX5_run_60 : decode cX5_run 60 = .ok (.iload_n 2, 1) := by decide +kernel
theorem dX5_run_61 : decode cX5_run 61 = .ok (.if_icmp .ne 6, 3) := by decide +kernel
theorem dX5_run_64 : decode cX5_run 64 = .ok (.bipush 6, 2) := by decide +kernel
theorem dX5_run_66 : decode cX5_run 66 = .ok (.ireturn, 1) := by decide +kernel
theorem dX5_run_67 : decode cX5_run 67 = .ok (.aload_n 0, 1) := by decide +kernel
theorem dX5_run_68 : decode cX5_run 68 = .ok (.getfield 61, 3) := by decide +kernel
theorem dX5_run_71 : decode cX5_run 71 = .ok (.iconst 4, 1) := by decide +kernel
theorem dX5_run_72 : decode cX5_run 72 = .ok (.aload_n 0, 1) := by decide +kernel
theorem dX5_run_73 : decode cX5_run 73 = .ok (.getfield 206, 3) := by decide +kernel
theorem dX5_run_76 : decode cX5_run 76 = .ok (.imul, 1) := by decide +kernel
theorem dX5_run_77 : decode cX5_run 77 = .ok (.iaload, 1) := by decide +kernel
theorem dX5_run_78 : decode cX5_run 78 = .ok (.istore 4, 2) := by decide +kernel
theorem dX5_run_80 : decode cX5_run 80 = .ok (.aload_n 0, 1) := by decide +kernel
theorem dX5_run_81 : decode cX5_run 81 = .ok (.getfield 61, 3) := by decide +kernel
theorem dX5_run_84 : decode cX5_run 84 = .ok (.iconst 4, 1) := by decide +kernel
theorem dX5_run_85 : decode cX5_run 85 = .ok (.aload_n 0, 1) := by decide +kernel
theorem dX5_run_86 : decode cX5_run 86 = .ok (.getfield 206, 3) := by decide +kernel
theorem dX5_run_89 : decode cX5_run 89 = .ok (.imul, 1) := by decide +kernel
theorem dX5_run_90 : decode cX5_run 90 = .ok (.iconst 1, 1) := by decide +kernel
theorem dX5_run_91 : decode cX5_run 91 = .ok (.iadd, 1) := by decide +kernel
theorem dX5_run_92 : decode cX5_run 92 = .ok (.iaload, 1) := by decide +kernel
theorem dX5_run_93 : decode cX5_run 93 = .ok (.istore 5, 2) := by decide +kernel
theorem dX5_run_95 : decode cX5_run 95 = .ok (.aload_n 0, 1) := by decide +kernel
theorem dX5_run_96 : decode cX5_run 96 = .ok (.getfield 61, 3) := by decide +kernel
theorem dX5_run_99 : decode cX5_run 99 = .ok (.iconst 4, 1) := by decide +kernel
theorem dX5_run_100 : decode cX5_run 100 = .ok (.aload_n 0, 1) := by decide +kernel
theorem dX5_run_101 : decode cX5_run 101 = .ok (.getfield 206, 3) := by decide +kernel
theorem dX5_run_104 : decode cX5_run 104 = .ok (.imul, 1) := by decide +kernel
theorem dX5_run_105 : decode cX5_run 105 = .ok (.iconst 2, 1) := by decide +kernel
theorem dX5_run_106 : decode cX5_run 106 = .ok (.iadd, 1) := by decide +kernel
theorem dX5_run_107 : decode cX5_run 107 = .ok (.iaload, 1) := by decide +kernel
theorem dX5_run_108 : decode cX5_run 108 = .ok (.istore 6, 2) := by decide +kernel
theorem dX5_run_110 : decode cX5_run 110 = .ok (.aload_n 0, 1) := by decide +kernel
theorem dX5_run_111 : decode cX5_run 111 = .ok (.getfield 61, 3) := by decide +kernel
theorem dX5_run_114 : decode cX5_run 114 = .ok (.iconst 4, 1) := by decide +kernel
theorem dX5_run_115 : decode cX5_run 115 = .ok (.aload_n 0, 1) := by decide +kernel
theorem dX5_run_116 : decode cX5_run 116 = .ok (.getfield 206, 3) := by decide +kernel
theorem dX5_run_119 : decode cX5_run 119 = .ok (.imul, 1) := by decide +kernel
theorem dX5_run_120 : decode cX5_run 120 = .ok (.iconst 3, 1) := by decide +kernel
theorem dX5_run_121 : decode cX5_run 121 = .ok (.iadd, 1) := by decide +kernel
theorem dX5_run_122 : decode cX5_run 122 = .ok (.iaload, 1) := by decide +kernel
theorem dX5_run_123 : decode cX5_run 123 = .ok (.istore 7, 2) := by decide +kernel
theorem dX5_run_125 : decode cX5_run 125 = .ok (.aload_n 0, 1) := by decide +kernel
theorem dX5_run_126 : decode cX5_run 126 = .ok (.iload 4, 2) := by decide +kernel
theorem dX5_run_128 : decode cX5_run 128 = .ok (.iload 5, 2) := by decide +kernel
theorem dX5_run_130 : decode cX5_run 130 = .ok (.iload 6, 2) := by decide +kernel
theorem dX5_run_132 : decode cX5_run 132 = .ok (.iload 7, 2) := by decide +kernel
theorem dX5_run_134 : decode cX5_run 134 = .ok (.invokevirtual 209, 3) := by decide +kernel
theorem dX5_run_137 : decode cX5_run 137 = .ok (.ifCond .ne 5, 3) := by decide +kernel
theorem dX5_run_140 : decode cX5_run 140 = .ok (.iconst 1, 1) := by decide +kernel
theorem dX5_run_141 : decode cX5_run 141 = .ok (.ireturn, 1) := by decide +kernel
theorem dX5_run_142 : decode cX5_run 142 = .ok (.aload_n 0, 1) := by decide +kernel
theorem dX5_run_143 : decode cX5_run 143 = .ok (.iload 4, 2) := by decide +kernel
theorem dX5_run_145 : decode cX5_run 145 = .ok (.iload 5, 2) := by decide +kernel
theorem dX5_run_147 : decode cX5_run 147 = .ok (.iload 6, 2) := by decide +kernel
theorem dX5_run_149 : decode cX5_run 149 = .ok (.iload 7, 2) := by decide +kernel
theorem dX5_run_151 : decode cX5_run 151 = .ok (.invokevirtual 213, 3) := by decide +kernel
theorem dX5_run_154 : decode cX5_run 154 = .ok (.istore 8, 2) := by decide +kernel
theorem dX5_run_156 : decode cX5_run 156 = .ok (.iload 8, 2) := by decide +kernel
theorem dX5_run_158 : decode cX5_run 158 = .ok (.ifCond .le 6, 3) := by decide +kernel
theorem dX5_run_161 : decode cX5_run 161 = .ok (.iload 8, 2) := by decide +kernel
theorem dX5_run_163 : decode cX5_run 163 = .ok (.ireturn, 1) := by decide +kernel
theorem dX5_run_164 : decode cX5_run 164 = .ok (.iload 4, 2) := by decide +kernel
theorem dX5_run_166 : decode cX5_run 166 = .ok (.ifCond .ne 15, 3) := by decide +kernel
theorem dX5_run_169 : decode cX5_run 169 = .ok (.aload_n 0, 1) := by decide +kernel
theorem dX5_run_170 : decode cX5_run 170 = .ok (.dup, 1) := by decide +kernel
theorem dX5_run_171 : decode cX5_run 171 = .ok (.getfield 217, 3) := by decide +kernel
theorem dX5_run_174 : decode cX5_run 174 = .ok (.iconst 1, 1) := by decide +kernel
theorem dX5_run_175 : decode cX5_run 175 = .ok (.iadd, 1) := by decide +kernel
theorem dX5_run_176 : decode cX5_run 176 = .ok (.putfield 217, 3) := by decide +kernel
theorem dX5_run_179 : decode cX5_run 179 = .ok (.iconst 0, 1) := by decide +kernel
theorem dX5_run_180 : decode cX5_run 180 = .ok (.ireturn, 1) := by decide +kernel
theorem dX5_run_181 : decode cX5_run 181 = .ok (.aload_n 0, 1) := by decide +kernel
theorem dX5_run_182 : decode cX5_run 182 = .ok (.aload_n 0, 1) := by decide +kernel
theorem dX5_run_183 : decode cX5_run 183 = .ok (.getfield 206, 3) := by decide +kernel
theorem dX5_run_186 : decode cX5_run 186 = .ok (.iload 4, 2) := by decide +kernel
theorem dX5_run_188 : decode cX5_run 188 = .ok (.iload 5, 2) := by decide +kernel
theorem dX5_run_190 : decode cX5_run 190 = .ok (.iload 6, 2) := by decide +kernel
theorem dX5_run_192 : decode cX5_run 192 = .ok (.iload 7, 2) := by decide +kernel
theorem dX5_run_194 : decode cX5_run 194 = .ok (.invokevirtual 220, 3) := by decide +kernel
theorem dX5_run_197 : decode cX5_run 197 = .ok (.istore 9, 2) := by decide +kernel
theorem dX5_run_199 : decode cX5_run 199 = .ok (.iload 9, 2) := by decide +kernel
theorem dX5_run_201 : decode cX5_run 201 = .ok (.iconst (-1), 1) := by decide +kernel
theorem dX5_run_202 : decode cX5_run 202 = .ok (.if_icmp .ne 5, 3) := by decide +kernel
theorem dX5_run_205 : decode cX5_run 205 = .ok (.iconst 5, 1) := by decide +kernel
theorem dX5_run_206 : decode cX5_run 206 = .ok (.ireturn, 1) := by decide +kernel
theorem dX5_run_207 : decode cX5_run 207 = .ok (.aload_n 0, 1) := by decide +kernel
theorem dX5_run_208 : decode cX5_run 208 = .ok (.dup, 1) := by decide +kernel
theorem dX5_run_209 : decode cX5_run 209 = .ok (.getfield 217, 3) := by decide +kernel
theorem dX5_run_212 : decode cX5_run 212 = .ok (.iconst 1, 1) := by decide +kernel
theorem dX5_run_213 : decode cX5_run 213 = .ok (.iadd, 1) := by decide +kernel
theorem dX5_run_214 : decode cX5_run 214 = .ok (.putfield 217, 3) := by decide +kernel
theorem dX5_run_217 : decode cX5_run 217 = .ok (.aload_n 0, 1) := by decide +kernel
theorem dX5_run_218 : decode cX5_run 218 = .ok (.iload 9, 2) := by decide +kernel
theorem dX5_run_220 : decode cX5_run 220 = .ok (.putfield 206, 3) := by decide +kernel
theorem dX5_run_223 : decode cX5_run 223 = .ok (.iinc 3 1, 3) := by decide +kernel
theorem dX5_run_226 : decode cX5_run 226 = .ok (.goto (-178), 3) := by decide +kernel
theorem dX5_run_229 : decode cX5_run 229 = .ok (.iconst 0, 1) := by decide +kernel
theorem dX5_run_230 : decode cX5_run 230 = .ok (.ireturn, 1) := by decide +kernel
theorem dX5_count_0 : decode cX5_count 0 = .ok (.aload_n 0, 1) := by decide +kernel
theorem dX5_count_1 : decode cX5_count 1 = .ok (.iload_n 1, 1) := by decide +kernel
theorem dX5_count_2 : decode cX5_count 2 = .ok (.iconst 0, 1) := by decide +kernel
theorem dX5_count_3 : decode cX5_count 3 = .ok (.bipush 24, 2) := by decide +kernel
theorem dX5_count_5 : decode cX5_count 5 = .ok (.invokestatic 90, 3) := by decide +kernel
theorem dX5_count_8 : decode cX5_count 8 = .ok (.ifCond .eq 7, 3) := by decide +kernel
theorem dX5_count_11 : decode cX5_count 11 = .ok (.iconst 0, 1) := by decide +kernel
theorem dX5_count_12 : decode cX5_count 12 = .ok (.goto 4, 3) := by decide +kernel
theorem dX5_count_15 : decode cX5_count 15 = .ok (.iconst 1, 1) := by decide +kernel
theorem dX5_count_16 : decode cX5_count 16 = .ok (.putfield 87, 3) := by decide +kernel
theorem dX5_count_19 : decode cX5_count 19 = .ok (.aload_n 0, 1) := by decide +kernel
theorem dX5_count_20 : decode cX5_count 20 = .ok (.getfield 87, 3) := by decide +kernel
theorem dX5_count_23 : decode cX5_count 23 = .ok (.ifCond .le 5, 3) := by decide +kernel
theorem dX5_count_26 : decode cX5_count 26 = .ok (.iconst 0, 1) := by decide +kernel
theorem dX5_count_27 : decode cX5_count 27 = .ok (.ireturn, 1) := by decide +kernel
theorem dX5_count_28 : decode cX5_count 28 = .ok (.iload_n 1, 1) := by decide +kernel
theorem dX5_count_29 : decode cX5_count 29 = .ok (.iconst 3, 1) := by decide +kernel
theorem dX5_count_30 : decode cX5_count 30 = .ok (.if_icmp .ge 10, 3) := by decide +kernel
theorem dX5_count_33 : decode cX5_count 33 = .ok (.aload_n 0, 1) := by decide +kernel
theorem dX5_count_34 : decode cX5_count 34 = .ok (.getfield 22, 3) := by decide +kernel
theorem dX5_count_37 : decode cX5_count 37 = .ok (.iload_n 1, 1) := by decide +kernel
theorem dX5_count_38 : decode cX5_count 38 = .ok (.iaload, 1) := by decide +kernel
theorem dX5_count_39 : decode cX5_count 39 = .ok (.ireturn, 1) := by decide +kernel
theorem dX5_count_40 : decode cX5_count 40 = .ok (.iload_n 1, 1) := by decide +kernel
theorem dX5_count_41 : decode cX5_count 41 = .ok (.bipush 9, 2) := by decide +kernel
theorem dX5_count_43 : decode cX5_count 43 = .ok (.if_icmp .ge 11, 3) := by decide +kernel
theorem dX5_count_46 : decode cX5_count 46 = .ok (.aload_n 0, 1) := by decide +kernel
theorem dX5_count_47 : decode cX5_count 47 = .ok (.iload_n 1, 1) := by decide +kernel
theorem dX5_count_48 : decode cX5_count 48 = .ok (.iconst 3, 1) := by decide +kernel
theorem dX5_count_49 : decode cX5_count 49 = .ok (.isub, 1) := by decide +kernel
theorem dX5_count_50 : decode cX5_count 50 = .ok (.invokevirtual 191, 3) := by decide +kernel
theorem dX5_count_53 : decode cX5_count 53 = .ok (.ireturn, 1) := by decide +kernel
theorem dX5_count_54 : decode cX5_count 54 = .ok (.iload_n 1, 1) := by decide +kernel
theorem dX5_count_55 : decode cX5_count 55 = .ok (.bipush 12, 2) := by decide +kernel
theorem dX5_count_57 : decode cX5_count 57 = .ok (.if_icmp .ge 13, 3) := by decide +kernel
theorem dX5_count_60 : decode cX5_count 60 = .ok (.aload_n 0, 1) := by decide +kernel
theorem dX5_count_61 : decode cX5_count 61 = .ok (.getfield 55, 3) := by decide +kernel
theorem dX5_count_64 : decode cX5_count 64 = .ok (.iload_n 1, 1) := by decide +kernel
theorem dX5_count_65 : decode cX5_count 65 = .ok (.bipush 9, 2) := by decide +kernel
theorem dX5_count_67 : decode cX5_count 67 = .ok (.isub, 1) := by decide +kernel
theorem dX5_count_68 : decode cX5_count 68 = .ok (.iaload, 1) := by decide +kernel
theorem dX5_count_69 : decode cX5_count 69 = .ok (.ireturn, 1) := by decide +kernel
theorem dX5_count_70 : decode cX5_count 70 = .ok (.iload_n 1, 1) := by decide +kernel
theorem dX5_count_71 : decode cX5_count 71 = .ok (.bipush 12, 2) := by decide +kernel
theorem dX5_count_73 : decode cX5_count 73 = .ok (.if_icmp .ne 10, 3) := by decide +kernel
theorem dX5_count_76 : decode cX5_count 76 = .ok (.aload_n 0, 1) := by decide +kernel
theorem dX5_count_77 : decode cX5_count 77 = .ok (.getfield 112, 3) := by decide +kernel
theorem dX5_count_80 : decode cX5_count 80 = .ok (.goto 64, 3) := by decide +kernel
theorem dX5_count_83 : decode cX5_count 83 = .ok (.iload_n 1, 1) := by decide +kernel
theorem dX5_count_84 : decode cX5_count 84 = .ok (.bipush 13, 2) := by decide +kernel
theorem dX5_count_86 : decode cX5_count 86 = .ok (.if_icmp .ne 10, 3) := by decide +kernel
theorem dX5_count_89 : decode cX5_count 89 = .ok (.aload_n 0, 1) := by decide +kernel
theorem dX5_count_90 : decode cX5_count 90 = .ok (.getfield 169, 3) := by decide +kernel
theorem dX5_count_93 : decode cX5_count 93 = .ok (.goto 51, 3) := by decide +kernel
theorem dX5_count_96 : decode cX5_count 96 = .ok (.iload_n 1, 1) := by decide +kernel
theorem dX5_count_97 : decode cX5_count 97 = .ok (.bipush 14, 2) := by decide +kernel
theorem dX5_count_99 : decode cX5_count 99 = .ok (.if_icmp .ne 10, 3) := by decide +kernel
theorem dX5_count_102 : decode cX5_count 102 = .ok (.aload_n 0, 1) := by decide +kernel
theorem dX5_count_103 : decode cX5_count 103 = .ok (.getfield 135, 3) := by decide +kernel
theorem dX5_count_106 : decode cX5_count 106 = .ok (.goto 38, 3) := by decide +kernel
theorem dX5_count_109 : decode cX5_count 109 = .ok (.iload_n 1, 1) := by decide +kernel
theorem dX5_count_110 : decode cX5_count 110 = .ok (.bipush 15, 2) := by decide +kernel
theorem dX5_count_112 : decode cX5_count 112 = .ok (.if_icmp .ne 10, 3) := by decide +kernel
theorem dX5_count_115 : decode cX5_count 115 = .ok (.aload_n 0, 1) := by decide +kernel
theorem dX5_count_116 : decode cX5_count 116 = .ok (.getfield 217, 3) := by decide +kernel
theorem dX5_count_119 : decode cX5_count 119 = .ok (.goto 25, 3) := by decide +kernel
theorem dX5_count_122 : decode cX5_count 122 = .ok (.iload_n 1, 1) := by decide +kernel
theorem dX5_count_123 : decode cX5_count 123 = .ok (.bipush 16, 2) := by decide +kernel
theorem dX5_count_125 : decode cX5_count 125 = .ok (.if_icmp .ne 10, 3) := by decide +kernel
theorem dX5_count_128 : decode cX5_count 128 = .ok (.aload_n 0, 1) := by decide +kernel
theorem dX5_count_129 : decode cX5_count 129 = .ok (.getfield 206, 3) := by decide +kernel
theorem dX5_count_132 : decode cX5_count 132 = .ok (.goto 12, 3) := by decide +kernel
theorem dX5_count_135 : decode cX5_count 135 = .ok (.aload_n 0, 1) := by decide +kernel
theorem dX5_count_136 : decode cX5_count 136 = .ok (.getfield 58, 3) := by decide +kernel
theorem dX5_count_139 : decode cX5_count 139 = .ok (.iload_n 1, 1) := by decide +kernel
theorem dX5_count_140 : decode cX5_count 140 = .ok (.bipush 17, 2) := by decide +kernel
theorem dX5_count_142 : decode cX5_count 142 = .ok (.isub, 1) := by decide +kernel
theorem dX5_count_143 : decode cX5_count 143 = .ok (.iaload, 1) := by decide +kernel
theorem dX5_count_144 : decode cX5_count 144 = .ok (.ireturn, 1) := by decide +kernel
