theorem dX10_init_0 : decode cX10_init 0 = .ok (.aload_n 0, 1) := by decide +kernel
theorem dX10_init_1 : decode cX10_init 1 = .ok (.invokespecial 1, 3) := by decide +kernel
theorem dX10_init_4 : decode cX10_init 4 = .ok (.aload_n 0, 1) := by decide +kernel
theorem dX10_init_5 : decode cX10_init 5 = .ok (.sipush 240, 3) := by decide +kernel
theorem dX10_init_8 : decode cX10_init 8 = .ok (.newarray .int, 2) := by decide +kernel
theorem dX10_init_10 : decode cX10_init 10 = .ok (.putfield 7, 3) := by decide +kernel
theorem dX10_init_13 : decode cX10_init 13 = .ok (.aload_n 0, 1) := by decide +kernel
theorem dX10_init_14 : decode cX10_init 14 = .ok (.bipush 24, 2) := by decide +kernel
theorem dX10_init_16 : decode cX10_init 16 = .ok (.newarray .int, 2) := by decide +kernel
theorem dX10_init_18 : decode cX10_init 18 = .ok (.putfield 13, 3) := by decide +kernel
theorem dX10_init_21 : decode cX10_init 21 = .ok (.aload_n 0, 1) := by decide +kernel
theorem dX10_init_22 : decode cX10_init 22 = .ok (.bipush 6, 2) := by decide +kernel
theorem dX10_init_24 : decode cX10_init 24 = .ok (.newarray .int, 2) := by decide +kernel
theorem dX10_init_26 : decode cX10_init 26 = .ok (.putfield 16, 3) := by decide +kernel
theorem dX10_init_29 : decode cX10_init 29 = .ok (.aload_n 0, 1) := by decide +kernel
theorem dX10_init_30 : decode cX10_init 30 = .ok (.sipush 128, 3) := by decide +kernel
theorem dX10_init_33 : decode cX10_init 33 = .ok (.newarray .int, 2) := by decide +kernel
theorem dX10_init_35 : decode cX10_init 35 = .ok (.putfield 19, 3) := by decide +kernel
theorem dX10_init_38 : decode cX10_init 38 = .ok (.aload_n 0, 1) := by decide +kernel
theorem dX10_init_39 : decode cX10_init 39 = .ok (.sipush 128, 3) := by decide +kernel
theorem dX10_init_42 : decode cX10_init 42 = .ok (.newarray .int, 2) := by decide +kernel
theorem dX10_init_44 : decode cX10_init 44 = .ok (.putfield 22, 3) := by decide +kernel
theorem dX10_init_47 : decode cX10_init 47 = .ok (.aload_n 0, 1) := by decide +kernel
theorem dX10_init_48 : decode cX10_init 48 = .ok (.sipush 128, 3) := by decide +kernel
theorem dX10_init_51 : decode cX10_init 51 = .ok (.newarray .int, 2) := by decide +kernel
theorem dX10_init_53 : decode cX10_init 53 = .ok (.putfield 25, 3) := by decide +kernel
theorem dX10_init_56 : decode cX10_init 56 = .ok (.aload_n 0, 1) := by decide +kernel
theorem dX10_init_57 : decode cX10_init 57 = .ok (.sipush 128, 3) := by decide +kernel
theorem dX10_init_60 : decode cX10_init 60 = .ok (.newarray .int, 2) := by decide +kernel
theorem dX10_init_62 : decode cX10_init 62 = .ok (.putfield 28, 3) := by decide +kernel
theorem dX10_init_65 : decode cX10_init 65 = .ok (.aload_n 0, 1) := by decide +kernel
theorem dX10_init_66 : decode cX10_init 66 = .ok (.iconst 1, 1) := by decide +kernel
theorem dX10_init_67 : decode cX10_init 67 = .ok (.putfield 31, 3) := by decide +kernel
theorem dX10_init_70 : decode cX10_init 70 = .ok (.aload_n 0, 1) := by decide +kernel
theorem dX10_init_71 : decode cX10_init 71 = .ok (.iconst 3, 1) := by decide +kernel
theorem dX10_init_72 : decode cX10_init 72 = .ok (.newarray .int, 2) := by decide +kernel
theorem dX10_init_74 : decode cX10_init 74 = .ok (.putfield 35, 3) := by decide +kernel
theorem dX10_init_77 : decode cX10_init 77 = .ok (.aload_n 0, 1) := by decide +kernel
theorem dX10_init_78 : decode cX10_init 78 = .ok (.bipush 120, 2) := by decide +kernel
theorem dX10_init_80 : decode cX10_init 80 = .ok (.newarray .int, 2) := by decide +kernel
theorem dX10_init_82 : decode cX10_init 82 = .ok (.putfield 38, 3) := by decide +kernel
theorem dX10_init_85 : decode cX10_init 85 = .ok (.aload_n 0, 1) := by decide +kernel
theorem dX10_init_86 : decode cX10_init 86 = .ok (.bipush 24, 2) := by decide +kernel
theorem dX10_init_88 : decode cX10_init 88 = .ok (.newarray .int, 2) := by decide +kernel
theorem dX10_init_90 : decode cX10_init 90 = .ok (.putfield 41, 3) := by decide +kernel
theorem dX10_init_93 : decode cX10_init 93 = .ok (.aload_n 0, 1) := by decide +kernel
theorem dX10_init_94 : decode cX10_init 94 = .ok (.sipush 128, 3) := by decide +kernel
theorem dX10_init_97 : decode cX10_init 97 = .ok (.newarray .int, 2) := by decide +kernel
theorem dX10_init_99 : decode cX10_init 99 = .ok (.putfield 44, 3) := by decide +kernel
theorem dX10_init_102 : decode cX10_init 102 = .ok (.aload_n 0, 1) := by decide +kernel
theorem dX10_init_103 : decode cX10_init 103 = .ok (.sipush 128, 3) := by decide +kernel
theorem dX10_init_106 : decode cX10_init 106 = .ok (.newarray .int, 2) := by decide +kernel
theorem dX10_init_108 : decode cX10_init 108 = .ok (.putfield 47, 3) := by decide +kernel
theorem dX10_init_111 : decode cX10_init 111 = .ok (.aload_n 0, 1) := by decide +kernel
theorem dX10_init_112 : decode cX10_init 112 = .ok (.sipush 128, 3) := by decide +kernel
theorem dX10_init_115 : decode cX10_init 115 = .ok (.newarray .int, 2) := by decide +kernel
theorem dX10_init_117 : decode cX10_init 117 = .ok (.putfield 50, 3) := by decide +kernel
theorem dX10_init_120 : decode cX10_init 120 = .ok (.aload_n 0, 1) := by decide +kernel
theorem dX10_init_121 : decode cX10_init 121 = .ok (.sipush 128, 3) := by decide +kernel
theorem dX10_init_124 : decode cX10_init 124 = .ok (.newarray .int, 2) := by decide +kernel
theorem dX10_init_126 : decode cX10_init 126 = .ok (.putfield 53, 3) := by decide +kernel
theorem dX10_init_129 : decode cX10_init 129 = .ok (.aload_n 0, 1) := by decide +kernel
theorem dX10_init_130 : decode cX10_init 130 = .ok (.bipush 8, 2) := by decide +kernel
theorem dX10_init_132 : decode cX10_init 132 = .ok (.newarray .int, 2) := by decide +kernel
theorem dX10_init_134 : decode cX10_init 134 = .ok (.putfield 56, 3) := by decide +kernel
theorem dX10_init_137 : decode cX10_init 137 = .ok (.aload_n 0, 1) := by decide +kernel
theorem dX10_init_138 : decode cX10_init 138 = .ok (.bipush 8, 2) := by decide +kernel
theorem dX10_init_140 : decode cX10_init 140 = .ok (.newarray .int, 2) := by decide +kernel
theorem dX10_init_142 : decode cX10_init 142 = .ok (.putfield 59, 3) := by decide +kernel
theorem dX10_init_145 : decode cX10_init 145 = .ok (.aload_n 0, 1) := by decide +kernel
theorem dX10_init_146 : decode cX10_init 146 = .ok (.sipush 320, 3) := by decide +kernel
theorem dX10_init_149 : decode cX10_init 149 = .ok (.newarray .int, 2) := by decide +kernel
theorem dX10_init_151 : decode cX10_init 151 = .ok (.putfield 62, 3) := by decide +kernel
theorem dX10_init_154 : decode cX10_init 154 = .ok (.aload_n 0, 1) := by decide +kernel
theorem dX10_init_155 : decode cX10_init 155 = .ok (.bipush 8, 2) := by decide +kernel
theorem dX10_init_157 : decode cX10_init 157 = .ok (.newarray .int, 2) := by decide +kernel
theorem dX10_init_159 : decode cX10_init 159 = .ok (.putfield 65, 3) := by decide +kernel
theorem dX10_init_162 : decode cX10_init 162 = .ok (.aload_n 0, 1) := by decide +kernel
theorem dX10_init_163 : decode cX10_init 163 = .ok (.iconst (-1), 1) := by decide +kernel
theorem dX10_init_164 : decode cX10_init 164 = .ok (.putfield 68, 3) := by decide +kernel
theorem dX10_init_167 : decode cX10_init 167 = .ok (.aload_n 0, 1) := by decide +kernel
theorem dX10_init_168 : decode cX10_init 168 = .ok (.sipush 320, 3) := by decide +kernel
theorem dX10_init_171 : decode cX10_init 171 = .ok (.newarray .int, 2) := by decide +kernel
theorem dX10_init_173 : decode cX10_init 173 = .ok (.putfield 71, 3) := by decide +kernel
theorem dX10_init_176 : decode cX10_init 176 = .ok (.aload_n 0, 1) := by decide +kernel
theorem dX10_init_177 : decode cX10_init 177 = .ok (.sipush 320, 3) := by decide +kernel
theorem dX10_init_180 : decode cX10_init 180 = .ok (.newarray .int, 2) := by decide +kernel
theorem dX10_init_182 : decode cX10_init 182 = .ok (.putfield 74, 3) := by decide +kernel
theorem dX10_init_185 : decode cX10_init 185 = .ok (.aload_n 0, 1) := by decide +kernel
theorem dX10_init_186 : decode cX10_init 186 = .ok (.sipush 320, 3) := by decide +kernel
theorem dX10_init_189 : decode cX10_init 189 = .ok (.newarray .int, 2) := by decide +kernel
theorem dX10_init_191 : decode cX10_init 191 = .ok (.putfield 77, 3) := by decide +kernel
theorem dX10_init_194 : decode cX10_init 194 = .ok (.aload_n 0, 1) := by decide +kernel
theorem dX10_init_195 : decode cX10_init 195 = .ok (.sipush 320, 3) := by decide +kernel
theorem dX10_init_198 : decode cX10_init 198 = .ok (.newarray .int, 2) := by decide +kernel
theorem dX10_init_200 : decode cX10_init 200 = .ok (.putfield 80, 3) := by decide +kernel
theorem dX10_init_203 : decode cX10_init 203 = .ok (.aload_n 0, 1) := by decide +kernel
theorem dX10_init_204 : decode cX10_init 204 = .ok (.bipush 8, 2) := by decide +kernel
theorem dX10_init_206 : decode cX10_init 206 = .ok (.newarray .int, 2) := by decide +kernel
theorem dX10_init_208 : decode cX10_init 208 = .ok (.putfield 83, 3) := by decide +kernel
theorem dX10_init_211 : decode cX10_init 211 = .ok (.iconst 0, 1) := by decide +kernel
theorem dX10_init_212 : decode cX10_init 212 = .ok (.istore_n 1, 1) := by decide +kernel
theorem dX10_init_213 : decode cX10_init 213 = .ok (.iload_n 1, 1) := by decide +kernel
theorem dX10_init_214 : decode cX10_init 214 = .ok (.bipush 6, 2) := by decide +kernel
theorem dX10_init_216 : decode cX10_init 216 = .ok (.if_icmp .ge 16, 3) := by decide +kernel
theorem dX10_init_219 : decode cX10_init 219 = .ok (.aload_n 0, 1) := by decide +kernel
theorem dX10_init_220 : decode cX10_init 220 = .ok (.getfield 16, 3) := by decide +kernel
theorem dX10_init_223 : decode cX10_init 223 = .ok (.iload_n 1, 1) := by decide +kernel
theorem dX10_init_224 : decode cX10_init 224 = .ok (.iload_n 1, 1) := by decide +kernel
theorem dX10_init_225 : decode cX10_init 225 = .ok (.iastore, 1) := by decide +kernel
theorem dX10_init_226 : decode cX10_init 226 = .ok (.iinc 1 1, 3) := by decide +kernel
theorem dX10_init_229 : decode cX10_init 229 = .ok (.goto (-16), 3) := by decide +kernel
theorem dX10_init_232 : decode cX10_init 232 = .ok (.return_, 1) := by decide +kernel
theorem dX10_in_0 : decode cX10_in 0 = .ok (.lload_n 0, 1) := by decide +kernel
theorem dX10_in_1 : decode cX10_in 1 = .ok (.lload_n 2, 1) := by decide +kernel
theorem dX10_in_2 : decode cX10_in 2 = .ok (.lcmp, 1) := by decide +kernel
theorem dX10_in_3 : decode cX10_in 3 = .ok (.ifCond .lt 14, 3) := by decide +kernel
theorem dX10_in_6 : decode cX10_in 6 = .ok (.lload_n 0, 1) := by decide +kernel
theorem dX10_in_7 : decode cX10_in 7 = .ok (.lload 4, 2) := by decide +kernel
theorem dX10_in_9 : decode cX10_in 9 = .ok (.lcmp, 1) := by decide +kernel
theorem dX10_in_10 : decode cX10_in 10 = .ok (.ifCond .gt 7, 3) := by decide +kernel
theorem dX10_in_13 : decode cX10_in 13 = .ok (.iconst 1, 1) := by decide +kernel
theorem dX10_in_14 : decode cX10_in 14 = .ok (.goto 4, 3) := by decide +kernel
theorem dX10_in_17 : decode cX10_in 17 = .ok (.iconst 0, 1) := by decide +kernel
theorem dX10_in_18 : decode cX10_in 18 = .ok (.ireturn, 1) := by decide +kernel
theorem dX10_bad_0 : decode cX10_bad 0 = .ok (.aload_n 0, 1) := by decide +kernel
theorem dX10_bad_1 : decode cX10_bad 1 = .ok (.getfield 35, 3) := by decide +kernel
theorem dX10_bad_4 : decode cX10_bad 4 = .ok (.iconst 0, 1) := by decide +kernel
theorem dX10_bad_5 : decode cX10_bad 5 = .ok (.dup2, 1) := by decide +kernel
theorem dX10_bad_6 : decode cX10_bad 6 = .ok (.iaload, 1) := by decide +kernel
theorem dX10_bad_7 : decode cX10_bad 7 = .ok (.iconst 1, 1) := by decide +kernel
theorem dX10_bad_8 : decode cX10_bad 8 = .ok (.iadd, 1) := by decide +kernel
theorem dX10_bad_9 : decode cX10_bad 9 = .ok (.iastore, 1) := by decide +kernel
theorem dX10_bad_10 : decode cX10_bad 10 = .ok (.iload_n 1, 1) := by decide +kernel
theorem dX10_bad_11 : decode cX10_bad 11 = .ok (.ireturn, 1) := by decide +kernel
theorem dX10_no_0 : decode cX10_no 0 = .ok (.aload_n 0, 1) := by decide +kernel
theorem dX10_no_1 : decode cX10_no 1 = .ok (.getfield 35, 3) := by decide +kernel
theorem dX10_no_4 : decode cX10_no 4 = .ok (.iconst 1, 1) := by decide +kernel
theorem dX10_no_5 : decode cX10_no 5 = .ok (.dup2, 1) := by decide +kernel
theorem dX10_no_6 : decode cX10_no 6 = .ok (.iaload, 1) := by decide +kernel
theorem dX10_no_7 : decode cX10_no 7 = .ok (.iconst 1, 1) := by decide +kernel
theorem dX10_no_8 : decode cX10_no 8 = .ok (.iadd, 1) := by decide +kernel
theorem dX10_no_9 : decode cX10_no 9 = .ok (.iastore, 1) := by decide +kernel
theorem dX10_no_10 : decode cX10_no 10 = .ok (.bipush (-3), 2) := by decide +kernel
theorem dX10_no_12 : decode cX10_no 12 = .ok (.ireturn, 1) := by decide +kernel
theorem dX10_full_0 : decode cX10_full 0 = .ok (.aload_n 0, 1) := by decide +kernel
theorem dX10_full_1 : decode cX10_full 1 = .ok (.getfield 35, 3) := by decide +kernel
theorem dX10_full_4 : decode cX10_full 4 = .ok (.iconst 2, 1) := by decide +kernel
theorem dX10_full_5 : decode cX10_full 5 = .ok (.dup2, 1) := by decide +kernel
theorem dX10_full_6 : decode cX10_full 6 = .ok (.iaload, 1) := by decide +kernel
theorem dX10_full_7 : decode cX10_full 7 = .ok (.iconst 1, 1) := by decide +kernel
theorem dX10_full_8 : decode cX10_full 8 = .ok (.iadd, 1) := by decide +kernel
theorem dX10_full_9 : decode cX10_full 9 = .ok (.iastore, 1) := by decide +kernel
theorem dX10_full_10 : decode cX10_full 10 = .ok (.bipush (-4), 2) := by decide +kernel
theorem dX10_full_12 : decode cX10_full 12 = .ok (.ireturn, 1) := by decide +kernel
theorem dX10_far_0 : decode cX10_far 0 = .ok (.iload_n 0, 1) := by decide +kernel
theorem dX10_far_1 : decode cX10_far 1 = .ok (.iload_n 1, 1) := by decide +kernel
theorem dX10_far_2 : decode cX10_far 2 = .ok (.if_icmp .le 9, 3) := by decide +kernel
theorem dX10_far_5 : decode cX10_far 5 = .ok (.iload_n 0, 1) := by decide +kernel
theorem dX10_far_6 : decode cX10_far 6 = .ok (.iload_n 1, 1) := by decide +kernel
theorem dX10_far_7 : decode cX10_far 7 = .ok (.isub, 1) := by decide +kernel
theorem dX10_far_8 : decode cX10_far 8 = .ok (.goto 6, 3) := by decide +kernel
theorem dX10_far_11 : decode cX10_far 11 = .ok (.iload_n 1, 1) := by decide +kernel
theorem dX10_far_12 : decode cX10_far 12 = .ok (.iload_n 0, 1) := by decide +kernel
theorem dX10_far_13 : decode cX10_far 13 = .ok (.isub, 1) := by decide +kernel
theorem dX10_far_14 : decode cX10_far 14 = .ok (.ireturn, 1) := by decide +kernel
theorem dX10_at_0 : decode cX10_at 0 = .ok (.aload_n 0, 1) := by decide +kernel
theorem dX10_at_1 : decode cX10_at 1 = .ok (.getfield 7, 3) := by decide +kernel
theorem dX10_at_4 : decode cX10_at 4 = .ok (.bipush 6, 2) := by decide +kernel
theorem dX10_at_6 : decode cX10_at 6 = .ok (.iload_n 1, 1) := by decide +kernel
theorem dX10_at_7 : decode cX10_at 7 = .ok (.imul, 1) := by decide +kernel
theorem dX10_at_8 : decode cX10_at 8 = .ok (.iload_n 2, 1) := by decide +kernel
theorem dX10_at_9 : decode cX10_at 9 = .ok (.iadd, 1) := by decide +kernel
theorem dX10_at_10 : decode cX10_at 10 = .ok (.iaload, 1) := by decide +kernel
theorem dX10_at_11 : decode cX10_at 11 = .ok (.ireturn, 1) := by decide +kernel
theorem dX10_isUnit_0 : decode cX10_isUnit 0 = .ok (.iload_n 1, 1) := by decide +kernel
theorem dX10_isUnit_1 : decode cX10_isUnit 1 = .ok (.i2l, 1) := by decide +kernel
theorem dX10_isUnit_2 : decode cX10_isUnit 2 = .ok (.lconst 0, 1) := by decide +kernel
theorem dX10_isUnit_3 : decode cX10_isUnit 3 = .ok (.aload_n 0, 1) := by decide +kernel
theorem dX10_isUnit_4 : decode cX10_isUnit 4 = .ok (.getfield 86, 3) := by decide +kernel
theorem dX10_isUnit_7 : decode cX10_isUnit 7 = .ok (.iconst 1, 1) := by decide +kernel
theorem dX10_isUnit_8 : decode cX10_isUnit 8 = .ok (.isub, 1) := by decide +kernel
theorem dX10_isUnit_9 : decode cX10_isUnit 9 = .ok (.i2l, 1) := by decide +kernel
theorem dX10_isUnit_10 : decode cX10_isUnit 10 = .ok (.invokestatic 89, 3) := by decide +kernel
theorem dX10_isUnit_13 : decode cX10_isUnit 13 = .ok (.ireturn, 1) := by decide +kernel
theorem dX10_isSound_0 : decode cX10_isSound 0 = .ok (.iload_n 0, 1) := by decide +kernel
theorem dX10_isSound_1 : decode cX10_isSound 1 = .ok (.i2l, 1) := by decide +kernel
theorem dX10_isSound_2 : decode cX10_isSound 2 = .ok (.lconst 0, 1) := by decide +kernel
theorem dX10_isSound_3 : decode cX10_isSound 3 = .ok (.ldc2_w 93, 3) := by decide +kernel
theorem dX10_isSound_6 : decode cX10_isSound 6 = .ok (.invokestatic 89, 3) := by decide +kernel
theorem dX10_isSound_9 : decode cX10_isSound 9 = .ok (.ireturn, 1) := by decide +kernel
theorem dX10_lays_0 : decode cX10_lays 0 = .ok (.bipush 6, 2) := by decide +kernel
theorem dX10_lays_2 : decode cX10_lays 2 = .ok (.aload_n 0, 1) := by decide +kernel
theorem dX10_lays_3 : decode cX10_lays 3 = .ok (.getfield 86, 3) := by decide +kernel
theorem dX10_lays_6 : decode cX10_lays 6 = .ok (.imul, 1) := by decide +kernel
theorem dX10_lays_7 : decode cX10_lays 7 = .ok (.istore 7, 2) := by decide +kernel
theorem dX10_lays_9 : decode cX10_lays 9 = .ok (.aload_n 0, 1) := by decide +kernel
theorem dX10_lays_10 : decode cX10_lays 10 = .ok (.getfield 7, 3) := by decide +kernel
theorem dX10_lays_13 : decode cX10_lays 13 = .ok (.iload 7, 2) := by decide +kernel
theorem dX10_lays_15 : decode cX10_lays 15 = .ok (.iload_n 1, 1) := by decide +kernel
theorem dX10_lays_16 : decode cX10_lays 16 = .ok (.iastore, 1) := by decide +kernel
theorem dX10_lays_17 : decode cX10_lays 17 = .ok (.aload_n 0, 1) := by decide +kernel
theorem dX10_lays_18 : decode cX10_lays 18 = .ok (.getfield 7, 3) := by decide +kernel
theorem dX10_lays_21 : decode cX10_lays 21 = .ok (.iload 7, 2) := by decide +kernel
theorem dX10_lays_23 : decode cX10_lays 23 = .ok (.iconst 1, 1) := by decide +kernel
theorem dX10_lays_24 : decode cX10_lays 24 = .ok (.iadd, 1) := by decide +kernel
theorem dX10_lays_25 : decode cX10_lays 25 = .ok (.iload_n 2, 1) := by decide +kernel
theorem dX10_lays_26 : decode cX10_lays 26 = .ok (.iastore, 1) := by decide +kernel
theorem dX10_lays_27 : decode cX10_lays 27 = .ok (.aload_n 0, 1) := by decide +kernel
theorem dX10_lays_28 : decode cX10_lays 28 = .ok (.getfield 7, 3) := by decide +kernel
theorem dX10_lays_31 : decode cX10_lays 31 = .ok (.iload 7, 2) := by decide +kernel
theorem dX10_lays_33 : decode cX10_lays 33 = .ok (.iconst 2, 1) := by decide +kernel
theorem dX10_lays_34 : decode cX10_lays 34 = .ok (.iadd, 1) := by decide +kernel
theorem dX10_lays_35 : decode cX10_lays 35 = .ok (.iload_n 3, 1) := by decide +kernel
theorem dX10_lays_36 : decode cX10_lays 36 = .ok (.iastore, 1) := by decide +kernel
theorem dX10_lays_37 : decode cX10_lays 37 = .ok (.aload_n 0, 1) := by decide +kernel
theorem dX10_lays_38 : decode cX10_lays 38 = .ok (.getfield 7, 3) := by decide +kernel
theorem dX10_lays_41 : decode cX10_lays 41 = .ok (.iload 7, 2) := by decide +kernel
theorem dX10_lays_43 : decode cX10_lays 43 = .ok (.iconst 3, 1) := by decide +kernel
theorem dX10_lays_44 : decode cX10_lays 44 = .ok (.iadd, 1) := by decide +kernel
theorem dX10_lays_45 : decode cX10_lays 45 = .ok (.iload 4, 2) := by decide +kernel
theorem dX10_lays_47 : decode cX10_lays 47 = .ok (.iastore, 1) := by decide +kernel
theorem dX10_lays_48 : decode cX10_lays 48 = .ok (.aload_n 0, 1) := by decide +kernel
theorem dX10_lays_49 : decode cX10_lays 49 = .ok (.getfield 7, 3) := by decide +kernel
theorem dX10_lays_52 : decode cX10_lays 52 = .ok (.iload 7, 2) := by decide +kernel
theorem dX10_lays_54 : decode cX10_lays 54 = .ok (.iconst 4, 1) := by decide +kernel
theorem dX10_lays_55 : decode cX10_lays 55 = .ok (.iadd, 1) := by decide +kernel
theorem dX10_lays_56 : decode cX10_lays 56 = .ok (.iload 5, 2) := by decide +kernel
theorem dX10_lays_58 : decode cX10_lays 58 = .ok (.iastore, 1) := by decide +kernel
theorem dX10_lays_59 : decode cX10_lays 59 = .ok (.aload_n 0, 1) := by decide +kernel
theorem dX10_lays_60 : decode cX10_lays 60 = .ok (.getfield 7, 3) := by decide +kernel
theorem dX10_lays_63 : decode cX10_lays 63 = .ok (.iload 7, 2) := by decide +kernel
theorem dX10_lays_65 : decode cX10_lays 65 = .ok (.iconst 5, 1) := by decide +kernel
theorem dX10_lays_66 : decode cX10_lays 66 = .ok (.iadd, 1) := by decide +kernel
theorem dX10_lays_67 : decode cX10_lays 67 = .ok (.iload 6, 2) := by decide +kernel
theorem dX10_lays_69 : decode cX10_lays 69 = .ok (.iastore, 1) := by decide +kernel
theorem dX10_lays_70 : decode cX10_lays 70 = .ok (.aload_n 0, 1) := by decide +kernel
theorem dX10_lays_71 : decode cX10_lays 71 = .ok (.dup, 1) := by decide +kernel
theorem dX10_lays_72 : decode cX10_lays 72 = .ok (.getfield 86, 3) := by decide +kernel
theorem dX10_lays_75 : decode cX10_lays 75 = .ok (.iconst 1, 1) := by decide +kernel
theorem dX10_lays_76 : decode cX10_lays 76 = .ok (.iadd, 1) := by decide +kernel
theorem dX10_lays_77 : decode cX10_lays 77 = .ok (.putfield 86, 3) := by decide +kernel
theorem dX10_lays_80 : decode cX10_lays 80 = .ok (.return_, 1) := by decide +kernel
theorem dX10_unit_0 : decode cX10_unit 0 = .ok (.iload_n 1, 1) := by decide +kernel
theorem dX10_unit_1 : decode cX10_unit 1 = .ok (.invokestatic 95, 3) := by decide +kernel
theorem dX10_unit_4 : decode cX10_unit 4 = .ok (.ifCond .eq 66, 3) := by decide +kernel
theorem dX10_unit_7 : decode cX10_unit 7 = .ok (.iload_n 2, 1) := by decide +kernel
theorem dX10_unit_8 : decode cX10_unit 8 = .ok (.i2l, 1) := by decide +kernel
theorem dX10_unit_9 : decode cX10_unit 9 = .ok (.lconst 0, 1) := by decide +kernel
theorem dX10_unit_10 : decode cX10_unit 10 = .ok (.ldc2_w 99, 3) := by decide +kernel
theorem dX10_unit_13 : decode cX10_unit 13 = .ok (.invokestatic 89, 3) := by decide +kernel
theorem dX10_unit_16 : decode cX10_unit 16 = .ok (.ifCond .eq 54, 3) := by decide +kernel
theorem dX10_unit_19 : decode cX10_unit 19 = .ok (.iload_n 3, 1) := by decide +kernel
theorem dX10_unit_20 : decode cX10_unit 20 = .ok (.i2l, 1) := by decide +kernel
theorem dX10_unit_21 : decode cX10_unit 21 = .ok (.lconst 0, 1) := by decide +kernel
theorem dX10_unit_22 : decode cX10_unit 22 = .ok (.ldc2_w 99, 3) := by decide +kernel
theorem dX10_unit_25 : decode cX10_unit 25 = .ok (.invokestatic 89, 3) := by decide +kernel
theorem dX10_unit_28 : decode cX10_unit 28 = .ok (.ifCond .eq 42, 3) := by decide +kernel
theorem dX10_unit_31 : decode cX10_unit 31 = .ok (.iload 4, 2) := by decide +kernel
theorem dX10_unit_33 : decode cX10_unit 33 = .ok (.i2l, 1) := by decide +kernel
theorem dX10_unit_34 : decode cX10_unit 34 = .ok (.lconst 0, 1) := by decide +kernel
theorem dX10_unit_35 : decode cX10_unit 35 = .ok (.ldc2_w 101, 3) := by decide +kernel
theorem dX10_unit_38 : decode cX10_unit 38 = .ok (.invokestatic 89, 3) := by decide +kernel
theorem dX10_unit_41 : decode cX10_unit 41 = .ok (.ifCond .eq 29, 3) := by decide +kernel
theorem dX10_unit_44 : decode cX10_unit 44 = .ok (.iload 5, 2) := by decide +kernel
theorem dX10_unit_46 : decode cX10_unit 46 = .ok (.i2l, 1) := by decide +kernel
theorem dX10_unit_47 : decode cX10_unit 47 = .ok (.lconst 1, 1) := by decide +kernel
theorem dX10_unit_48 : decode cX10_unit 48 = .ok (.ldc2_w 101, 3) := by decide +kernel
theorem dX10_unit_51 : decode cX10_unit 51 = .ok (.invokestatic 89, 3) := by decide +kernel
theorem dX10_unit_54 : decode cX10_unit 54 = .ok (.ifCond .eq 16, 3) := by decide +kernel
theorem dX10_unit_57 : decode cX10_unit 57 = .ok (.iload 6, 2) := by decide +kernel
theorem dX10_unit_59 : decode cX10_unit 59 = .ok (.i2l, 1) := by decide +kernel
theorem dX10_unit_60 : decode cX10_unit 60 = .ok (.lconst 0, 1) := by decide +kernel
theorem dX10_unit_61 : decode cX10_unit 61 = .ok (.ldc2_w 103, 3) := by decide +kernel
theorem dX10_unit_64 : decode cX10_unit 64 = .ok (.invokestatic 89, 3) := by decide +kernel
theorem dX10_unit_67 : decode cX10_unit 67 = .ok (.ifCond .ne 10, 3) := by decide +kernel
theorem dX10_unit_70 : decode cX10_unit 70 = .ok (.aload_n 0, 1) := by decide +kernel
theorem dX10_unit_71 : decode cX10_unit 71 = .ok (.bipush (-2), 2) := by decide +kernel
theorem dX10_unit_73 : decode cX10_unit 73 = .ok (.invokevirtual 105, 3) := by decide +kernel
theorem dX10_unit_76 : decode cX10_unit 76 = .ok (.ireturn, 1) := by decide +kernel
theorem dX10_unit_77 : decode cX10_unit 77 = .ok (.aload_n 0, 1) := by decide +kernel
theorem dX10_unit_78 : decode cX10_unit 78 = .ok (.getfield 86, 3) := by decide +kernel
theorem dX10_unit_81 : decode cX10_unit 81 = .ok (.bipush 40, 2) := by decide +kernel
theorem dX10_unit_83 : decode cX10_unit 83 = .ok (.if_icmp .ne 8, 3) := by decide +kernel
theorem dX10_unit_86 : decode cX10_unit 86 = .ok (.aload_n 0, 1) := by decide +kernel
theorem dX10_unit_87 : decode cX10_unit 87 = .ok (.invokevirtual 109, 3) := by decide +kernel
theorem dX10_unit_90 : decode cX10_unit 90 = .ok (.ireturn, 1) := by decide +kernel
theorem dX10_unit_91 : decode cX10_unit 91 = .ok (.aload_n 0, 1) := by decide +kernel
theorem dX10_unit_92 : decode cX10_unit 92 = .ok (.iload_n 1, 1) := by decide +kernel
theorem dX10_unit_93 : decode cX10_unit 93 = .ok (.iload_n 2, 1) := by decide +kernel
theorem dX10_unit_94 : decode cX10_unit 94 = .ok (.iload_n 3, 1) := by decide +kernel
theorem dX10_unit_95 : decode cX10_unit 95 = .ok (.iload 4, 2) := by decide +kernel
theorem dX10_unit_97 : decode cX10_unit 97 = .ok (.iload 5, 2) := by decide +kernel
theorem dX10_unit_99 : decode cX10_unit 99 = .ok (.iload 6, 2) := by decide +kernel
theorem dX10_unit_101 : decode cX10_unit 101 = .ok (.invokevirtual 113, 3) := by decide +kernel
theorem dX10_unit_104 : decode cX10_unit 104 = .ok (.aload_n 0, 1) := by decide +kernel
theorem dX10_unit_105 : decode cX10_unit 105 = .ok (.getfield 86, 3) := by decide +kernel
theorem dX10_unit_108 : decode cX10_unit 108 = .ok (.iconst 1, 1) := by decide +kernel
theorem dX10_unit_109 : decode cX10_unit 109 = .ok (.isub, 1) := by decide +kernel
theorem dX10_unit_110 : decode cX10_unit 110 = .ok (.ireturn, 1) := by decide +kernel
theorem dX10_records_0 : decode cX10_records 0 = .ok (.iload_n 1, 1) := by decide +kernel
theorem dX10_records_1 : decode cX10_records 1 = .ok (.i2l, 1) := by decide +kernel
theorem dX10_records_2 : decode cX10_records 2 = .ok (.lconst 0, 1) := by decide +kernel
theorem dX10_records_3 : decode cX10_records 3 = .ok (.ldc2_w 117, 3) := by decide +kernel
theorem dX10_records_6 : decode cX10_records 6 = .ok (.invokestatic 89, 3) := by decide +kernel
theorem dX10_records_9 : decode cX10_records 9 = .ok (.ifCond .eq 27, 3) := by decide +kernel
theorem dX10_records_12 : decode cX10_records 12 = .ok (.iload_n 2, 1) := by decide +kernel
theorem dX10_records_13 : decode cX10_records 13 = .ok (.i2l, 1) := by decide +kernel
theorem dX10_records_14 : decode cX10_records 14 = .ok (.lconst 1, 1) := by decide +kernel
theorem dX10_records_15 : decode cX10_records 15 = .ok (.ldc2_w 101, 3) := by decide +kernel
theorem dX10_records_18 : decode cX10_records 18 = .ok (.invokestatic 89, 3) := by decide +kernel
theorem dX10_records_21 : decode cX10_records 21 = .ok (.ifCond .eq 15, 3) := by decide +kernel
theorem dX10_records_24 : decode cX10_records 24 = .ok (.iload_n 3, 1) := by decide +kernel
theorem dX10_records_25 : decode cX10_records 25 = .ok (.i2l, 1) := by decide +kernel
theorem dX10_records_26 : decode cX10_records 26 = .ok (.lconst 0, 1) := by decide +kernel
theorem dX10_records_27 : decode cX10_records 27 = .ok (.ldc2_w 103, 3) := by decide +kernel
theorem dX10_records_30 : decode cX10_records 30 = .ok (.invokestatic 89, 3) := by decide +kernel
theorem dX10_records_33 : decode cX10_records 33 = .ok (.ifCond .ne 10, 3) := by decide +kernel
theorem dX10_records_36 : decode cX10_records 36 = .ok (.aload_n 0, 1) := by decide +kernel
theorem dX10_records_37 : decode cX10_records 37 = .ok (.bipush (-2), 2) := by decide +kernel
theorem dX10_records_39 : decode cX10_records 39 = .ok (.invokevirtual 105, 3) := by decide +kernel
theorem dX10_records_42 : decode cX10_records 42 = .ok (.ireturn, 1) := by decide +kernel
theorem dX10_records_43 : decode cX10_records 43 = .ok (.aload_n 0, 1) := by decide +kernel
theorem dX10_records_44 : decode cX10_records 44 = .ok (.getfield 86, 3) := by decide +kernel
theorem dX10_records_47 : decode cX10_records 47 = .ok (.iload_n 2, 1) := by decide +kernel
theorem dX10_records_48 : decode cX10_records 48 = .ok (.iadd, 1) := by decide +kernel
theorem dX10_records_49 : decode cX10_records 49 = .ok (.bipush 40, 2) := by decide +kernel
theorem dX10_records_51 : decode cX10_records 51 = .ok (.if_icmp .le 8, 3) := by decide +kernel
theorem dX10_records_54 : decode cX10_records 54 = .ok (.aload_n 0, 1) := by decide +kernel
theorem dX10_records_55 : decode cX10_records 55 = .ok (.invokevirtual 109, 3) := by decide +kernel
theorem dX10_records_58 : decode cX10_records 58 = .ok (.ireturn, 1) := by decide +kernel
theorem dX10_records_59 : decode cX10_records 59 = .ok (.iload_n 1, 1) := by decide +kernel
theorem dX10_records_60 : decode cX10_records 60 = .ok (.i2l, 1) := by decide +kernel
theorem dX10_records_61 : decode cX10_records 61 = .ok (.lstore 4, 2) := by decide +kernel
theorem dX10_records_63 : decode cX10_records 63 = .ok (.aload_n 0, 1) := by decide +kernel
theorem dX10_records_64 : decode cX10_records 64 = .ok (.getfield 86, 3) := by decide +kernel
theorem dX10_records_67 : decode cX10_records 67 = .ok (.istore 6, 2) := by decide +kernel
theorem dX10_records_69 : decode cX10_records 69 = .ok (.iconst 0, 1) := by decide +kernel
theorem dX10_records_70 : decode cX10_records 70 = .ok (.istore 7, 2) := by decide +kernel
theorem dX10_records_72 : decode cX10_records 72 = .ok (.iload 7, 2) := by decide +kernel
theorem dX10_records_74 : decode cX10_records 74 = .ok (.iload_n 2, 1) := by decide +kernel
theorem dX10_records_75 : decode cX10_records 75 = .ok (.if_icmp .ge 92, 3) := by decide +kernel
theorem dX10_records_78 : decode cX10_records 78 = .ok (.lload 4, 2) := by decide +kernel
theorem dX10_records_80 : decode cX10_records 80 = .ok (.ldc2_w 119, 3) := by decide +kernel
theorem dX10_records_83 : decode cX10_records 83 = .ok (.lmul, 1) := by decide +kernel
theorem dX10_records_84 : decode cX10_records 84 = .ok (.ldc2_w 121, 3) := by decide +kernel
theorem dX10_records_87 : decode cX10_records 87 = .ok (.ladd, 1) := by decide +kernel
theorem dX10_records_88 : decode cX10_records 88 = .ok (.ldc2_w 123, 3) := by decide +kernel
theorem dX10_records_91 : decode cX10_records 91 = .ok (.lrem, 1) := by decide +kernel
theorem dX10_records_92 : decode cX10_records 92 = .ok (.lstore 4, 2) := by decide +kernel
theorem dX10_records_94 : decode cX10_records 94 = .ok (.iload 7, 2) := by decide +kernel
theorem dX10_records_96 : decode cX10_records 96 = .ok (.ifCond .ne 8, 3) := by decide +kernel
theorem dX10_records_99 : decode cX10_records 99 = .ok (.bipush 6, 2) := by decide +kernel
theorem dX10_records_101 : decode cX10_records 101 = .ok (.goto 14, 3) := by decide +kernel
theorem dX10_records_104 : decode cX10_records 104 = .ok (.aload_n 0, 1) := by decide +kernel
theorem dX10_records_105 : decode cX10_records 105 = .ok (.aload_n 0, 1) := by decide +kernel
theorem dX10_records_106 : decode cX10_records 106 = .ok (.getfield 86, 3) := by decide +kernel
theorem dX10_records_109 : decode cX10_records 109 = .ok (.iconst 1, 1) := by decide +kernel
theorem dX10_records_110 : decode cX10_records 110 = .ok (.isub, 1) := by decide +kernel
theorem dX10_records_111 : decode cX10_records 111 = .ok (.iconst 0, 1) := by decide +kernel
theorem dX10_records_112 : decode cX10_records 112 = .ok (.invokevirtual 125, 3) := by decide +kernel
theorem dX10_records_115 : decode cX10_records 115 = .ok (.istore 8, 2) := by decide +kernel
theorem dX10_records_117 : decode cX10_records 117 = .ok (.aload_n 0, 1) := by decide +kernel
theorem dX10_records_118 : decode cX10_records 118 = .ok (.lload 4, 2) := by decide +kernel
theorem dX10_records_120 : decode cX10_records 120 = .ok (.ldc2_w 129, 3) := by decide +kernel
theorem dX10_records_123 : decode cX10_records 123 = .ok (.ldiv, 1) := by decide +kernel
theorem dX10_records_124 : decode cX10_records 124 = .ok (.ldc2_w 99, 3) := by decide +kernel
theorem dX10_records_127 : decode cX10_records 127 = .ok (.lrem, 1) := by decide +kernel
theorem dX10_records_128 : decode cX10_records 128 = .ok (.l2i, 1) := by decide +kernel
theorem dX10_records_129 : decode cX10_records 129 = .ok (.iload 8, 2) := by decide +kernel
theorem dX10_records_131 : decode cX10_records 131 = .ok (.bipush 6, 2) := by decide +kernel
theorem dX10_records_133 : decode cX10_records 133 = .ok (.lload 4, 2) := by decide +kernel
theorem dX10_records_135 : decode cX10_records 135 = .ok (.ldc2_w 131, 3) := by decide +kernel
theorem dX10_records_138 : decode cX10_records 138 = .ok (.ldiv, 1) := by decide +kernel
theorem dX10_records_139 : decode cX10_records 139 = .ok (.ldc2_w 133, 3) := by decide +kernel
theorem dX10_records_142 : decode cX10_records 142 = .ok (.lrem, 1) := by decide +kernel
theorem dX10_records_143 : decode cX10_records 143 = .ok (.l2i, 1) := by decide +kernel
theorem dX10_records_144 : decode cX10_records 144 = .ok (.lload 4, 2) := by decide +kernel
theorem dX10_records_146 : decode cX10_records 146 = .ok (.ldc2_w 135, 3) := by decide +kernel
theorem dX10_records_149 : decode cX10_records 149 = .ok (.ldiv, 1) := by decide +kernel
theorem dX10_records_150 : decode cX10_records 150 = .ok (.ldc2_w 101, 3) := by decide +kernel
theorem dX10_records_153 : decode cX10_records 153 = .ok (.lrem, 1) := by decide +kernel
theorem dX10_records_154 : decode cX10_records 154 = .ok (.l2i, 1) := by decide +kernel
theorem dX10_records_155 : decode cX10_records 155 = .ok (.iconst 1, 1) := by decide +kernel
theorem dX10_records_156 : decode cX10_records 156 = .ok (.iadd, 1) := by decide +kernel
theorem dX10_records_157 : decode cX10_records 157 = .ok (.iload_n 3, 1) := by decide +kernel
theorem dX10_records_158 : decode cX10_records 158 = .ok (.invokevirtual 113, 3) := by decide +kernel
theorem dX10_records_161 : decode cX10_records 161 = .ok (.iinc 7 1, 3) := by decide +kernel
theorem dX10_records_164 : decode cX10_records 164 = .ok (.goto (-92), 3) := by decide +kernel
theorem dX10_records_167 : decode cX10_records 167 = .ok (.iload 6, 2) := by decide +kernel
theorem dX10_records_169 : decode cX10_records 169 = .ok (.istore 7, 2) := by decide +kernel
theorem dX10_records_171 : decode cX10_records 171 = .ok (.iload 7, 2) := by decide +kernel
theorem dX10_records_173 : decode cX10_records 173 = .ok (.iconst 1, 1) := by decide +kernel
theorem dX10_records_174 : decode cX10_records 174 = .ok (.iadd, 1) := by decide +kernel
theorem dX10_records_175 : decode cX10_records 175 = .ok (.aload_n 0, 1) := by decide +kernel
theorem dX10_records_176 : decode cX10_records 176 = .ok (.getfield 86, 3) := by decide +kernel
theorem dX10_records_179 : decode cX10_records 179 = .ok (.if_icmp .ge 30, 3) := by decide +kernel
theorem dX10_records_182 : decode cX10_records 182 = .ok (.aload_n 0, 1) := by decide +kernel
theorem dX10_records_183 : decode cX10_records 183 = .ok (.getfield 7, 3) := by decide +kernel
theorem dX10_records_186 : decode cX10_records 186 = .ok (.bipush 6, 2) := by decide +kernel
theorem dX10_records_188 : decode cX10_records 188 = .ok (.iload 7, 2) := by decide +kernel
theorem dX10_records_190 : decode cX10_records 190 = .ok (.imul, 1) := by decide +kernel
theorem dX10_records_191 : decode cX10_records 191 = .ok (.iconst 2, 1) := by decide +kernel
theorem dX10_records_192 : decode cX10_records 192 = .ok (.iadd, 1) := by decide +kernel
theorem dX10_records_193 : decode cX10_records 193 = .ok (.aload_n 0, 1) := by decide +kernel
theorem dX10_records_194 : decode cX10_records 194 = .ok (.iload 7, 2) := by decide +kernel
theorem dX10_records_196 : decode cX10_records 196 = .ok (.iconst 1, 1) := by decide +kernel
theorem dX10_records_197 : decode cX10_records 197 = .ok (.iadd, 1) := by decide +kernel
theorem dX10_records_198 : decode cX10_records 198 = .ok (.iconst 0, 1) := by decide +kernel
theorem dX10_records_199 : decode cX10_records 199 = .ok (.invokevirtual 125, 3) := by decide +kernel
theorem dX10_records_202 : decode cX10_records 202 = .ok (.iastore, 1) := by decide +kernel
theorem dX10_records_203 : decode cX10_records 203 = .ok (.iinc 7 1, 3) := by decide +kernel
theorem dX10_records_206 : decode cX10_records 206 = .ok (.goto (-35), 3) := by decide +kernel
theorem dX10_records_209 : decode cX10_records 209 = .ok (.aload_n 0, 1) := by decide +kernel
theorem dX10_records_210 : decode cX10_records 210 = .ok (.getfield 86, 3) := by decide +kernel
theorem dX10_records_213 : decode cX10_records 213 = .ok (.ireturn, 1) := by decide +kernel
theorem dX10_nextOf_0 : decode cX10_nextOf 0 = .ok (.iload_n 1, 1) := by decide +kernel
theorem dX10_nextOf_1 : decode cX10_nextOf 1 = .ok (.iconst 1, 1) := by decide +kernel
theorem dX10_nextOf_2 : decode cX10_nextOf 2 = .ok (.iadd, 1) := by decide +kernel
theorem dX10_nextOf_3 : decode cX10_nextOf 3 = .ok (.istore_n 2, 1) := by decide +kernel
theorem dX10_nextOf_4 : decode cX10_nextOf 4 = .ok (.iload_n 2, 1) := by decide +kernel
theorem dX10_nextOf_5 : decode cX10_nextOf 5 = .ok (.aload_n 0, 1) := by decide +kernel
theorem dX10_nextOf_6 : decode cX10_nextOf 6 = .ok (.getfield 86, 3) := by decide +kernel
theorem dX10_nextOf_9 : decode cX10_nextOf 9 = .ok (.if_icmp .ge 26, 3) := by decide +kernel
theorem dX10_nextOf_12 : decode cX10_nextOf 12 = .ok (.aload_n 0, 1) := by decide +kernel
theorem dX10_nextOf_13 : decode cX10_nextOf 13 = .ok (.iload_n 2, 1) := by decide +kernel
theorem dX10_nextOf_14 : decode cX10_nextOf 14 = .ok (.iconst 5, 1) := by decide +kernel
theorem dX10_nextOf_15 : decode cX10_nextOf 15 = .ok (.invokevirtual 125, 3) := by decide +kernel
theorem dX10_nextOf_18 : decode cX10_nextOf 18 = .ok (.aload_n 0, 1) := by decide +kernel
theorem dX10_nextOf_19 : decode cX10_nextOf 19 = .ok (.iload_n 1, 1) := by decide +kernel
theorem dX10_nextOf_20 : decode cX10_nextOf 20 = .ok (.iconst 5, 1) := by decide +kernel
theorem dX10_nextOf_21 : decode cX10_nextOf 21 = .ok (.invokevirtual 125, 3) := by decide +kernel
theorem dX10_nextOf_24 : decode cX10_nextOf 24 = .ok (.if_icmp .ne 5, 3) := by decide +kernel
theorem dX10_nextOf_27 : decode cX10_nextOf 27 = .ok (.iload_n 2, 1) := by decide +kernel
theorem dX10_nextOf_28 : decode cX10_nextOf 28 = .ok (.ireturn, 1) := by decide +kernel
theorem dX10_nextOf_29 : decode cX10_nextOf 29 = .ok (.iinc 2 1, 3) := by decide +kernel
theorem dX10_nextOf_32 : decode cX10_nextOf 32 = .ok (.goto (-28), 3) := by decide +kernel
theorem dX10_nextOf_35 : decode cX10_nextOf 35 = .ok (.iconst (-1), 1) := by decide +kernel
theorem dX10_nextOf_36 : decode cX10_nextOf 36 = .ok (.ireturn, 1) := by decide +kernel
theorem dX10_of_0 : decode cX10_of 0 = .ok (.aload_n 0, 1) := by decide +kernel
theorem dX10_of_1 : decode cX10_of 1 = .ok (.iload_n 1, 1) := by decide +kernel
theorem dX10_of_2 : decode cX10_of 2 = .ok (.invokevirtual 137, 3) := by decide +kernel
theorem dX10_of_5 : decode cX10_of 5 = .ok (.ifCond .eq 15, 3) := by decide +kernel
theorem dX10_of_8 : decode cX10_of 8 = .ok (.iload_n 2, 1) := by decide +kernel
theorem dX10_of_9 : decode cX10_of 9 = .ok (.i2l, 1) := by decide +kernel
theorem dX10_of_10 : decode cX10_of 10 = .ok (.lconst 0, 1) := by decide +kernel
theorem dX10_of_11 : decode cX10_of 11 = .ok (.ldc2_w 99, 3) := by decide +kernel
theorem dX10_of_14 : decode cX10_of 14 = .ok (.invokestatic 89, 3) := by decide +kernel
theorem dX10_of_17 : decode cX10_of 17 = .ok (.ifCond .ne 10, 3) := by decide +kernel
theorem dX10_of_20 : decode cX10_of 20 = .ok (.aload_n 0, 1) := by decide +kernel
theorem dX10_of_21 : decode cX10_of 21 = .ok (.bipush (-2), 2) := by decide +kernel
theorem dX10_of_23 : decode cX10_of 23 = .ok (.invokevirtual 105, 3) := by decide +kernel
theorem dX10_of_26 : decode cX10_of 26 = .ok (.ireturn, 1) := by decide +kernel
theorem dX10_of_27 : decode cX10_of 27 = .ok (.iload_n 2, 1) := by decide +kernel
theorem dX10_of_28 : decode cX10_of 28 = .ok (.bipush 6, 2) := by decide +kernel
theorem dX10_of_30 : decode cX10_of 30 = .ok (.if_icmp .ne 11, 3) := by decide +kernel
theorem dX10_of_33 : decode cX10_of 33 = .ok (.aload_n 0, 1) := by decide +kernel
theorem dX10_of_34 : decode cX10_of 34 = .ok (.iload_n 1, 1) := by decide +kernel
theorem dX10_of_35 : decode cX10_of 35 = .ok (.invokevirtual 140, 3) := by decide +kernel
theorem dX10_of_38 : decode cX10_of 38 = .ok (.goto 9, 3) := by decide +kernel
theorem dX10_of_41 : decode cX10_of 41 = .ok (.aload_n 0, 1) := by decide +kernel
theorem dX10_of_42 : decode cX10_of 42 = .ok (.iload_n 1, 1) := by decide +kernel
theorem dX10_of_43 : decode cX10_of 43 = .ok (.iload_n 2, 1) := by decide +kernel
theorem dX10_of_44 : decode cX10_of 44 = .ok (.invokevirtual 125, 3) := by decide +kernel
theorem dX10_of_47 : decode cX10_of 47 = .ok (.ireturn, 1) := by decide +kernel
theorem dX10_empties_0 : decode cX10_empties 0 = .ok (.aload_n 0, 1) := by decide +kernel
theorem dX10_empties_1 : decode cX10_empties 1 = .ok (.getfield 86, 3) := by decide +kernel
theorem dX10_empties_4 : decode cX10_empties 4 = .ok (.istore_n 1, 1) := by decide +kernel
theorem dX10_empties_5 : decode cX10_empties 5 = .ok (.aload_n 0, 1) := by decide +kernel
theorem dX10_empties_6 : decode cX10_empties 6 = .ok (.iconst 0, 1) := by decide +kernel
theorem dX10_empties_7 : decode cX10_empties 7 = .ok (.putfield 86, 3) := by decide +kernel
theorem dX10_empties_10 : decode cX10_empties 10 = .ok (.iload_n 1, 1) := by decide +kernel
theorem dX10_empties_11 : decode cX10_empties 11 = .ok (.ireturn, 1) := by decide +kernel
theorem dX10_other_0 : decode cX10_other 0 = .ok (.iload_n 1, 1) := by decide +kernel
theorem dX10_other_1 : decode cX10_other 1 = .ok (.invokestatic 95, 3) := by decide +kernel
theorem dX10_other_4 : decode cX10_other 4 = .ok (.ifCond .eq 10, 3) := by decide +kernel
theorem dX10_other_7 : decode cX10_other 7 = .ok (.iload_n 2, 1) := by decide +kernel
theorem dX10_other_8 : decode cX10_other 8 = .ok (.invokestatic 95, 3) := by decide +kernel
theorem dX10_other_11 : decode cX10_other 11 = .ok (.ifCond .ne 10, 3) := by decide +kernel
theorem dX10_other_14 : decode cX10_other 14 = .ok (.aload_n 0, 1) := by decide +kernel
theorem dX10_other_15 : decode cX10_other 15 = .ok (.bipush (-2), 2) := by decide +kernel
theorem dX10_other_17 : decode cX10_other 17 = .ok (.invokevirtual 105, 3) := by decide +kernel
theorem dX10_other_20 : decode cX10_other 20 = .ok (.ireturn, 1) := by decide +kernel
theorem dX10_other_21 : decode cX10_other 21 = .ok (.aload_n 0, 1) := by decide +kernel
theorem dX10_other_22 : decode cX10_other 22 = .ok (.getfield 16, 3) := by decide +kernel
theorem dX10_other_25 : decode cX10_other 25 = .ok (.iload_n 1, 1) := by decide +kernel
theorem dX10_other_26 : decode cX10_other 26 = .ok (.iaload, 1) := by decide +kernel
theorem dX10_other_27 : decode cX10_other 27 = .ok (.istore_n 3, 1) := by decide +kernel
theorem dX10_other_28 : decode cX10_other 28 = .ok (.aload_n 0, 1) := by decide +kernel
theorem dX10_other_29 : decode cX10_other 29 = .ok (.getfield 16, 3) := by decide +kernel
theorem dX10_other_32 : decode cX10_other 32 = .ok (.iload_n 1, 1) := by decide +kernel
theorem dX10_other_33 : decode cX10_other 33 = .ok (.iload_n 2, 1) := by decide +kernel
theorem dX10_other_34 : decode cX10_other 34 = .ok (.iastore, 1) := by decide +kernel
theorem dX10_other_35 : decode cX10_other 35 = .ok (.iload_n 3, 1) := by decide +kernel
theorem dX10_other_36 : decode cX10_other 36 = .ok (.ireturn, 1) := by decide +kernel
theorem dX10_fitter_0 : decode cX10_fitter 0 = .ok (.iload_n 1, 1) := by decide +kernel
theorem dX10_fitter_1 : decode cX10_fitter 1 = .ok (.i2l, 1) := by decide +kernel
theorem dX10_fitter_2 : decode cX10_fitter 2 = .ok (.lconst 0, 1) := by decide +kernel
theorem dX10_fitter_3 : decode cX10_fitter 3 = .ok (.ldc2_w 143, 3) := by decide +kernel
theorem dX10_fitter_6 : decode cX10_fitter 6 = .ok (.invokestatic 89, 3) := by decide +kernel
theorem dX10_fitter_9 : decode cX10_fitter 9 = .ok (.ifCond .ne 10, 3) := by decide +kernel
theorem dX10_fitter_12 : decode cX10_fitter 12 = .ok (.aload_n 0, 1) := by decide +kernel
theorem dX10_fitter_13 : decode cX10_fitter 13 = .ok (.bipush (-2), 2) := by decide +kernel
theorem dX10_fitter_15 : decode cX10_fitter 15 = .ok (.invokevirtual 105, 3) := by decide +kernel
theorem dX10_fitter_18 : decode cX10_fitter 18 = .ok (.ireturn, 1) := by decide +kernel
theorem dX10_fitter_19 : decode cX10_fitter 19 = .ok (.aload_n 0, 1) := by decide +kernel
theorem dX10_fitter_20 : decode cX10_fitter 20 = .ok (.getfield 145, 3) := by decide +kernel
theorem dX10_fitter_23 : decode cX10_fitter 23 = .ok (.istore_n 2, 1) := by decide +kernel
theorem dX10_fitter_24 : decode cX10_fitter 24 = .ok (.aload_n 0, 1) := by decide +kernel
theorem dX10_fitter_25 : decode cX10_fitter 25 = .ok (.iload_n 1, 1) := by decide +kernel
theorem dX10_fitter_26 : decode cX10_fitter 26 = .ok (.putfield 145, 3) := by decide +kernel
theorem dX10_fitter_29 : decode cX10_fitter 29 = .ok (.iload_n 2, 1) := by decide +kernel
theorem dX10_fitter_30 : decode cX10_fitter 30 = .ok (.ireturn, 1) := by decide +kernel
theorem dX10_type_0 : decode cX10_type 0 = .ok (.iload_n 1, 1) := by decide +kernel
theorem dX10_type_1 : decode cX10_type 1 = .ok (.i2l, 1) := by decide +kernel
theorem dX10_type_2 : decode cX10_type 2 = .ok (.lconst 0, 1) := by decide +kernel
theorem dX10_type_3 : decode cX10_type 3 = .ok (.ldc2_w 148, 3) := by decide +kernel
theorem dX10_type_6 : decode cX10_type 6 = .ok (.invokestatic 89, 3) := by decide +kernel
theorem dX10_type_9 : decode cX10_type 9 = .ok (.ifCond .ne 10, 3) := by decide +kernel
theorem dX10_type_12 : decode cX10_type 12 = .ok (.aload_n 0, 1) := by decide +kernel
theorem dX10_type_13 : decode cX10_type 13 = .ok (.bipush (-2), 2) := by decide +kernel
theorem dX10_type_15 : decode cX10_type 15 = .ok (.invokevirtual 105, 3) := by decide +kernel
theorem dX10_type_18 : decode cX10_type 18 = .ok (.ireturn, 1) := by decide +kernel
theorem dX10_type_19 : decode cX10_type 19 = .ok (.aload_n 0, 1) := by decide +kernel
theorem dX10_type_20 : decode cX10_type 20 = .ok (.getfield 150, 3) := by decide +kernel
theorem dX10_type_23 : decode cX10_type 23 = .ok (.bipush 120, 2) := by decide +kernel
theorem dX10_type_25 : decode cX10_type 25 = .ok (.if_icmp .ne 8, 3) := by decide +kernel
theorem dX10_type_28 : decode cX10_type 28 = .ok (.aload_n 0, 1) := by decide +kernel
theorem dX10_type_29 : decode cX10_type 29 = .ok (.invokevirtual 109, 3) := by decide +kernel
theorem dX10_type_32 : decode cX10_type 32 = .ok (.ireturn, 1) := by decide +kernel
theorem dX10_type_33 : decode cX10_type 33 = .ok (.aload_n 0, 1) := by decide +kernel
theorem dX10_type_34 : decode cX10_type 34 = .ok (.getfield 38, 3) := by decide +kernel
theorem dX10_type_37 : decode cX10_type 37 = .ok (.aload_n 0, 1) := by decide +kernel
theorem dX10_type_38 : decode cX10_type 38 = .ok (.getfield 150, 3) := by decide +kernel
theorem dX10_type_41 : decode cX10_type 41 = .ok (.iload_n 1, 1) := by decide +kernel
theorem dX10_type_42 : decode cX10_type 42 = .ok (.iastore, 1) := by decide +kernel
theorem dX10_type_43 : decode cX10_type 43 = .ok (.aload_n 0, 1) := by decide +kernel
theorem dX10_type_44 : decode cX10_type 44 = .ok (.dup, 1) := by decide +kernel
theorem dX10_type_45 : decode cX10_type 45 = .ok (.getfield 150, 3) := by decide +kernel
theorem dX10_type_48 : decode cX10_type 48 = .ok (.iconst 1, 1) := by decide +kernel
theorem dX10_type_49 : decode cX10_type 49 = .ok (.iadd, 1) := by decide +kernel
theorem dX10_type_50 : decode cX10_type 50 = .ok (.putfield 150, 3) := by decide +kernel
theorem dX10_type_53 : decode cX10_type 53 = .ok (.aload_n 0, 1) := by decide +kernel
theorem dX10_type_54 : decode cX10_type 54 = .ok (.getfield 150, 3) := by decide +kernel
theorem dX10_type_57 : decode cX10_type 57 = .ok (.ireturn, 1) := by decide +kernel
theorem dX10_clear_0 : decode cX10_clear 0 = .ok (.aload_n 0, 1) := by decide +kernel
theorem dX10_clear_1 : decode cX10_clear 1 = .ok (.getfield 150, 3) := by decide +kernel
theorem dX10_clear_4 : decode cX10_clear 4 = .ok (.istore_n 1, 1) := by decide +kernel
theorem dX10_clear_5 : decode cX10_clear 5 = .ok (.aload_n 0, 1) := by decide +kernel
theorem dX10_clear_6 : decode cX10_clear 6 = .ok (.iconst 0, 1) := by decide +kernel
theorem dX10_clear_7 : decode cX10_clear 7 = .ok (.putfield 150, 3) := by decide +kernel
theorem dX10_clear_10 : decode cX10_clear 10 = .ok (.iload_n 1, 1) := by decide +kernel
theorem dX10_clear_11 : decode cX10_clear 11 = .ok (.ireturn, 1) := by decide +kernel
theorem dX10_here_0 : decode cX10_here 0 = .ok (.aload_n 0, 1) := by decide +kernel
theorem dX10_here_1 : decode cX10_here 1 = .ok (.getfield 153, 3) := by decide +kernel
theorem dX10_here_4 : decode cX10_here 4 = .ok (.aload_n 0, 1) := by decide +kernel
theorem dX10_here_5 : decode cX10_here 5 = .ok (.getfield 150, 3) := by decide +kernel
theorem dX10_here_8 : decode cX10_here 8 = .ok (.if_icmp .ge 30, 3) := by decide +kernel
theorem dX10_here_11 : decode cX10_here 11 = .ok (.aload_n 0, 1) := by decide +kernel
theorem dX10_here_12 : decode cX10_here 12 = .ok (.getfield 38, 3) := by decide +kernel
theorem dX10_here_15 : decode cX10_here 15 = .ok (.aload_n 0, 1) := by decide +kernel
theorem dX10_here_16 : decode cX10_here 16 = .ok (.getfield 153, 3) := by decide +kernel
theorem dX10_here_19 : decode cX10_here 19 = .ok (.iaload, 1) := by decide +kernel
theorem dX10_here_20 : decode cX10_here 20 = .ok (.bipush 32, 2) := by decide +kernel
theorem dX10_here_22 : decode cX10_here 22 = .ok (.if_icmp .ne 16, 3) := by decide +kernel
theorem dX10_here_25 : decode cX10_here 25 = .ok (.aload_n 0, 1) := by decide +kernel
theorem dX10_here_26 : decode cX10_here 26 = .ok (.dup, 1) := by decide +kernel
theorem dX10_here_27 : decode cX10_here 27 = .ok (.getfield 153, 3) := by decide +kernel
theorem dX10_here_30 : decode cX10_here 30 = .ok (.iconst 1, 1) := by decide +kernel
theorem dX10_here_31 : decode cX10_here 31 = .ok (.iadd, 1) := by decide +kernel
theorem dX10_here_32 : decode cX10_here 32 = .ok (.putfield 153, 3) := by decide +kernel
theorem dX10_here_35 : decode cX10_here 35 = .ok (.goto (-35), 3) := by decide +kernel
theorem dX10_here_38 : decode cX10_here 38 = .ok (.aload_n 0, 1) := by decide +kernel
theorem dX10_here_39 : decode cX10_here 39 = .ok (.getfield 153, 3) := by decide +kernel
theorem dX10_here_42 : decode cX10_here 42 = .ok (.aload_n 0, 1) := by decide +kernel
theorem dX10_here_43 : decode cX10_here 43 = .ok (.getfield 150, 3) := by decide +kernel
theorem dX10_here_46 : decode cX10_here 46 = .ok (.if_icmp .ge 15, 3) := by decide +kernel
theorem dX10_here_49 : decode cX10_here 49 = .ok (.aload_n 0, 1) := by decide +kernel
theorem dX10_here_50 : decode cX10_here 50 = .ok (.getfield 38, 3) := by decide +kernel
theorem dX10_here_53 : decode cX10_here 53 = .ok (.aload_n 0, 1) := by decide +kernel
theorem dX10_here_54 : decode cX10_here 54 = .ok (.getfield 153, 3) := by decide +kernel
theorem dX10_here_57 : decode cX10_here 57 = .ok (.iaload, 1) := by decide +kernel
theorem dX10_here_58 : decode cX10_here 58 = .ok (.goto 4, 3) := by decide +kernel
theorem dX10_here_61 : decode cX10_here 61 = .ok (.iconst 0, 1) := by decide +kernel
theorem dX10_here_62 : decode cX10_here 62 = .ok (.ireturn, 1) := by decide +kernel
theorem dX10_takes_0 : decode cX10_takes 0 = .ok (.aload_n 0, 1) := by decide +kernel
theorem dX10_takes_1 : decode cX10_takes 1 = .ok (.invokevirtual 156, 3) := by decide +kernel
theorem dX10_takes_4 : decode cX10_takes 4 = .ok (.istore_n 3, 1) := by decide +kernel
theorem dX10_takes_5 : decode cX10_takes 5 = .ok (.iload_n 3, 1) := by decide +kernel
theorem dX10_takes_6 : decode cX10_takes 6 = .ok (.i2l, 1) := by decide +kernel
theorem dX10_takes_7 : decode cX10_takes 7 = .ok (.iload_n 1, 1) := by decide +kernel
theorem dX10_takes_8 : decode cX10_takes 8 = .ok (.i2l, 1) := by decide +kernel
theorem dX10_takes_9 : decode cX10_takes 9 = .ok (.iload_n 2, 1) := by decide +kernel
theorem dX10_takes_10 : decode cX10_takes 10 = .ok (.i2l, 1) := by decide +kernel
theorem dX10_takes_11 : decode cX10_takes 11 = .ok (.invokestatic 89, 3) := by decide +kernel
theorem dX10_takes_14 : decode cX10_takes 14 = .ok (.ifCond .ne 5, 3) := by decide +kernel
theorem dX10_takes_17 : decode cX10_takes 17 = .ok (.iconst (-1), 1) := by decide +kernel
theorem dX10_takes_18 : decode cX10_takes 18 = .ok (.ireturn, 1) := by decide +kernel
theorem dX10_takes_19 : decode cX10_takes 19 = .ok (.aload_n 0, 1) := by decide +kernel
theorem dX10_takes_20 : decode cX10_takes 20 = .ok (.dup, 1) := by decide +kernel
theorem dX10_takes_21 : decode cX10_takes 21 = .ok (.getfield 153, 3) := by decide +kernel
theorem dX10_takes_24 : decode cX10_takes 24 = .ok (.iconst 1, 1) := by decide +kernel
theorem dX10_takes_25 : decode cX10_takes 25 = .ok (.iadd, 1) := by decide +kernel
theorem dX10_takes_26 : decode cX10_takes 26 = .ok (.putfield 153, 3) := by decide +kernel
theorem dX10_takes_29 : decode cX10_takes 29 = .ok (.iload_n 3, 1) := by decide +kernel
theorem dX10_takes_30 : decode cX10_takes 30 = .ok (.iload_n 1, 1) := by decide +kernel
theorem dX10_takes_31 : decode cX10_takes 31 = .ok (.isub, 1) := by decide +kernel
theorem dX10_takes_32 : decode cX10_takes 32 = .ok (.ireturn, 1) := by decide +kernel
theorem dX10_letterOf_0 : decode cX10_letterOf 0 = .ok (.iload_n 0, 1) := by decide +kernel
theorem dX10_letterOf_1 : decode cX10_letterOf 1 = .ok (.ifCond .ne 27, 3) := by decide +kernel
theorem dX10_letterOf_4 : decode cX10_letterOf 4 = .ok (.iload_n 1, 1) := by decide +kernel
theorem dX10_letterOf_5 : decode cX10_letterOf 5 = .ok (.ifCond .ne 8, 3) := by decide +kernel
theorem dX10_letterOf_8 : decode cX10_letterOf 8 = .ok (.bipush 114, 2) := by decide +kernel
theorem dX10_letterOf_10 : decode cX10_letterOf 10 = .ok (.goto 39, 3) := by decide +kernel
theorem dX10_letterOf_13 : decode cX10_letterOf 13 = .ok (.iload_n 1, 1) := by decide +kernel
theorem dX10_letterOf_14 : decode cX10_letterOf 14 = .ok (.iconst 1, 1) := by decide +kernel
theorem dX10_letterOf_15 : decode cX10_letterOf 15 = .ok (.if_icmp .ne 8, 3) := by decide +kernel
theorem dX10_letterOf_18 : decode cX10_letterOf 18 = .ok (.bipush 111, 2) := by decide +kernel
theorem dX10_letterOf_20 : decode cX10_letterOf 20 = .ok (.goto 29, 3) := by decide +kernel
theorem dX10_letterOf_23 : decode cX10_letterOf 23 = .ok (.bipush 119, 2) := by decide +kernel
theorem dX10_letterOf_25 : decode cX10_letterOf 25 = .ok (.goto 24, 3) := by decide +kernel
theorem dX10_letterOf_28 : decode cX10_letterOf 28 = .ok (.iload_n 1, 1) := by decide +kernel
theorem dX10_letterOf_29 : decode cX10_letterOf 29 = .ok (.ifCond .ne 8, 3) := by decide +kernel
theorem dX10_letterOf_32 : decode cX10_letterOf 32 = .ok (.bipush 116, 2) := by decide +kernel
theorem dX10_letterOf_34 : decode cX10_letterOf 34 = .ok (.goto 15, 3) := by decide +kernel
theorem dX10_letterOf_37 : decode cX10_letterOf 37 = .ok (.iload_n 1, 1) := by decide +kernel
theorem dX10_letterOf_38 : decode cX10_letterOf 38 = .ok (.iconst 1, 1) := by decide +kernel
theorem dX10_letterOf_39 : decode cX10_letterOf 39 = .ok (.if_icmp .ne 8, 3) := by decide +kernel
theorem dX10_letterOf_42 : decode cX10_letterOf 42 = .ok (.bipush 114, 2) := by decide +kernel
theorem dX10_letterOf_44 : decode cX10_letterOf 44 = .ok (.goto 5, 3) := by decide +kernel
theorem dX10_letterOf_47 : decode cX10_letterOf 47 = .ok (.bipush 101, 2) := by decide +kernel
theorem dX10_letterOf_49 : decode cX10_letterOf 49 = .ok (.ireturn, 1) := by decide +kernel
theorem dX10_takesWord_0 : decode cX10_takesWord 0 = .ok (.aload_n 0, 1) := by decide +kernel
theorem dX10_takesWord_1 : decode cX10_takesWord 1 = .ok (.invokevirtual 156, 3) := by decide +kernel
theorem dX10_takesWord_4 : decode cX10_takesWord 4 = .ok (.istore_n 1, 1) := by decide +kernel
theorem dX10_takesWord_5 : decode cX10_takesWord 5 = .ok (.aload_n 0, 1) := by decide +kernel
theorem dX10_takesWord_6 : decode cX10_takesWord 6 = .ok (.getfield 153, 3) := by decide +kernel
theorem dX10_takesWord_9 : decode cX10_takesWord 9 = .ok (.istore_n 2, 1) := by decide +kernel
theorem dX10_takesWord_10 : decode cX10_takesWord 10 = .ok (.iload_n 1, 1) := by decide +kernel
theorem dX10_takesWord_11 : decode cX10_takesWord 11 = .ok (.bipush 116, 2) := by decide +kernel
theorem dX10_takesWord_13 : decode cX10_takesWord 13 = .ok (.if_icmp .ne 7, 3) := by decide +kernel
theorem dX10_takesWord_16 : decode cX10_takesWord 16 = .ok (.iconst 1, 1) := by decide +kernel
theorem dX10_takesWord_17 : decode cX10_takesWord 17 = .ok (.goto 4, 3) := by decide +kernel
theorem dX10_takesWord_20 : decode cX10_takesWord 20 = .ok (.iconst 0, 1) := by decide +kernel
theorem dX10_takesWord_21 : decode cX10_takesWord 21 = .ok (.istore_n 3, 1) := by decide +kernel
theorem dX10_takesWord_22 : decode cX10_takesWord 22 = .ok (.iconst 0, 1) := by decide +kernel
theorem dX10_takesWord_23 : decode cX10_takesWord 23 = .ok (.istore 4, 2) := by decide +kernel
theorem dX10_takesWord_25 : decode cX10_takesWord 25 = .ok (.iload 4, 2) := by decide +kernel
theorem dX10_takesWord_27 : decode cX10_takesWord 27 = .ok (.iconst 3, 1) := by decide +kernel
theorem dX10_takesWord_28 : decode cX10_takesWord 28 = .ok (.iload_n 3, 1) := by decide +kernel
theorem dX10_takesWord_29 : decode cX10_takesWord 29 = .ok (.iadd, 1) := by decide +kernel
theorem dX10_takesWord_30 : decode cX10_takesWord 30 = .ok (.if_icmp .ge 55, 3) := by decide +kernel
theorem dX10_takesWord_33 : decode cX10_takesWord 33 = .ok (.iload_n 2, 1) := by decide +kernel
theorem dX10_takesWord_34 : decode cX10_takesWord 34 = .ok (.iload 4, 2) := by decide +kernel
theorem dX10_takesWord_36 : decode cX10_takesWord 36 = .ok (.iadd, 1) := by decide +kernel
theorem dX10_takesWord_37 : decode cX10_takesWord 37 = .ok (.aload_n 0, 1) := by decide +kernel
theorem dX10_takesWord_38 : decode cX10_takesWord 38 = .ok (.getfield 150, 3) := by decide +kernel
theorem dX10_takesWord_41 : decode cX10_takesWord 41 = .ok (.if_icmp .lt 13, 3) := by decide +kernel
theorem dX10_takesWord_44 : decode cX10_takesWord 44 = .ok (.aload_n 0, 1) := by decide +kernel
theorem dX10_takesWord_45 : decode cX10_takesWord 45 = .ok (.aload_n 0, 1) := by decide +kernel
theorem dX10_takesWord_46 : decode cX10_takesWord 46 = .ok (.getfield 150, 3) := by decide +kernel
theorem dX10_takesWord_49 : decode cX10_takesWord 49 = .ok (.putfield 153, 3) := by decide +kernel
theorem dX10_takesWord_52 : decode cX10_takesWord 52 = .ok (.iconst (-1), 1) := by decide +kernel
theorem dX10_takesWord_53 : decode cX10_takesWord 53 = .ok (.ireturn, 1) := by decide +kernel
theorem dX10_takesWord_54 : decode cX10_takesWord 54 = .ok (.aload_n 0, 1) := by decide +kernel
theorem dX10_takesWord_55 : decode cX10_takesWord 55 = .ok (.getfield 38, 3) := by decide +kernel
theorem dX10_takesWord_58 : decode cX10_takesWord 58 = .ok (.iload_n 2, 1) := by decide +kernel
theorem dX10_takesWord_59 : decode cX10_takesWord 59 = .ok (.iload 4, 2) := by decide +kernel
theorem dX10_takesWord_61 : decode cX10_takesWord 61 = .ok (.iadd, 1) := by decide +kernel
theorem dX10_takesWord_62 : decode cX10_takesWord 62 = .ok (.iaload, 1) := by decide +kernel
theorem dX10_takesWord_63 : decode cX10_takesWord 63 = .ok (.iload_n 3, 1) := by decide +kernel
theorem dX10_takesWord_64 : decode cX10_takesWord 64 = .ok (.iload 4, 2) := by decide +kernel
theorem dX10_takesWord_66 : decode cX10_takesWord 66 = .ok (.invokestatic 159, 3) := by decide +kernel
theorem dX10_takesWord_69 : decode cX10_takesWord 69 = .ok (.if_icmp .eq 10, 3) := by decide +kernel
theorem dX10_takesWord_72 : decode cX10_takesWord 72 = .ok (.aload_n 0, 1) := by decide +kernel
theorem dX10_takesWord_73 : decode cX10_takesWord 73 = .ok (.iload_n 2, 1) := by decide +kernel
theorem dX10_takesWord_74 : decode cX10_takesWord 74 = .ok (.putfield 153, 3) := by decide +kernel
theorem dX10_takesWord_77 : decode cX10_takesWord 77 = .ok (.iconst (-1), 1) := by decide +kernel
theorem dX10_takesWord_78 : decode cX10_takesWord 78 = .ok (.ireturn, 1) := by decide +kernel
theorem dX10_takesWord_79 : decode cX10_takesWord 79 = .ok (.iinc 4 1, 3) := by decide +kernel
theorem dX10_takesWord_82 : decode cX10_takesWord 82 = .ok (.goto (-57), 3) := by decide +kernel
theorem dX10_takesWord_85 : decode cX10_takesWord 85 = .ok (.aload_n 0, 1) := by decide +kernel
theorem dX10_takesWord_86 : decode cX10_takesWord 86 = .ok (.iload_n 2, 1) := by decide +kernel
theorem dX10_takesWord_87 : decode cX10_takesWord 87 = .ok (.iconst 3, 1) := by decide +kernel
theorem dX10_takesWord_88 : decode cX10_takesWord 88 = .ok (.iadd, 1) := by decide +kernel
theorem dX10_takesWord_89 : decode cX10_takesWord 89 = .ok (.iload_n 3, 1) := by decide +kernel
theorem dX10_takesWord_90 : decode cX10_takesWord 90 = .ok (.iadd, 1) := by decide +kernel
theorem dX10_takesWord_91 : decode cX10_takesWord 91 = .ok (.putfield 153, 3) := by decide +kernel
theorem dX10_takesWord_94 : decode cX10_takesWord 94 = .ok (.iload_n 3, 1) := by decide +kernel
theorem dX10_takesWord_95 : decode cX10_takesWord 95 = .ok (.ireturn, 1) := by decide +kernel
theorem dX10_readsRow_0 : decode cX10_readsRow 0 = .ok (.iconst 0, 1) := by decide +kernel
theorem dX10_readsRow_1 : decode cX10_readsRow 1 = .ok (.istore_n 1, 1) := by decide +kernel
theorem dX10_readsRow_2 : decode cX10_readsRow 2 = .ok (.iload_n 1, 1) := by decide +kernel
theorem dX10_readsRow_3 : decode cX10_readsRow 3 = .ok (.ifCond .eq 12, 3) := by decide +kernel
theorem dX10_readsRow_6 : decode cX10_readsRow 6 = .ok (.aload_n 0, 1) := by decide +kernel
theorem dX10_readsRow_7 : decode cX10_readsRow 7 = .ok (.invokevirtual 156, 3) := by decide +kernel
theorem dX10_readsRow_10 : decode cX10_readsRow 10 = .ok (.bipush 59, 2) := by decide +kernel
theorem dX10_readsRow_12 : decode cX10_readsRow 12 = .ok (.if_icmp .eq 102, 3) := by decide +kernel
theorem dX10_readsRow_15 : decode cX10_readsRow 15 = .ok (.iload_n 1, 1) := by decide +kernel
theorem dX10_readsRow_16 : decode cX10_readsRow 16 = .ok (.bipush 8, 2) := by decide +kernel
theorem dX10_readsRow_18 : decode cX10_readsRow 18 = .ok (.if_icmp .ne 5, 3) := by decide +kernel
theorem dX10_readsRow_21 : decode cX10_readsRow 21 = .ok (.iconst (-1), 1) := by decide +kernel
theorem dX10_readsRow_22 : decode cX10_readsRow 22 = .ok (.ireturn, 1) := by decide +kernel
theorem dX10_readsRow_23 : decode cX10_readsRow 23 = .ok (.aload_n 0, 1) := by decide +kernel
theorem dX10_readsRow_24 : decode cX10_readsRow 24 = .ok (.bipush 97, 2) := by decide +kernel
theorem dX10_readsRow_26 : decode cX10_readsRow 26 = .ok (.bipush 102, 2) := by decide +kernel
theorem dX10_readsRow_28 : decode cX10_readsRow 28 = .ok (.invokevirtual 162, 3) := by decide +kernel
theorem dX10_readsRow_31 : decode cX10_readsRow 31 = .ok (.istore_n 2, 1) := by decide +kernel
theorem dX10_readsRow_32 : decode cX10_readsRow 32 = .ok (.iload_n 2, 1) := by decide +kernel
theorem dX10_readsRow_33 : decode cX10_readsRow 33 = .ok (.ifCond .ge 7, 3) := by decide +kernel
theorem dX10_readsRow_36 : decode cX10_readsRow 36 = .ok (.iconst (-1), 1) := by decide +kernel
theorem dX10_readsRow_37 : decode cX10_readsRow 37 = .ok (.goto 11, 3) := by decide +kernel
theorem dX10_readsRow_40 : decode cX10_readsRow 40 = .ok (.aload_n 0, 1) := by decide +kernel
theorem dX10_readsRow_41 : decode cX10_readsRow 41 = .ok (.bipush 48, 2) := by decide +kernel
theorem dX10_readsRow_43 : decode cX10_readsRow 43 = .ok (.bipush 57, 2) := by decide +kernel
theorem dX10_readsRow_45 : decode cX10_readsRow 45 = .ok (.invokevirtual 162, 3) := by decide +kernel
theorem dX10_readsRow_48 : decode cX10_readsRow 48 = .ok (.istore_n 3, 1) := by decide +kernel
theorem dX10_readsRow_49 : decode cX10_readsRow 49 = .ok (.iload_n 3, 1) := by decide +kernel
theorem dX10_readsRow_50 : decode cX10_readsRow 50 = .ok (.ifCond .ge 7, 3) := by decide +kernel
theorem dX10_readsRow_53 : decode cX10_readsRow 53 = .ok (.iconst (-1), 1) := by decide +kernel
theorem dX10_readsRow_54 : decode cX10_readsRow 54 = .ok (.goto 11, 3) := by decide +kernel
theorem dX10_readsRow_57 : decode cX10_readsRow 57 = .ok (.aload_n 0, 1) := by decide +kernel
theorem dX10_readsRow_58 : decode cX10_readsRow 58 = .ok (.bipush 49, 2) := by decide +kernel
theorem dX10_readsRow_60 : decode cX10_readsRow 60 = .ok (.bipush 57, 2) := by decide +kernel
theorem dX10_readsRow_62 : decode cX10_readsRow 62 = .ok (.invokevirtual 162, 3) := by decide +kernel
theorem dX10_readsRow_65 : decode cX10_readsRow 65 = .ok (.istore 4, 2) := by decide +kernel
theorem dX10_readsRow_67 : decode cX10_readsRow 67 = .ok (.iload 4, 2) := by decide +kernel
theorem dX10_readsRow_69 : decode cX10_readsRow 69 = .ok (.ifCond .ge 5, 3) := by decide +kernel
theorem dX10_readsRow_72 : decode cX10_readsRow 72 = .ok (.iconst (-1), 1) := by decide +kernel
theorem dX10_readsRow_73 : decode cX10_readsRow 73 = .ok (.ireturn, 1) := by decide +kernel
theorem dX10_readsRow_74 : decode cX10_readsRow 74 = .ok (.aload_n 0, 1) := by decide +kernel
theorem dX10_readsRow_75 : decode cX10_readsRow 75 = .ok (.getfield 41, 3) := by decide +kernel
theorem dX10_readsRow_78 : decode cX10_readsRow 78 = .ok (.iconst 3, 1) := by decide +kernel
theorem dX10_readsRow_79 : decode cX10_readsRow 79 = .ok (.iload_n 1, 1) := by decide +kernel
theorem dX10_readsRow_80 : decode cX10_readsRow 80 = .ok (.imul, 1) := by decide +kernel
theorem dX10_readsRow_81 : decode cX10_readsRow 81 = .ok (.iload_n 2, 1) := by decide +kernel
theorem dX10_readsRow_82 : decode cX10_readsRow 82 = .ok (.iastore, 1) := by decide +kernel
theorem dX10_readsRow_83 : decode cX10_readsRow 83 = .ok (.aload_n 0, 1) := by decide +kernel
theorem dX10_readsRow_84 : decode cX10_readsRow 84 = .ok (.getfield 41, 3) := by decide +kernel
theorem dX10_readsRow_87 : decode cX10_readsRow 87 = .ok (.iconst 3, 1) := by decide +kernel
theorem dX10_readsRow_88 : decode cX10_readsRow 88 = .ok (.iload_n 1, 1) := by decide +kernel
theorem dX10_readsRow_89 : decode cX10_readsRow 89 = .ok (.imul, 1) := by decide +kernel
theorem dX10_readsRow_90 : decode cX10_readsRow 90 = .ok (.iconst 1, 1) := by decide +kernel
theorem dX10_readsRow_91 : decode cX10_readsRow 91 = .ok (.iadd, 1) := by decide +kernel
theorem dX10_readsRow_92 : decode cX10_readsRow 92 = .ok (.iload_n 3, 1) := by decide +kernel
theorem dX10_readsRow_93 : decode cX10_readsRow 93 = .ok (.iastore, 1) := by decide +kernel
theorem dX10_readsRow_94 : decode cX10_readsRow 94 = .ok (.aload_n 0, 1) := by decide +kernel
theorem dX10_readsRow_95 : decode cX10_readsRow 95 = .ok (.getfield 41, 3) := by decide +kernel
theorem dX10_readsRow_98 : decode cX10_readsRow 98 = .ok (.iconst 3, 1) := by decide +kernel
theorem dX10_readsRow_99 : decode cX10_readsRow 99 = .ok (.iload_n 1, 1) := by decide +kernel
theorem dX10_readsRow_100 : decode cX10_readsRow 100 = .ok (.imul, 1) := by decide +kernel
theorem dX10_readsRow_101 : decode cX10_readsRow 101 = .ok (.iconst 2, 1) := by decide +kernel
theorem dX10_readsRow_102 : decode cX10_readsRow 102 = .ok (.iadd, 1) := by decide +kernel
theorem dX10_readsRow_103 : decode cX10_readsRow 103 = .ok (.iload 4, 2) := by decide +kernel
theorem dX10_readsRow_105 : decode cX10_readsRow 105 = .ok (.iconst 1, 1) := by decide +kernel
theorem dX10_readsRow_106 : decode cX10_readsRow 106 = .ok (.iadd, 1) := by decide +kernel
theorem dX10_readsRow_107 : decode cX10_readsRow 107 = .ok (.iastore, 1) := by decide +kernel
theorem dX10_readsRow_108 : decode cX10_readsRow 108 = .ok (.iinc 1 1, 3) := by decide +kernel
theorem dX10_readsRow_111 : decode cX10_readsRow 111 = .ok (.goto (-109), 3) := by decide +kernel
theorem dX10_readsRow_114 : decode cX10_readsRow 114 = .ok (.iload_n 1, 1) := by decide +kernel
theorem dX10_readsRow_115 : decode cX10_readsRow 115 = .ok (.ireturn, 1) := by decide +kernel
theorem dX10_questionOf_0 : decode cX10_questionOf 0 = .ok (.iload_n 0, 1) := by decide +kernel
theorem dX10_questionOf_1 : decode cX10_questionOf 1 = .ok (.bipush 76, 2) := by decide +kernel
theorem dX10_questionOf_3 : decode cX10_questionOf 3 = .ok (.if_icmp .ne 7, 3) := by decide +kernel
theorem dX10_questionOf_6 : decode cX10_questionOf 6 = .ok (.iconst 1, 1) := by decide +kernel
theorem dX10_questionOf_7 : decode cX10_questionOf 7 = .ok (.goto 34, 3) := by decide +kernel
theorem dX10_questionOf_10 : decode cX10_questionOf 10 = .ok (.iload_n 0, 1) := by decide +kernel
theorem dX10_questionOf_11 : decode cX10_questionOf 11 = .ok (.bipush 82, 2) := by decide +kernel
theorem dX10_questionOf_13 : decode cX10_questionOf 13 = .ok (.if_icmp .ne 7, 3) := by decide +kernel
theorem dX10_questionOf_16 : decode cX10_questionOf 16 = .ok (.iconst 2, 1) := by decide +kernel
theorem dX10_questionOf_17 : decode cX10_questionOf 17 = .ok (.goto 24, 3) := by decide +kernel
theorem dX10_questionOf_20 : decode cX10_questionOf 20 = .ok (.iload_n 0, 1) := by decide +kernel
theorem dX10_questionOf_21 : decode cX10_questionOf 21 = .ok (.bipush 80, 2) := by decide +kernel
theorem dX10_questionOf_23 : decode cX10_questionOf 23 = .ok (.if_icmp .ne 7, 3) := by decide +kernel
theorem dX10_questionOf_26 : decode cX10_questionOf 26 = .ok (.iconst 3, 1) := by decide +kernel
theorem dX10_questionOf_27 : decode cX10_questionOf 27 = .ok (.goto 14, 3) := by decide +kernel
theorem dX10_questionOf_30 : decode cX10_questionOf 30 = .ok (.iload_n 0, 1) := by decide +kernel
theorem dX10_questionOf_31 : decode cX10_questionOf 31 = .ok (.bipush 68, 2) := by decide +kernel
theorem dX10_questionOf_33 : decode cX10_questionOf 33 = .ok (.if_icmp .ne 7, 3) := by decide +kernel
theorem dX10_questionOf_36 : decode cX10_questionOf 36 = .ok (.iconst 4, 1) := by decide +kernel
theorem dX10_questionOf_37 : decode cX10_questionOf 37 = .ok (.goto 4, 3) := by decide +kernel
theorem dX10_questionOf_40 : decode cX10_questionOf 40 = .ok (.iconst 0, 1) := by decide +kernel
theorem dX10_questionOf_41 : decode cX10_questionOf 41 = .ok (.ireturn, 1) := by decide +kernel
theorem dX10_hangs_0 : decode cX10_hangs 0 = .ok (.iload_n 2, 1) := by decide +kernel
theorem dX10_hangs_1 : decode cX10_hangs 1 = .ok (.ifCond .le 57, 3) := by decide +kernel
theorem dX10_hangs_4 : decode cX10_hangs 4 = .ok (.aload_n 0, 1) := by decide +kernel
theorem dX10_hangs_5 : decode cX10_hangs 5 = .ok (.getfield 59, 3) := by decide +kernel
theorem dX10_hangs_8 : decode cX10_hangs 8 = .ok (.iload_n 2, 1) := by decide +kernel
theorem dX10_hangs_9 : decode cX10_hangs 9 = .ok (.iconst 1, 1) := by decide +kernel
theorem dX10_hangs_10 : decode cX10_hangs 10 = .ok (.isub, 1) := by decide +kernel
theorem dX10_hangs_11 : decode cX10_hangs 11 = .ok (.iaload, 1) := by decide +kernel
theorem dX10_hangs_12 : decode cX10_hangs 12 = .ok (.ifCond .ne 20, 3) := by decide +kernel
theorem dX10_hangs_15 : decode cX10_hangs 15 = .ok (.aload_n 0, 1) := by decide +kernel
theorem dX10_hangs_16 : decode cX10_hangs 16 = .ok (.getfield 50, 3) := by decide +kernel
theorem dX10_hangs_19 : decode cX10_hangs 19 = .ok (.aload_n 0, 1) := by decide +kernel
theorem dX10_hangs_20 : decode cX10_hangs 20 = .ok (.getfield 56, 3) := by decide +kernel
theorem dX10_hangs_23 : decode cX10_hangs 23 = .ok (.iload_n 2, 1) := by decide +kernel
theorem dX10_hangs_24 : decode cX10_hangs 24 = .ok (.iconst 1, 1) := by decide +kernel
theorem dX10_hangs_25 : decode cX10_hangs 25 = .ok (.isub, 1) := by decide +kernel
theorem dX10_hangs_26 : decode cX10_hangs 26 = .ok (.iaload, 1) := by decide +kernel
theorem dX10_hangs_27 : decode cX10_hangs 27 = .ok (.iload_n 1, 1) := by decide +kernel
theorem dX10_hangs_28 : decode cX10_hangs 28 = .ok (.iastore, 1) := by decide +kernel
theorem dX10_hangs_29 : decode cX10_hangs 29 = .ok (.goto 17, 3) := by decide +kernel
theorem dX10_hangs_32 : decode cX10_hangs 32 = .ok (.aload_n 0, 1) := by decide +kernel
theorem dX10_hangs_33 : decode cX10_hangs 33 = .ok (.getfield 53, 3) := by decide +kernel
theorem dX10_hangs_36 : decode cX10_hangs 36 = .ok (.aload_n 0, 1) := by decide +kernel
theorem dX10_hangs_37 : decode cX10_hangs 37 = .ok (.getfield 56, 3) := by decide +kernel
theorem dX10_hangs_40 : decode cX10_hangs 40 = .ok (.iload_n 2, 1) := by decide +kernel
theorem dX10_hangs_41 : decode cX10_hangs 41 = .ok (.iconst 1, 1) := by decide +kernel
theorem dX10_hangs_42 : decode cX10_hangs 42 = .ok (.isub, 1) := by decide +kernel
theorem dX10_hangs_43 : decode cX10_hangs 43 = .ok (.iaload, 1) := by decide +kernel
theorem dX10_hangs_44 : decode cX10_hangs 44 = .ok (.iload_n 1, 1) := by decide +kernel
theorem dX10_hangs_45 : decode cX10_hangs 45 = .ok (.iastore, 1) := by decide +kernel
theorem dX10_hangs_46 : decode cX10_hangs 46 = .ok (.aload_n 0, 1) := by decide +kernel
theorem dX10_hangs_47 : decode cX10_hangs 47 = .ok (.getfield 59, 3) := by decide +kernel
theorem dX10_hangs_50 : decode cX10_hangs 50 = .ok (.iload_n 2, 1) := by decide +kernel
theorem dX10_hangs_51 : decode cX10_hangs 51 = .ok (.iconst 1, 1) := by decide +kernel
theorem dX10_hangs_52 : decode cX10_hangs 52 = .ok (.isub, 1) := by decide +kernel
theorem dX10_hangs_53 : decode cX10_hangs 53 = .ok (.dup2, 1) := by decide +kernel
theorem dX10_hangs_54 : decode cX10_hangs 54 = .ok (.iaload, 1) := by decide +kernel
theorem dX10_hangs_55 : decode cX10_hangs 55 = .ok (.iconst 1, 1) := by decide +kernel
theorem dX10_hangs_56 : decode cX10_hangs 56 = .ok (.iadd, 1) := by decide +kernel
theorem dX10_hangs_57 : decode cX10_hangs 57 = .ok (.iastore, 1) := by decide +kernel
theorem dX10_hangs_58 : decode cX10_hangs 58 = .ok (.return_, 1) := by decide +kernel
theorem dX10_readsTree_0 : decode cX10_readsTree 0 = .ok (.iconst 0, 1) := by decide +kernel
theorem dX10_readsTree_1 : decode cX10_readsTree 1 = .ok (.istore_n 1, 1) := by decide +kernel
theorem dX10_readsTree_2 : decode cX10_readsTree 2 = .ok (.iconst 0, 1) := by decide +kernel
theorem dX10_readsTree_3 : decode cX10_readsTree 3 = .ok (.istore_n 2, 1) := by decide +kernel
theorem dX10_readsTree_4 : decode cX10_readsTree 4 = .ok (.iconst 0, 1) := by decide +kernel
theorem dX10_readsTree_5 : decode cX10_readsTree 5 = .ok (.istore_n 3, 1) := by decide +kernel
theorem dX10_readsTree_6 : decode cX10_readsTree 6 = .ok (.aload_n 0, 1) := by decide +kernel
theorem dX10_readsTree_7 : decode cX10_readsTree 7 = .ok (.iconst 0, 1) := by decide +kernel
theorem dX10_readsTree_8 : decode cX10_readsTree 8 = .ok (.putfield 165, 3) := by decide +kernel
theorem dX10_readsTree_11 : decode cX10_readsTree 11 = .ok (.aload_n 0, 1) := by decide +kernel
theorem dX10_readsTree_12 : decode cX10_readsTree 12 = .ok (.iconst 0, 1) := by decide +kernel
theorem dX10_readsTree_13 : decode cX10_readsTree 13 = .ok (.putfield 168, 3) := by decide +kernel
theorem dX10_readsTree_16 : decode cX10_readsTree 16 = .ok (.iload_n 3, 1) := by decide +kernel
theorem dX10_readsTree_17 : decode cX10_readsTree 17 = .ok (.ifCond .ne 247, 3) := by decide +kernel
theorem dX10_readsTree_20 : decode cX10_readsTree 20 = .ok (.aload_n 0, 1) := by decide +kernel
theorem dX10_readsTree_21 : decode cX10_readsTree 21 = .ok (.invokevirtual 156, 3) := by decide +kernel
theorem dX10_readsTree_24 : decode cX10_readsTree 24 = .ok (.istore 4, 2) := by decide +kernel
theorem dX10_readsTree_26 : decode cX10_readsTree 26 = .ok (.iload 4, 2) := by decide +kernel
theorem dX10_readsTree_28 : decode cX10_readsTree 28 = .ok (.invokestatic 171, 3) := by decide +kernel
theorem dX10_readsTree_31 : decode cX10_readsTree 31 = .ok (.istore 5, 2) := by decide +kernel
theorem dX10_readsTree_33 : decode cX10_readsTree 33 = .ok (.iload_n 2, 1) := by decide +kernel
theorem dX10_readsTree_34 : decode cX10_readsTree 34 = .ok (.ifCond .le 34, 3) := by decide +kernel
theorem dX10_readsTree_37 : decode cX10_readsTree 37 = .ok (.aload_n 0, 1) := by decide +kernel
theorem dX10_readsTree_38 : decode cX10_readsTree 38 = .ok (.getfield 59, 3) := by decide +kernel
theorem dX10_readsTree_41 : decode cX10_readsTree 41 = .ok (.iload_n 2, 1) := by decide +kernel
theorem dX10_readsTree_42 : decode cX10_readsTree 42 = .ok (.iconst 1, 1) := by decide +kernel
theorem dX10_readsTree_43 : decode cX10_readsTree 43 = .ok (.isub, 1) := by decide +kernel
theorem dX10_readsTree_44 : decode cX10_readsTree 44 = .ok (.iaload, 1) := by decide +kernel
theorem dX10_readsTree_45 : decode cX10_readsTree 45 = .ok (.iconst 2, 1) := by decide +kernel
theorem dX10_readsTree_46 : decode cX10_readsTree 46 = .ok (.if_icmp .ne 22, 3) := by decide +kernel
theorem dX10_readsTree_49 : decode cX10_readsTree 49 = .ok (.aload_n 0, 1) := by decide +kernel
theorem dX10_readsTree_50 : decode cX10_readsTree 50 = .ok (.bipush 41, 2) := by decide +kernel
theorem dX10_readsTree_52 : decode cX10_readsTree 52 = .ok (.bipush 41, 2) := by decide +kernel
theorem dX10_readsTree_54 : decode cX10_readsTree 54 = .ok (.invokevirtual 162, 3) := by decide +kernel
theorem dX10_readsTree_57 : decode cX10_readsTree 57 = .ok (.ifCond .ge 5, 3) := by decide +kernel
theorem dX10_readsTree_60 : decode cX10_readsTree 60 = .ok (.iconst (-1), 1) := by decide +kernel
theorem dX10_readsTree_61 : decode cX10_readsTree 61 = .ok (.ireturn, 1) := by decide +kernel
theorem dX10_readsTree_62 : decode cX10_readsTree 62 = .ok (.iinc 2 (-1), 3) := by decide +kernel
theorem dX10_readsTree_65 : decode cX10_readsTree 65 = .ok (.goto 186, 3) := by decide +kernel
theorem dX10_readsTree_68 : decode cX10_readsTree 68 = .ok (.iload 4, 2) := by decide +kernel
theorem dX10_readsTree_70 : decode cX10_readsTree 70 = .ok (.bipush 42, 2) := by decide +kernel
theorem dX10_readsTree_72 : decode cX10_readsTree 72 = .ok (.if_icmp .ne 52, 3) := by decide +kernel
theorem dX10_readsTree_75 : decode cX10_readsTree 75 = .ok (.aload_n 0, 1) := by decide +kernel
theorem dX10_readsTree_76 : decode cX10_readsTree 76 = .ok (.dup, 1) := by decide +kernel
theorem dX10_readsTree_77 : decode cX10_readsTree 77 = .ok (.getfield 153, 3) := by decide +kernel
theorem dX10_readsTree_80 : decode cX10_readsTree 80 = .ok (.iconst 1, 1) := by decide +kernel
theorem dX10_readsTree_81 : decode cX10_readsTree 81 = .ok (.iadd, 1) := by decide +kernel
theorem dX10_readsTree_82 : decode cX10_readsTree 82 = .ok (.putfield 153, 3) := by decide +kernel
theorem dX10_readsTree_85 : decode cX10_readsTree 85 = .ok (.aload_n 0, 1) := by decide +kernel
theorem dX10_readsTree_86 : decode cX10_readsTree 86 = .ok (.getfield 44, 3) := by decide +kernel
theorem dX10_readsTree_89 : decode cX10_readsTree 89 = .ok (.iload_n 1, 1) := by decide +kernel
theorem dX10_readsTree_90 : decode cX10_readsTree 90 = .ok (.iconst 0, 1) := by decide +kernel
theorem dX10_readsTree_91 : decode cX10_readsTree 91 = .ok (.iastore, 1) := by decide +kernel
theorem dX10_readsTree_92 : decode cX10_readsTree 92 = .ok (.aload_n 0, 1) := by decide +kernel
theorem dX10_readsTree_93 : decode cX10_readsTree 93 = .ok (.getfield 47, 3) := by decide +kernel
theorem dX10_readsTree_96 : decode cX10_readsTree 96 = .ok (.iload_n 1, 1) := by decide +kernel
theorem dX10_readsTree_97 : decode cX10_readsTree 97 = .ok (.aload_n 0, 1) := by decide +kernel
theorem dX10_readsTree_98 : decode cX10_readsTree 98 = .ok (.getfield 165, 3) := by decide +kernel
theorem dX10_readsTree_101 : decode cX10_readsTree 101 = .ok (.iastore, 1) := by decide +kernel
theorem dX10_readsTree_102 : decode cX10_readsTree 102 = .ok (.aload_n 0, 1) := by decide +kernel
theorem dX10_readsTree_103 : decode cX10_readsTree 103 = .ok (.dup, 1) := by decide +kernel
theorem dX10_readsTree_104 : decode cX10_readsTree 104 = .ok (.getfield 165, 3) := by decide +kernel
theorem dX10_readsTree_107 : decode cX10_readsTree 107 = .ok (.iconst 1, 1) := by decide +kernel
theorem dX10_readsTree_108 : decode cX10_readsTree 108 = .ok (.iadd, 1) := by decide +kernel
theorem dX10_readsTree_109 : decode cX10_readsTree 109 = .ok (.putfield 165, 3) := by decide +kernel
theorem dX10_readsTree_112 : decode cX10_readsTree 112 = .ok (.aload_n 0, 1) := by decide +kernel
theorem dX10_readsTree_113 : decode cX10_readsTree 113 = .ok (.iload_n 1, 1) := by decide +kernel
theorem dX10_readsTree_114 : decode cX10_readsTree 114 = .ok (.iload_n 2, 1) := by decide +kernel
theorem dX10_readsTree_115 : decode cX10_readsTree 115 = .ok (.invokevirtual 174, 3) := by decide +kernel
theorem dX10_readsTree_118 : decode cX10_readsTree 118 = .ok (.iinc 1 1, 3) := by decide +kernel
theorem dX10_readsTree_121 : decode cX10_readsTree 121 = .ok (.goto 130, 3) := by decide +kernel
theorem dX10_readsTree_124 : decode cX10_readsTree 124 = .ok (.iload 5, 2) := by decide +kernel
theorem dX10_readsTree_126 : decode cX10_readsTree 126 = .ok (.ifCond .le 123, 3) := by decide +kernel
theorem dX10_readsTree_129 : decode cX10_readsTree 129 = .ok (.iload_n 2, 1) := by decide +kernel
theorem dX10_readsTree_130 : decode cX10_readsTree 130 = .ok (.bipush 7, 2) := by decide +kernel
theorem dX10_readsTree_132 : decode cX10_readsTree 132 = .ok (.if_icmp .ge 117, 3) := by decide +kernel
theorem dX10_readsTree_135 : decode cX10_readsTree 135 = .ok (.aload_n 0, 1) := by decide +kernel
theorem dX10_readsTree_136 : decode cX10_readsTree 136 = .ok (.dup, 1) := by decide +kernel
theorem dX10_readsTree_137 : decode cX10_readsTree 137 = .ok (.getfield 153, 3) := by decide +kernel
theorem dX10_readsTree_140 : decode cX10_readsTree 140 = .ok (.iconst 1, 1) := by decide +kernel
theorem dX10_readsTree_141 : decode cX10_readsTree 141 = .ok (.iadd, 1) := by decide +kernel
theorem dX10_readsTree_142 : decode cX10_readsTree 142 = .ok (.putfield 153, 3) := by decide +kernel
theorem dX10_readsTree_145 : decode cX10_readsTree 145 = .ok (.aload_n 0, 1) := by decide +kernel
theorem dX10_readsTree_146 : decode cX10_readsTree 146 = .ok (.bipush 48, 2) := by decide +kernel
theorem dX10_readsTree_148 : decode cX10_readsTree 148 = .ok (.iload 5, 2) := by decide +kernel
theorem dX10_readsTree_150 : decode cX10_readsTree 150 = .ok (.iconst 3, 1) := by decide +kernel
theorem dX10_readsTree_151 : decode cX10_readsTree 151 = .ok (.if_icmp .ge 8, 3) := by decide +kernel
theorem dX10_readsTree_154 : decode cX10_readsTree 154 = .ok (.bipush 54, 2) := by decide +kernel
theorem dX10_readsTree_156 : decode cX10_readsTree 156 = .ok (.goto 5, 3) := by decide +kernel
theorem dX10_readsTree_159 : decode cX10_readsTree 159 = .ok (.bipush 57, 2) := by decide +kernel
theorem dX10_readsTree_161 : decode cX10_readsTree 161 = .ok (.invokevirtual 162, 3) := by decide +kernel
theorem dX10_readsTree_164 : decode cX10_readsTree 164 = .ok (.istore 6, 2) := by decide +kernel
theorem dX10_readsTree_166 : decode cX10_readsTree 166 = .ok (.iload 6, 2) := by decide +kernel
theorem dX10_readsTree_168 : decode cX10_readsTree 168 = .ok (.ifCond .lt 14, 3) := by decide +kernel
theorem dX10_readsTree_171 : decode cX10_readsTree 171 = .ok (.aload_n 0, 1) := by decide +kernel
theorem dX10_readsTree_172 : decode cX10_readsTree 172 = .ok (.bipush 40, 2) := by decide +kernel
theorem dX10_readsTree_174 : decode cX10_readsTree 174 = .ok (.bipush 40, 2) := by decide +kernel
theorem dX10_readsTree_176 : decode cX10_readsTree 176 = .ok (.invokevirtual 162, 3) := by decide +kernel
theorem dX10_readsTree_179 : decode cX10_readsTree 179 = .ok (.ifCond .ge 5, 3) := by decide +kernel
theorem dX10_readsTree_182 : decode cX10_readsTree 182 = .ok (.iconst (-1), 1) := by decide +kernel
theorem dX10_readsTree_183 : decode cX10_readsTree 183 = .ok (.ireturn, 1) := by decide +kernel
theorem dX10_readsTree_184 : decode cX10_readsTree 184 = .ok (.aload_n 0, 1) := by decide +kernel
theorem dX10_readsTree_185 : decode cX10_readsTree 185 = .ok (.getfield 44, 3) := by decide +kernel
theorem dX10_readsTree_188 : decode cX10_readsTree 188 = .ok (.iload_n 1, 1) := by decide +kernel
theorem dX10_readsTree_189 : decode cX10_readsTree 189 = .ok (.iload 5, 2) := by decide +kernel
theorem dX10_readsTree_191 : decode cX10_readsTree 191 = .ok (.iastore, 1) := by decide +kernel
theorem dX10_readsTree_192 : decode cX10_readsTree 192 = .ok (.aload_n 0, 1) := by decide +kernel
theorem dX10_readsTree_193 : decode cX10_readsTree 193 = .ok (.getfield 47, 3) := by decide +kernel
theorem dX10_readsTree_196 : decode cX10_readsTree 196 = .ok (.iload_n 1, 1) := by decide +kernel
theorem dX10_readsTree_197 : decode cX10_readsTree 197 = .ok (.iload 6, 2) := by decide +kernel
theorem dX10_readsTree_199 : decode cX10_readsTree 199 = .ok (.iastore, 1) := by decide +kernel
theorem dX10_readsTree_200 : decode cX10_readsTree 200 = .ok (.aload_n 0, 1) := by decide +kernel
theorem dX10_readsTree_201 : decode cX10_readsTree 201 = .ok (.iload_n 1, 1) := by decide +kernel
theorem dX10_readsTree_202 : decode cX10_readsTree 202 = .ok (.iload_n 2, 1) := by decide +kernel
theorem dX10_readsTree_203 : decode cX10_readsTree 203 = .ok (.invokevirtual 174, 3) := by decide +kernel
theorem dX10_readsTree_206 : decode cX10_readsTree 206 = .ok (.aload_n 0, 1) := by decide +kernel
theorem dX10_readsTree_207 : decode cX10_readsTree 207 = .ok (.getfield 56, 3) := by decide +kernel
theorem dX10_readsTree_210 : decode cX10_readsTree 210 = .ok (.iload_n 2, 1) := by decide +kernel
theorem dX10_readsTree_211 : decode cX10_readsTree 211 = .ok (.iload_n 1, 1) := by decide +kernel
theorem dX10_readsTree_212 : decode cX10_readsTree 212 = .ok (.iastore, 1) := by decide +kernel
theorem dX10_readsTree_213 : decode cX10_readsTree 213 = .ok (.aload_n 0, 1) := by decide +kernel
theorem dX10_readsTree_214 : decode cX10_readsTree 214 = .ok (.getfield 59, 3) := by decide +kernel
theorem dX10_readsTree_217 : decode cX10_readsTree 217 = .ok (.iload_n 2, 1) := by decide +kernel
theorem dX10_readsTree_218 : decode cX10_readsTree 218 = .ok (.iconst 0, 1) := by decide +kernel
theorem dX10_readsTree_219 : decode cX10_readsTree 219 = .ok (.iastore, 1) := by decide +kernel
theorem dX10_readsTree_220 : decode cX10_readsTree 220 = .ok (.iinc 2 1, 3) := by decide +kernel
theorem dX10_readsTree_223 : decode cX10_readsTree 223 = .ok (.aload_n 0, 1) := by decide +kernel
theorem dX10_readsTree_224 : decode cX10_readsTree 224 = .ok (.iload_n 2, 1) := by decide +kernel
theorem dX10_readsTree_225 : decode cX10_readsTree 225 = .ok (.aload_n 0, 1) := by decide +kernel
theorem dX10_readsTree_226 : decode cX10_readsTree 226 = .ok (.getfield 168, 3) := by decide +kernel
theorem dX10_readsTree_229 : decode cX10_readsTree 229 = .ok (.if_icmp .le 7, 3) := by decide +kernel
theorem dX10_readsTree_232 : decode cX10_readsTree 232 = .ok (.iload_n 2, 1) := by decide +kernel
theorem dX10_readsTree_233 : decode cX10_readsTree 233 = .ok (.goto 7, 3) := by decide +kernel
theorem dX10_readsTree_236 : decode cX10_readsTree 236 = .ok (.aload_n 0, 1) := by decide +kernel
theorem dX10_readsTree_237 : decode cX10_readsTree 237 = .ok (.getfield 168, 3) := by decide +kernel
theorem dX10_readsTree_240 : decode cX10_readsTree 240 = .ok (.putfield 168, 3) := by decide +kernel
theorem dX10_readsTree_243 : decode cX10_readsTree 243 = .ok (.iinc 1 1, 3) := by decide +kernel
theorem dX10_readsTree_246 : decode cX10_readsTree 246 = .ok (.goto 5, 3) := by decide +kernel
theorem dX10_readsTree_249 : decode cX10_readsTree 249 = .ok (.iconst (-1), 1) := by decide +kernel
theorem dX10_readsTree_250 : decode cX10_readsTree 250 = .ok (.ireturn, 1) := by decide +kernel
theorem dX10_readsTree_251 : decode cX10_readsTree 251 = .ok (.iload_n 2, 1) := by decide +kernel
theorem dX10_readsTree_252 : decode cX10_readsTree 252 = .ok (.ifCond .ne 7, 3) := by decide +kernel
theorem dX10_readsTree_255 : decode cX10_readsTree 255 = .ok (.iconst 1, 1) := by decide +kernel
theorem dX10_readsTree_256 : decode cX10_readsTree 256 = .ok (.goto 4, 3) := by decide +kernel
theorem dX10_readsTree_259 : decode cX10_readsTree 259 = .ok (.iconst 0, 1) := by decide +kernel
theorem dX10_readsTree_260 : decode cX10_readsTree 260 = .ok (.istore_n 3, 1) := by decide +kernel
theorem dX10_readsTree_261 : decode cX10_readsTree 261 = .ok (.goto (-245), 3) := by decide +kernel
theorem dX10_readsTree_264 : decode cX10_readsTree 264 = .ok (.aload_n 0, 1) := by decide +kernel
theorem dX10_readsTree_265 : decode cX10_readsTree 265 = .ok (.getfield 165, 3) := by decide +kernel
theorem dX10_readsTree_268 : decode cX10_readsTree 268 = .ok (.ireturn, 1) := by decide +kernel
theorem dX10_reads_0 : decode cX10_reads 0 = .ok (.aload_n 0, 1) := by decide +kernel
theorem dX10_reads_1 : decode cX10_reads 1 = .ok (.iconst 0, 1) := by decide +kernel
theorem dX10_reads_2 : decode cX10_reads 2 = .ok (.putfield 153, 3) := by decide +kernel
theorem dX10_reads_5 : decode cX10_reads 5 = .ok (.aload_n 0, 1) := by decide +kernel
theorem dX10_reads_6 : decode cX10_reads 6 = .ok (.invokevirtual 178, 3) := by decide +kernel
theorem dX10_reads_9 : decode cX10_reads 9 = .ok (.istore_n 1, 1) := by decide +kernel
theorem dX10_reads_10 : decode cX10_reads 10 = .ok (.iload_n 1, 1) := by decide +kernel
theorem dX10_reads_11 : decode cX10_reads 11 = .ok (.ifCond .ge 7, 3) := by decide +kernel
theorem dX10_reads_14 : decode cX10_reads 14 = .ok (.iconst (-1), 1) := by decide +kernel
theorem dX10_reads_15 : decode cX10_reads 15 = .ok (.goto 18, 3) := by decide +kernel
theorem dX10_reads_18 : decode cX10_reads 18 = .ok (.iload_n 1, 1) := by decide +kernel
theorem dX10_reads_19 : decode cX10_reads 19 = .ok (.ifCond .ne 10, 3) := by decide +kernel
theorem dX10_reads_22 : decode cX10_reads 22 = .ok (.aload_n 0, 1) := by decide +kernel
theorem dX10_reads_23 : decode cX10_reads 23 = .ok (.invokevirtual 181, 3) := by decide +kernel
theorem dX10_reads_26 : decode cX10_reads 26 = .ok (.goto 7, 3) := by decide +kernel
theorem dX10_reads_29 : decode cX10_reads 29 = .ok (.aload_n 0, 1) := by decide +kernel
theorem dX10_reads_30 : decode cX10_reads 30 = .ok (.invokevirtual 184, 3) := by decide +kernel
theorem dX10_reads_33 : decode cX10_reads 33 = .ok (.istore_n 2, 1) := by decide +kernel
theorem dX10_reads_34 : decode cX10_reads 34 = .ok (.iload_n 2, 1) := by decide +kernel
theorem dX10_reads_35 : decode cX10_reads 35 = .ok (.ifCond .lt 36, 3) := by decide +kernel
theorem dX10_reads_38 : decode cX10_reads 38 = .ok (.aload_n 0, 1) := by decide +kernel
theorem dX10_reads_39 : decode cX10_reads 39 = .ok (.bipush 59, 2) := by decide +kernel
theorem dX10_reads_41 : decode cX10_reads 41 = .ok (.bipush 59, 2) := by decide +kernel
theorem dX10_reads_43 : decode cX10_reads 43 = .ok (.invokevirtual 162, 3) := by decide +kernel
theorem dX10_reads_46 : decode cX10_reads 46 = .ok (.ifCond .ne 25, 3) := by decide +kernel
theorem dX10_reads_49 : decode cX10_reads 49 = .ok (.aload_n 0, 1) := by decide +kernel
theorem dX10_reads_50 : decode cX10_reads 50 = .ok (.invokevirtual 156, 3) := by decide +kernel
theorem dX10_reads_53 : decode cX10_reads 53 = .ok (.ifCond .ne 18, 3) := by decide +kernel
theorem dX10_reads_56 : decode cX10_reads 56 = .ok (.aload_n 0, 1) := by decide +kernel
theorem dX10_reads_57 : decode cX10_reads 57 = .ok (.getfield 153, 3) := by decide +kernel
theorem dX10_reads_60 : decode cX10_reads 60 = .ok (.aload_n 0, 1) := by decide +kernel
theorem dX10_reads_61 : decode cX10_reads 61 = .ok (.getfield 150, 3) := by decide +kernel
theorem dX10_reads_64 : decode cX10_reads 64 = .ok (.if_icmp .ne 7, 3) := by decide +kernel
theorem dX10_reads_67 : decode cX10_reads 67 = .ok (.iconst 1, 1) := by decide +kernel
theorem dX10_reads_68 : decode cX10_reads 68 = .ok (.goto 4, 3) := by decide +kernel
theorem dX10_reads_71 : decode cX10_reads 71 = .ok (.iconst 0, 1) := by decide +kernel
theorem dX10_reads_72 : decode cX10_reads 72 = .ok (.istore_n 3, 1) := by decide +kernel
theorem dX10_reads_73 : decode cX10_reads 73 = .ok (.iload_n 3, 1) := by decide +kernel
theorem dX10_reads_74 : decode cX10_reads 74 = .ok (.ifCond .ne 29, 3) := by decide +kernel
theorem dX10_reads_77 : decode cX10_reads 77 = .ok (.iload_n 2, 1) := by decide +kernel
theorem dX10_reads_78 : decode cX10_reads 78 = .ok (.ifCond .ge 11, 3) := by decide +kernel
theorem dX10_reads_81 : decode cX10_reads 81 = .ok (.iload_n 1, 1) := by decide +kernel
theorem dX10_reads_82 : decode cX10_reads 82 = .ok (.ifCond .ge 7, 3) := by decide +kernel
theorem dX10_reads_85 : decode cX10_reads 85 = .ok (.iconst 0, 1) := by decide +kernel
theorem dX10_reads_86 : decode cX10_reads 86 = .ok (.goto 7, 3) := by decide +kernel
theorem dX10_reads_89 : decode cX10_reads 89 = .ok (.aload_n 0, 1) := by decide +kernel
theorem dX10_reads_90 : decode cX10_reads 90 = .ok (.invokevirtual 156, 3) := by decide +kernel
theorem dX10_reads_93 : decode cX10_reads 93 = .ok (.istore 4, 2) := by decide +kernel
theorem dX10_reads_95 : decode cX10_reads 95 = .ok (.bipush (-10), 2) := by decide +kernel
theorem dX10_reads_97 : decode cX10_reads 97 = .ok (.aload_n 0, 1) := by decide +kernel
theorem dX10_reads_98 : decode cX10_reads 98 = .ok (.getfield 153, 3) := by decide +kernel
theorem dX10_reads_101 : decode cX10_reads 101 = .ok (.isub, 1) := by decide +kernel
theorem dX10_reads_102 : decode cX10_reads 102 = .ok (.ireturn, 1) := by decide +kernel
theorem dX10_reads_103 : decode cX10_reads 103 = .ok (.iload_n 1, 1) := by decide +kernel
theorem dX10_reads_104 : decode cX10_reads 104 = .ok (.ifCond .ne 42, 3) := by decide +kernel
theorem dX10_reads_107 : decode cX10_reads 107 = .ok (.aload_n 0, 1) := by decide +kernel
theorem dX10_reads_108 : decode cX10_reads 108 = .ok (.iload_n 2, 1) := by decide +kernel
theorem dX10_reads_109 : decode cX10_reads 109 = .ok (.putfield 187, 3) := by decide +kernel
theorem dX10_reads_112 : decode cX10_reads 112 = .ok (.iconst 0, 1) := by decide +kernel
theorem dX10_reads_113 : decode cX10_reads 113 = .ok (.istore 4, 2) := by decide +kernel
theorem dX10_reads_115 : decode cX10_reads 115 = .ok (.iload 4, 2) := by decide +kernel
theorem dX10_reads_117 : decode cX10_reads 117 = .ok (.iconst 3, 1) := by decide +kernel
theorem dX10_reads_118 : decode cX10_reads 118 = .ok (.iload_n 2, 1) := by decide +kernel
theorem dX10_reads_119 : decode cX10_reads 119 = .ok (.imul, 1) := by decide +kernel
theorem dX10_reads_120 : decode cX10_reads 120 = .ok (.if_icmp .ge 23, 3) := by decide +kernel
theorem dX10_reads_123 : decode cX10_reads 123 = .ok (.aload_n 0, 1) := by decide +kernel
theorem dX10_reads_124 : decode cX10_reads 124 = .ok (.getfield 13, 3) := by decide +kernel
theorem dX10_reads_127 : decode cX10_reads 127 = .ok (.iload 4, 2) := by decide +kernel
theorem dX10_reads_129 : decode cX10_reads 129 = .ok (.aload_n 0, 1) := by decide +kernel
theorem dX10_reads_130 : decode cX10_reads 130 = .ok (.getfield 41, 3) := by decide +kernel
theorem dX10_reads_133 : decode cX10_reads 133 = .ok (.iload 4, 2) := by decide +kernel
theorem dX10_reads_135 : decode cX10_reads 135 = .ok (.iaload, 1) := by decide +kernel
theorem dX10_reads_136 : decode cX10_reads 136 = .ok (.iastore, 1) := by decide +kernel
theorem dX10_reads_137 : decode cX10_reads 137 = .ok (.iinc 4 1, 3) := by decide +kernel
theorem dX10_reads_140 : decode cX10_reads 140 = .ok (.goto (-25), 3) := by decide +kernel
theorem dX10_reads_143 : decode cX10_reads 143 = .ok (.goto 89, 3) := by decide +kernel
theorem dX10_reads_146 : decode cX10_reads 146 = .ok (.aload_n 0, 1) := by decide +kernel
theorem dX10_reads_147 : decode cX10_reads 147 = .ok (.iload_n 2, 1) := by decide +kernel
theorem dX10_reads_148 : decode cX10_reads 148 = .ok (.putfield 31, 3) := by decide +kernel
theorem dX10_reads_151 : decode cX10_reads 151 = .ok (.aload_n 0, 1) := by decide +kernel
theorem dX10_reads_152 : decode cX10_reads 152 = .ok (.aload_n 0, 1) := by decide +kernel
theorem dX10_reads_153 : decode cX10_reads 153 = .ok (.getfield 168, 3) := by decide +kernel
theorem dX10_reads_156 : decode cX10_reads 156 = .ok (.putfield 190, 3) := by decide +kernel
theorem dX10_reads_159 : decode cX10_reads 159 = .ok (.iconst 0, 1) := by decide +kernel
theorem dX10_reads_160 : decode cX10_reads 160 = .ok (.istore 4, 2) := by decide +kernel
theorem dX10_reads_162 : decode cX10_reads 162 = .ok (.iload 4, 2) := by decide +kernel
theorem dX10_reads_164 : decode cX10_reads 164 = .ok (.sipush 128, 3) := by decide +kernel
theorem dX10_reads_167 : decode cX10_reads 167 = .ok (.if_icmp .ge 65, 3) := by decide +kernel
theorem dX10_reads_170 : decode cX10_reads 170 = .ok (.aload_n 0, 1) := by decide +kernel
theorem dX10_reads_171 : decode cX10_reads 171 = .ok (.getfield 19, 3) := by decide +kernel
theorem dX10_reads_174 : decode cX10_reads 174 = .ok (.iload 4, 2) := by decide +kernel
theorem dX10_reads_176 : decode cX10_reads 176 = .ok (.aload_n 0, 1) := by decide +kernel
theorem dX10_reads_177 : decode cX10_reads 177 = .ok (.getfield 44, 3) := by decide +kernel
theorem dX10_reads_180 : decode cX10_reads 180 = .ok (.iload 4, 2) := by decide +kernel
theorem dX10_reads_182 : decode cX10_reads 182 = .ok (.iaload, 1) := by decide +kernel
theorem dX10_reads_183 : decode cX10_reads 183 = .ok (.iastore, 1) := by decide +kernel
theorem dX10_reads_184 : decode cX10_reads 184 = .ok (.aload_n 0, 1) := by decide +kernel
theorem dX10_reads_185 : decode cX10_reads 185 = .ok (.getfield 22, 3) := by decide +kernel
theorem dX10_reads_188 : decode cX10_reads 188 = .ok (.iload 4, 2) := by decide +kernel
theorem dX10_reads_190 : decode cX10_reads 190 = .ok (.aload_n 0, 1) := by decide +kernel
theorem dX10_reads_191 : decode cX10_reads 191 = .ok (.getfield 47, 3) := by decide +kernel
theorem dX10_reads_194 : decode cX10_reads 194 = .ok (.iload 4, 2) := by decide +kernel
theorem dX10_reads_196 : decode cX10_reads 196 = .ok (.iaload, 1) := by decide +kernel
theorem dX10_reads_197 : decode cX10_reads 197 = .ok (.iastore, 1) := by decide +kernel
theorem dX10_reads_198 : decode cX10_reads 198 = .ok (.aload_n 0, 1) := by decide +kernel
theorem dX10_reads_199 : decode cX10_reads 199 = .ok (.getfield 25, 3) := by decide +kernel
theorem dX10_reads_202 : decode cX10_reads 202 = .ok (.iload 4, 2) := by decide +kernel
theorem dX10_reads_204 : decode cX10_reads 204 = .ok (.aload_n 0, 1) := by decide +kernel
theorem dX10_reads_205 : decode cX10_reads 205 = .ok (.getfield 50, 3) := by decide +kernel
theorem dX10_reads_208 : decode cX10_reads 208 = .ok (.iload 4, 2) := by decide +kernel
theorem dX10_reads_210 : decode cX10_reads 210 = .ok (.iaload, 1) := by decide +kernel
theorem dX10_reads_211 : decode cX10_reads 211 = .ok (.iastore, 1) := by decide +kernel
theorem dX10_reads_212 : decode cX10_reads 212 = .ok (.aload_n 0, 1) := by decide +kernel
theorem dX10_reads_213 : decode cX10_reads 213 = .ok (.getfield 28, 3) := by decide +kernel
theorem dX10_reads_216 : decode cX10_reads 216 = .ok (.iload 4, 2) := by decide +kernel
theorem dX10_reads_218 : decode cX10_reads 218 = .ok (.aload_n 0, 1) := by decide +kernel
theorem dX10_reads_219 : decode cX10_reads 219 = .ok (.getfield 53, 3) := by decide +kernel
theorem dX10_reads_222 : decode cX10_reads 222 = .ok (.iload 4, 2) := by decide +kernel
theorem dX10_reads_224 : decode cX10_reads 224 = .ok (.iaload, 1) := by decide +kernel
theorem dX10_reads_225 : decode cX10_reads 225 = .ok (.iastore, 1) := by decide +kernel
theorem dX10_reads_226 : decode cX10_reads 226 = .ok (.iinc 4 1, 3) := by decide +kernel
theorem dX10_reads_229 : decode cX10_reads 229 = .ok (.goto (-67), 3) := by decide +kernel
theorem dX10_reads_232 : decode cX10_reads 232 = .ok (.iload_n 2, 1) := by decide +kernel
theorem dX10_reads_233 : decode cX10_reads 233 = .ok (.ireturn, 1) := by decide +kernel
theorem dX10_isTarget_0 : decode cX10_isTarget 0 = .ok (.iload_n 1, 1) := by decide +kernel
theorem dX10_isTarget_1 : decode cX10_isTarget 1 = .ok (.i2l, 1) := by decide +kernel
theorem dX10_isTarget_2 : decode cX10_isTarget 2 = .ok (.lconst 0, 1) := by decide +kernel
theorem dX10_isTarget_3 : decode cX10_isTarget 3 = .ok (.aload_n 0, 1) := by decide +kernel
theorem dX10_isTarget_4 : decode cX10_isTarget 4 = .ok (.getfield 187, 3) := by decide +kernel
theorem dX10_isTarget_7 : decode cX10_isTarget 7 = .ok (.iconst 1, 1) := by decide +kernel
theorem dX10_isTarget_8 : decode cX10_isTarget 8 = .ok (.isub, 1) := by decide +kernel
theorem dX10_isTarget_9 : decode cX10_isTarget 9 = .ok (.i2l, 1) := by decide +kernel
theorem dX10_isTarget_10 : decode cX10_isTarget 10 = .ok (.invokestatic 89, 3) := by decide +kernel
theorem dX10_isTarget_13 : decode cX10_isTarget 13 = .ok (.ireturn, 1) := by decide +kernel
theorem dX10_targetLeft_0 : decode cX10_targetLeft 0 = .ok (.iload_n 1, 1) := by decide +kernel
theorem dX10_targetLeft_1 : decode cX10_targetLeft 1 = .ok (.ifCond .ne 8, 3) := by decide +kernel
theorem dX10_targetLeft_4 : decode cX10_targetLeft 4 = .ok (.bipush 6, 2) := by decide +kernel
theorem dX10_targetLeft_6 : decode cX10_targetLeft 6 = .ok (.goto 13, 3) := by decide +kernel
theorem dX10_targetLeft_9 : decode cX10_targetLeft 9 = .ok (.aload_n 0, 1) := by decide +kernel
theorem dX10_targetLeft_10 : decode cX10_targetLeft 10 = .ok (.getfield 13, 3) := by decide +kernel
theorem dX10_targetLeft_13 : decode cX10_targetLeft 13 = .ok (.iconst 3, 1) := by decide +kernel
theorem dX10_targetLeft_14 : decode cX10_targetLeft 14 = .ok (.iload_n 1, 1) := by decide +kernel
theorem dX10_targetLeft_15 : decode cX10_targetLeft 15 = .ok (.iconst 1, 1) := by decide +kernel
theorem dX10_targetLeft_16 : decode cX10_targetLeft 16 = .ok (.isub, 1) := by decide +kernel
theorem dX10_targetLeft_17 : decode cX10_targetLeft 17 = .ok (.imul, 1) := by decide +kernel
theorem dX10_targetLeft_18 : decode cX10_targetLeft 18 = .ok (.iaload, 1) := by decide +kernel
theorem dX10_targetLeft_19 : decode cX10_targetLeft 19 = .ok (.ireturn, 1) := by decide +kernel
theorem dX10_targetRight_0 : decode cX10_targetRight 0 = .ok (.iload_n 1, 1) := by decide +kernel
theorem dX10_targetRight_1 : decode cX10_targetRight 1 = .ok (.aload_n 0, 1) := by decide +kernel
theorem dX10_targetRight_2 : decode cX10_targetRight 2 = .ok (.getfield 187, 3) := by decide +kernel
theorem dX10_targetRight_5 : decode cX10_targetRight 5 = .ok (.iconst 1, 1) := by decide +kernel
theorem dX10_targetRight_6 : decode cX10_targetRight 6 = .ok (.isub, 1) := by decide +kernel
theorem dX10_targetRight_7 : decode cX10_targetRight 7 = .ok (.if_icmp .ne 8, 3) := by decide +kernel
theorem dX10_targetRight_10 : decode cX10_targetRight 10 = .ok (.bipush 6, 2) := by decide +kernel
theorem dX10_targetRight_12 : decode cX10_targetRight 12 = .ok (.goto 13, 3) := by decide +kernel
theorem dX10_targetRight_15 : decode cX10_targetRight 15 = .ok (.aload_n 0, 1) := by decide +kernel
theorem dX10_targetRight_16 : decode cX10_targetRight 16 = .ok (.getfield 13, 3) := by decide +kernel
theorem dX10_targetRight_19 : decode cX10_targetRight 19 = .ok (.iconst 3, 1) := by decide +kernel
theorem dX10_targetRight_20 : decode cX10_targetRight 20 = .ok (.iload_n 1, 1) := by decide +kernel
theorem dX10_targetRight_21 : decode cX10_targetRight 21 = .ok (.iconst 1, 1) := by decide +kernel
theorem dX10_targetRight_22 : decode cX10_targetRight 22 = .ok (.iadd, 1) := by decide +kernel
theorem dX10_targetRight_23 : decode cX10_targetRight 23 = .ok (.imul, 1) := by decide +kernel
theorem dX10_targetRight_24 : decode cX10_targetRight 24 = .ok (.iaload, 1) := by decide +kernel
theorem dX10_targetRight_25 : decode cX10_targetRight 25 = .ok (.ireturn, 1) := by decide +kernel
theorem dX10_target_0 : decode cX10_target 0 = .ok (.aload_n 0, 1) := by decide +kernel
theorem dX10_target_1 : decode cX10_target 1 = .ok (.iload_n 1, 1) := by decide +kernel
theorem dX10_target_2 : decode cX10_target 2 = .ok (.invokevirtual 193, 3) := by decide +kernel
theorem dX10_target_5 : decode cX10_target 5 = .ok (.ifCond .eq 15, 3) := by decide +kernel
theorem dX10_target_8 : decode cX10_target 8 = .ok (.iload_n 2, 1) := by decide +kernel
theorem dX10_target_9 : decode cX10_target 9 = .ok (.i2l, 1) := by decide +kernel
theorem dX10_target_10 : decode cX10_target 10 = .ok (.lconst 0, 1) := by decide +kernel
theorem dX10_target_11 : decode cX10_target 11 = .ok (.ldc2_w 143, 3) := by decide +kernel
theorem dX10_target_14 : decode cX10_target 14 = .ok (.invokestatic 89, 3) := by decide +kernel
theorem dX10_target_17 : decode cX10_target 17 = .ok (.ifCond .ne 10, 3) := by decide +kernel
theorem dX10_target_20 : decode cX10_target 20 = .ok (.aload_n 0, 1) := by decide +kernel
theorem dX10_target_21 : decode cX10_target 21 = .ok (.bipush (-2), 2) := by decide +kernel
theorem dX10_target_23 : decode cX10_target 23 = .ok (.invokevirtual 105, 3) := by decide +kernel
theorem dX10_target_26 : decode cX10_target 26 = .ok (.ireturn, 1) := by decide +kernel
theorem dX10_target_27 : decode cX10_target 27 = .ok (.iload_n 2, 1) := by decide +kernel
theorem dX10_target_28 : decode cX10_target 28 = .ok (.iconst 3, 1) := by decide +kernel
theorem dX10_target_29 : decode cX10_target 29 = .ok (.if_icmp .ge 16, 3) := by decide +kernel
theorem dX10_target_32 : decode cX10_target 32 = .ok (.aload_n 0, 1) := by decide +kernel
theorem dX10_target_33 : decode cX10_target 33 = .ok (.getfield 13, 3) := by decide +kernel
theorem dX10_target_36 : decode cX10_target 36 = .ok (.iconst 3, 1) := by decide +kernel
theorem dX10_target_37 : decode cX10_target 37 = .ok (.iload_n 1, 1) := by decide +kernel
theorem dX10_target_38 : decode cX10_target 38 = .ok (.imul, 1) := by decide +kernel
theorem dX10_target_39 : decode cX10_target 39 = .ok (.iload_n 2, 1) := by decide +kernel
theorem dX10_target_40 : decode cX10_target 40 = .ok (.iadd, 1) := by decide +kernel
theorem dX10_target_41 : decode cX10_target 41 = .ok (.iaload, 1) := by decide +kernel
theorem dX10_target_42 : decode cX10_target 42 = .ok (.goto 21, 3) := by decide +kernel
theorem dX10_target_45 : decode cX10_target 45 = .ok (.iload_n 2, 1) := by decide +kernel
theorem dX10_target_46 : decode cX10_target 46 = .ok (.iconst 3, 1) := by decide +kernel
theorem dX10_target_47 : decode cX10_target 47 = .ok (.if_icmp .ne 11, 3) := by decide +kernel
theorem dX10_target_50 : decode cX10_target 50 = .ok (.aload_n 0, 1) := by decide +kernel
theorem dX10_target_51 : decode cX10_target 51 = .ok (.iload_n 1, 1) := by decide +kernel
theorem dX10_target_52 : decode cX10_target 52 = .ok (.invokevirtual 196, 3) := by decide +kernel
theorem dX10_target_55 : decode cX10_target 55 = .ok (.goto 8, 3) := by decide +kernel
theorem dX10_target_58 : decode cX10_target 58 = .ok (.aload_n 0, 1) := by decide +kernel
theorem dX10_target_59 : decode cX10_target 59 = .ok (.iload_n 1, 1) := by decide +kernel
theorem dX10_target_60 : decode cX10_target 60 = .ok (.invokevirtual 199, 3) := by decide +kernel
theorem dX10_target_63 : decode cX10_target 63 = .ok (.ireturn, 1) := by decide +kernel
theorem dX10_answers_0 : decode cX10_answers 0 = .ok (.aload_n 0, 1) := by decide +kernel
theorem dX10_answers_1 : decode cX10_answers 1 = .ok (.getfield 22, 3) := by decide +kernel
theorem dX10_answers_4 : decode cX10_answers 4 = .ok (.iload_n 1, 1) := by decide +kernel
theorem dX10_answers_5 : decode cX10_answers 5 = .ok (.iaload, 1) := by decide +kernel
theorem dX10_answers_6 : decode cX10_answers 6 = .ok (.istore 6, 2) := by decide +kernel
theorem dX10_answers_8 : decode cX10_answers 8 = .ok (.aload_n 0, 1) := by decide +kernel
theorem dX10_answers_9 : decode cX10_answers 9 = .ok (.getfield 19, 3) := by decide +kernel
theorem dX10_answers_12 : decode cX10_answers 12 = .ok (.iload_n 1, 1) := by decide +kernel
theorem dX10_answers_13 : decode cX10_answers 13 = .ok (.iaload, 1) := by decide +kernel
theorem dX10_answers_14 : decode cX10_answers 14 = .ok (.tableswitch 63 1 3 #[26, 38, 50], 26) := by decide +kernel
theorem dX10_answers_40 : decode cX10_answers 40 = .ok (.iload_n 2, 1) := by decide +kernel
theorem dX10_answers_41 : decode cX10_answers 41 = .ok (.iload 6, 2) := by decide +kernel
theorem dX10_answers_43 : decode cX10_answers 43 = .ok (.if_icmp .ne 7, 3) := by decide +kernel
theorem dX10_answers_46 : decode cX10_answers 46 = .ok (.iconst 1, 1) := by decide +kernel
theorem dX10_answers_47 : decode cX10_answers 47 = .ok (.goto 4, 3) := by decide +kernel
theorem dX10_answers_50 : decode cX10_answers 50 = .ok (.iconst 0, 1) := by decide +kernel
theorem dX10_answers_51 : decode cX10_answers 51 = .ok (.ireturn, 1) := by decide +kernel
theorem dX10_answers_52 : decode cX10_answers 52 = .ok (.iload_n 3, 1) := by decide +kernel
theorem dX10_answers_53 : decode cX10_answers 53 = .ok (.iload 6, 2) := by decide +kernel
theorem dX10_answers_55 : decode cX10_answers 55 = .ok (.if_icmp .ne 7, 3) := by decide +kernel
theorem dX10_answers_58 : decode cX10_answers 58 = .ok (.iconst 1, 1) := by decide +kernel
theorem dX10_answers_59 : decode cX10_answers 59 = .ok (.goto 4, 3) := by decide +kernel
theorem dX10_answers_62 : decode cX10_answers 62 = .ok (.iconst 0, 1) := by decide +kernel
theorem dX10_answers_63 : decode cX10_answers 63 = .ok (.ireturn, 1) := by decide +kernel
theorem dX10_answers_64 : decode cX10_answers 64 = .ok (.iload 4, 2) := by decide +kernel
theorem dX10_answers_66 : decode cX10_answers 66 = .ok (.iload 6, 2) := by decide +kernel
theorem dX10_answers_68 : decode cX10_answers 68 = .ok (.if_icmp .le 7, 3) := by decide +kernel
theorem dX10_answers_71 : decode cX10_answers 71 = .ok (.iconst 1, 1) := by decide +kernel
theorem dX10_answers_72 : decode cX10_answers 72 = .ok (.goto 4, 3) := by decide +kernel
theorem dX10_answers_75 : decode cX10_answers 75 = .ok (.iconst 0, 1) := by decide +kernel
theorem dX10_answers_76 : decode cX10_answers 76 = .ok (.ireturn, 1) := by decide +kernel
theorem dX10_answers_77 : decode cX10_answers 77 = .ok (.iload 5, 2) := by decide +kernel
theorem dX10_answers_79 : decode cX10_answers 79 = .ok (.iload 6, 2) := by decide +kernel
theorem dX10_answers_81 : decode cX10_answers 81 = .ok (.if_icmp .le 7, 3) := by decide +kernel
theorem dX10_answers_84 : decode cX10_answers 84 = .ok (.iconst 1, 1) := by decide +kernel
theorem dX10_answers_85 : decode cX10_answers 85 = .ok (.goto 4, 3) := by decide +kernel
theorem dX10_answers_88 : decode cX10_answers 88 = .ok (.iconst 0, 1) := by decide +kernel
theorem dX10_answers_89 : decode cX10_answers 89 = .ok (.ireturn, 1) := by decide +kernel
theorem dX10_unitAnswers_0 : decode cX10_unitAnswers 0 = .ok (.aload_n 0, 1) := by decide +kernel
theorem dX10_unitAnswers_1 : decode cX10_unitAnswers 1 = .ok (.iload_n 1, 1) := by decide +kernel
theorem dX10_unitAnswers_2 : decode cX10_unitAnswers 2 = .ok (.aload_n 0, 1) := by decide +kernel
theorem dX10_unitAnswers_3 : decode cX10_unitAnswers 3 = .ok (.iload_n 2, 1) := by decide +kernel
theorem dX10_unitAnswers_4 : decode cX10_unitAnswers 4 = .ok (.iconst 1, 1) := by decide +kernel
theorem dX10_unitAnswers_5 : decode cX10_unitAnswers 5 = .ok (.invokevirtual 125, 3) := by decide +kernel
theorem dX10_unitAnswers_8 : decode cX10_unitAnswers 8 = .ok (.aload_n 0, 1) := by decide +kernel
theorem dX10_unitAnswers_9 : decode cX10_unitAnswers 9 = .ok (.iload_n 2, 1) := by decide +kernel
theorem dX10_unitAnswers_10 : decode cX10_unitAnswers 10 = .ok (.iconst 2, 1) := by decide +kernel
theorem dX10_unitAnswers_11 : decode cX10_unitAnswers 11 = .ok (.invokevirtual 125, 3) := by decide +kernel
theorem dX10_unitAnswers_14 : decode cX10_unitAnswers 14 = .ok (.aload_n 0, 1) := by decide +kernel
theorem dX10_unitAnswers_15 : decode cX10_unitAnswers 15 = .ok (.iload_n 2, 1) := by decide +kernel
theorem dX10_unitAnswers_16 : decode cX10_unitAnswers 16 = .ok (.iconst 3, 1) := by decide +kernel
theorem dX10_unitAnswers_17 : decode cX10_unitAnswers 17 = .ok (.invokevirtual 125, 3) := by decide +kernel
theorem dX10_unitAnswers_20 : decode cX10_unitAnswers 20 = .ok (.aload_n 0, 1) := by decide +kernel
theorem dX10_unitAnswers_21 : decode cX10_unitAnswers 21 = .ok (.iload_n 2, 1) := by decide +kernel
theorem dX10_unitAnswers_22 : decode cX10_unitAnswers 22 = .ok (.iconst 4, 1) := by decide +kernel
theorem dX10_unitAnswers_23 : decode cX10_unitAnswers 23 = .ok (.invokevirtual 125, 3) := by decide +kernel
theorem dX10_unitAnswers_26 : decode cX10_unitAnswers 26 = .ok (.invokevirtual 202, 3) := by decide +kernel
theorem dX10_unitAnswers_29 : decode cX10_unitAnswers 29 = .ok (.ireturn, 1) := by decide +kernel
theorem dX10_targetAnswers_0 : decode cX10_targetAnswers 0 = .ok (.aload_n 0, 1) := by decide +kernel
theorem dX10_targetAnswers_1 : decode cX10_targetAnswers 1 = .ok (.iload_n 1, 1) := by decide +kernel
theorem dX10_targetAnswers_2 : decode cX10_targetAnswers 2 = .ok (.aload_n 0, 1) := by decide +kernel
theorem dX10_targetAnswers_3 : decode cX10_targetAnswers 3 = .ok (.iload_n 2, 1) := by decide +kernel
theorem dX10_targetAnswers_4 : decode cX10_targetAnswers 4 = .ok (.invokevirtual 196, 3) := by decide +kernel
theorem dX10_targetAnswers_7 : decode cX10_targetAnswers 7 = .ok (.aload_n 0, 1) := by decide +kernel
theorem dX10_targetAnswers_8 : decode cX10_targetAnswers 8 = .ok (.iload_n 2, 1) := by decide +kernel
theorem dX10_targetAnswers_9 : decode cX10_targetAnswers 9 = .ok (.invokevirtual 199, 3) := by decide +kernel
theorem dX10_targetAnswers_12 : decode cX10_targetAnswers 12 = .ok (.aload_n 0, 1) := by decide +kernel
theorem dX10_targetAnswers_13 : decode cX10_targetAnswers 13 = .ok (.getfield 13, 3) := by decide +kernel
theorem dX10_targetAnswers_16 : decode cX10_targetAnswers 16 = .ok (.iconst 3, 1) := by decide +kernel
theorem dX10_targetAnswers_17 : decode cX10_targetAnswers 17 = .ok (.iload_n 2, 1) := by decide +kernel
theorem dX10_targetAnswers_18 : decode cX10_targetAnswers 18 = .ok (.imul, 1) := by decide +kernel
theorem dX10_targetAnswers_19 : decode cX10_targetAnswers 19 = .ok (.iconst 1, 1) := by decide +kernel
theorem dX10_targetAnswers_20 : decode cX10_targetAnswers 20 = .ok (.iadd, 1) := by decide +kernel
theorem dX10_targetAnswers_21 : decode cX10_targetAnswers 21 = .ok (.iaload, 1) := by decide +kernel
theorem dX10_targetAnswers_22 : decode cX10_targetAnswers 22 = .ok (.aload_n 0, 1) := by decide +kernel
theorem dX10_targetAnswers_23 : decode cX10_targetAnswers 23 = .ok (.getfield 13, 3) := by decide +kernel
theorem dX10_targetAnswers_26 : decode cX10_targetAnswers 26 = .ok (.iconst 3, 1) := by decide +kernel
theorem dX10_targetAnswers_27 : decode cX10_targetAnswers 27 = .ok (.iload_n 2, 1) := by decide +kernel
theorem dX10_targetAnswers_28 : decode cX10_targetAnswers 28 = .ok (.imul, 1) := by decide +kernel
theorem dX10_targetAnswers_29 : decode cX10_targetAnswers 29 = .ok (.iconst 2, 1) := by decide +kernel
theorem dX10_targetAnswers_30 : decode cX10_targetAnswers 30 = .ok (.iadd, 1) := by decide +kernel
theorem dX10_targetAnswers_31 : decode cX10_targetAnswers 31 = .ok (.iaload, 1) := by decide +kernel
theorem dX10_targetAnswers_32 : decode cX10_targetAnswers 32 = .ok (.invokevirtual 202, 3) := by decide +kernel
theorem dX10_targetAnswers_35 : decode cX10_targetAnswers 35 = .ok (.ireturn, 1) := by decide +kernel
theorem dX10_leafOf_0 : decode cX10_leafOf 0 = .ok (.iconst 0, 1) := by decide +kernel
theorem dX10_leafOf_1 : decode cX10_leafOf 1 = .ok (.istore_n 3, 1) := by decide +kernel
theorem dX10_leafOf_2 : decode cX10_leafOf 2 = .ok (.aload_n 0, 1) := by decide +kernel
theorem dX10_leafOf_3 : decode cX10_leafOf 3 = .ok (.getfield 19, 3) := by decide +kernel
theorem dX10_leafOf_6 : decode cX10_leafOf 6 = .ok (.iload_n 3, 1) := by decide +kernel
theorem dX10_leafOf_7 : decode cX10_leafOf 7 = .ok (.iaload, 1) := by decide +kernel
theorem dX10_leafOf_8 : decode cX10_leafOf 8 = .ok (.ifCond .eq 48, 3) := by decide +kernel
theorem dX10_leafOf_11 : decode cX10_leafOf 11 = .ok (.iload_n 1, 1) := by decide +kernel
theorem dX10_leafOf_12 : decode cX10_leafOf 12 = .ok (.ifCond .eq 12, 3) := by decide +kernel
theorem dX10_leafOf_15 : decode cX10_leafOf 15 = .ok (.aload_n 0, 1) := by decide +kernel
theorem dX10_leafOf_16 : decode cX10_leafOf 16 = .ok (.iload_n 3, 1) := by decide +kernel
theorem dX10_leafOf_17 : decode cX10_leafOf 17 = .ok (.iload_n 2, 1) := by decide +kernel
theorem dX10_leafOf_18 : decode cX10_leafOf 18 = .ok (.invokevirtual 206, 3) := by decide +kernel
theorem dX10_leafOf_21 : decode cX10_leafOf 21 = .ok (.goto 9, 3) := by decide +kernel
theorem dX10_leafOf_24 : decode cX10_leafOf 24 = .ok (.aload_n 0, 1) := by decide +kernel
theorem dX10_leafOf_25 : decode cX10_leafOf 25 = .ok (.iload_n 3, 1) := by decide +kernel
theorem dX10_leafOf_26 : decode cX10_leafOf 26 = .ok (.iload_n 2, 1) := by decide +kernel
theorem dX10_leafOf_27 : decode cX10_leafOf 27 = .ok (.invokevirtual 210, 3) := by decide +kernel
theorem dX10_leafOf_30 : decode cX10_leafOf 30 = .ok (.istore 4, 2) := by decide +kernel
theorem dX10_leafOf_32 : decode cX10_leafOf 32 = .ok (.iload 4, 2) := by decide +kernel
theorem dX10_leafOf_34 : decode cX10_leafOf 34 = .ok (.ifCond .eq 12, 3) := by decide +kernel
theorem dX10_leafOf_37 : decode cX10_leafOf 37 = .ok (.aload_n 0, 1) := by decide +kernel
theorem dX10_leafOf_38 : decode cX10_leafOf 38 = .ok (.getfield 25, 3) := by decide +kernel
theorem dX10_leafOf_41 : decode cX10_leafOf 41 = .ok (.iload_n 3, 1) := by decide +kernel
theorem dX10_leafOf_42 : decode cX10_leafOf 42 = .ok (.iaload, 1) := by decide +kernel
theorem dX10_leafOf_43 : decode cX10_leafOf 43 = .ok (.goto 9, 3) := by decide +kernel
theorem dX10_leafOf_46 : decode cX10_leafOf 46 = .ok (.aload_n 0, 1) := by decide +kernel
theorem dX10_leafOf_47 : decode cX10_leafOf 47 = .ok (.getfield 28, 3) := by decide +kernel
theorem dX10_leafOf_50 : decode cX10_leafOf 50 = .ok (.iload_n 3, 1) := by decide +kernel
theorem dX10_leafOf_51 : decode cX10_leafOf 51 = .ok (.iaload, 1) := by decide +kernel
theorem dX10_leafOf_52 : decode cX10_leafOf 52 = .ok (.istore_n 3, 1) := by decide +kernel
theorem dX10_leafOf_53 : decode cX10_leafOf 53 = .ok (.goto (-51), 3) := by decide +kernel
theorem dX10_leafOf_56 : decode cX10_leafOf 56 = .ok (.aload_n 0, 1) := by decide +kernel
theorem dX10_leafOf_57 : decode cX10_leafOf 57 = .ok (.getfield 22, 3) := by decide +kernel
theorem dX10_leafOf_60 : decode cX10_leafOf 60 = .ok (.iload_n 3, 1) := by decide +kernel
theorem dX10_leafOf_61 : decode cX10_leafOf 61 = .ok (.iaload, 1) := by decide +kernel
theorem dX10_leafOf_62 : decode cX10_leafOf 62 = .ok (.ireturn, 1) := by decide +kernel
theorem dX10_emptyLeaves_0 : decode cX10_emptyLeaves 0 = .ok (.iconst 0, 1) := by decide +kernel
theorem dX10_emptyLeaves_1 : decode cX10_emptyLeaves 1 = .ok (.istore_n 1, 1) := by decide +kernel
theorem dX10_emptyLeaves_2 : decode cX10_emptyLeaves 2 = .ok (.iconst 0, 1) := by decide +kernel
theorem dX10_emptyLeaves_3 : decode cX10_emptyLeaves 3 = .ok (.istore_n 2, 1) := by decide +kernel
theorem dX10_emptyLeaves_4 : decode cX10_emptyLeaves 4 = .ok (.iload_n 2, 1) := by decide +kernel
theorem dX10_emptyLeaves_5 : decode cX10_emptyLeaves 5 = .ok (.aload_n 0, 1) := by decide +kernel
theorem dX10_emptyLeaves_6 : decode cX10_emptyLeaves 6 = .ok (.getfield 31, 3) := by decide +kernel
theorem dX10_emptyLeaves_9 : decode cX10_emptyLeaves 9 = .ok (.if_icmp .ge 62, 3) := by decide +kernel
theorem dX10_emptyLeaves_12 : decode cX10_emptyLeaves 12 = .ok (.iconst 0, 1) := by decide +kernel
theorem dX10_emptyLeaves_13 : decode cX10_emptyLeaves 13 = .ok (.istore_n 3, 1) := by decide +kernel
theorem dX10_emptyLeaves_14 : decode cX10_emptyLeaves 14 = .ok (.iconst 0, 1) := by decide +kernel
theorem dX10_emptyLeaves_15 : decode cX10_emptyLeaves 15 = .ok (.istore 4, 2) := by decide +kernel
theorem dX10_emptyLeaves_17 : decode cX10_emptyLeaves 17 = .ok (.iload 4, 2) := by decide +kernel
theorem dX10_emptyLeaves_19 : decode cX10_emptyLeaves 19 = .ok (.aload_n 0, 1) := by decide +kernel
theorem dX10_emptyLeaves_20 : decode cX10_emptyLeaves 20 = .ok (.getfield 86, 3) := by decide +kernel
theorem dX10_emptyLeaves_23 : decode cX10_emptyLeaves 23 = .ok (.if_icmp .ge 30, 3) := by decide +kernel
theorem dX10_emptyLeaves_26 : decode cX10_emptyLeaves 26 = .ok (.iload_n 3, 1) := by decide +kernel
theorem dX10_emptyLeaves_27 : decode cX10_emptyLeaves 27 = .ok (.ifCond .ne 14, 3) := by decide +kernel
theorem dX10_emptyLeaves_30 : decode cX10_emptyLeaves 30 = .ok (.aload_n 0, 1) := by decide +kernel
theorem dX10_emptyLeaves_31 : decode cX10_emptyLeaves 31 = .ok (.iconst 1, 1) := by decide +kernel
theorem dX10_emptyLeaves_32 : decode cX10_emptyLeaves 32 = .ok (.iload 4, 2) := by decide +kernel
theorem dX10_emptyLeaves_34 : decode cX10_emptyLeaves 34 = .ok (.invokevirtual 213, 3) := by decide +kernel
theorem dX10_emptyLeaves_37 : decode cX10_emptyLeaves 37 = .ok (.iload_n 2, 1) := by decide +kernel
theorem dX10_emptyLeaves_38 : decode cX10_emptyLeaves 38 = .ok (.if_icmp .ne 7, 3) := by decide +kernel
theorem dX10_emptyLeaves_41 : decode cX10_emptyLeaves 41 = .ok (.iconst 1, 1) := by decide +kernel
theorem dX10_emptyLeaves_42 : decode cX10_emptyLeaves 42 = .ok (.goto 4, 3) := by decide +kernel
theorem dX10_emptyLeaves_45 : decode cX10_emptyLeaves 45 = .ok (.iconst 0, 1) := by decide +kernel
theorem dX10_emptyLeaves_46 : decode cX10_emptyLeaves 46 = .ok (.istore_n 3, 1) := by decide +kernel
theorem dX10_emptyLeaves_47 : decode cX10_emptyLeaves 47 = .ok (.iinc 4 1, 3) := by decide +kernel
theorem dX10_emptyLeaves_50 : decode cX10_emptyLeaves 50 = .ok (.goto (-33), 3) := by decide +kernel
theorem dX10_emptyLeaves_53 : decode cX10_emptyLeaves 53 = .ok (.iload_n 1, 1) := by decide +kernel
theorem dX10_emptyLeaves_54 : decode cX10_emptyLeaves 54 = .ok (.iload_n 3, 1) := by decide +kernel
theorem dX10_emptyLeaves_55 : decode cX10_emptyLeaves 55 = .ok (.ifCond .eq 7, 3) := by decide +kernel
theorem dX10_emptyLeaves_58 : decode cX10_emptyLeaves 58 = .ok (.iconst 0, 1) := by decide +kernel
theorem dX10_emptyLeaves_59 : decode cX10_emptyLeaves 59 = .ok (.goto 4, 3) := by decide +kernel
theorem dX10_emptyLeaves_62 : decode cX10_emptyLeaves 62 = .ok (.iconst 1, 1) := by decide +kernel
theorem dX10_emptyLeaves_63 : decode cX10_emptyLeaves 63 = .ok (.iadd, 1) := by decide +kernel
theorem dX10_emptyLeaves_64 : decode cX10_emptyLeaves 64 = .ok (.istore_n 1, 1) := by decide +kernel
theorem dX10_emptyLeaves_65 : decode cX10_emptyLeaves 65 = .ok (.iinc 2 1, 3) := by decide +kernel
theorem dX10_emptyLeaves_68 : decode cX10_emptyLeaves 68 = .ok (.goto (-64), 3) := by decide +kernel
theorem dX10_emptyLeaves_71 : decode cX10_emptyLeaves 71 = .ok (.iload_n 1, 1) := by decide +kernel
