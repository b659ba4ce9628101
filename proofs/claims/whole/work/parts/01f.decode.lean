theorem dX9_init_170 : decode cX9_init 170 = .ok (.aload_n 0, 1) := by decide +kernel
theorem dX9_init_171 : decode cX9_init 171 = .ok (.iconst 5, 1) := by decide +kernel
theorem dX9_init_172 : decode cX9_init 172 = .ok (.newarray .int, 2) := by decide +kernel
theorem dX9_init_174 : decode cX9_init 174 = .ok (.putfield 80, 3) := by decide +kernel
theorem dX9_init_177 : decode cX9_init 177 = .ok (.aload_n 0, 1) := by decide +kernel
theorem dX9_init_178 : decode cX9_init 178 = .ok (.iconst 5, 1) := by decide +kernel
theorem dX9_init_179 : decode cX9_init 179 = .ok (.newarray .int, 2) := by decide +kernel
theorem dX9_init_181 : decode cX9_init 181 = .ok (.putfield 83, 3) := by decide +kernel
theorem dX9_init_184 : decode cX9_init 184 = .ok (.aload_n 0, 1) := by decide +kernel
theorem dX9_init_185 : decode cX9_init 185 = .ok (.sipush 300, 3) := by decide +kernel
theorem dX9_init_188 : decode cX9_init 188 = .ok (.newarray .int, 2) := by decide +kernel
theorem dX9_init_190 : decode cX9_init 190 = .ok (.putfield 86, 3) := by decide +kernel
theorem dX9_init_193 : decode cX9_init 193 = .ok (.aload_n 0, 1) := by decide +kernel
theorem dX9_init_194 : decode cX9_init 194 = .ok (.bipush 7, 2) := by decide +kernel
theorem dX9_init_196 : decode cX9_init 196 = .ok (.newarray .int, 2) := by decide +kernel
theorem dX9_init_198 : decode cX9_init 198 = .ok (.putfield 89, 3) := by decide +kernel
theorem dX9_init_201 : decode cX9_init 201 = .ok (.aload_n 0, 1) := by decide +kernel
theorem dX9_init_202 : decode cX9_init 202 = .ok (.bipush 7, 2) := by decide +kernel
theorem dX9_init_204 : decode cX9_init 204 = .ok (.newarray .int, 2) := by decide +kernel
theorem dX9_init_206 : decode cX9_init 206 = .ok (.putfield 92, 3) := by decide +kernel
theorem dX9_init_209 : decode cX9_init 209 = .ok (.aload_n 0, 1) := by decide +kernel
theorem dX9_init_210 : decode cX9_init 210 = .ok (.bipush 16, 2) := by decide +kernel
theorem dX9_init_212 : decode cX9_init 212 = .ok (.newarray .int, 2) := by decide +kernel
theorem dX9_init_214 : decode cX9_init 214 = .ok (.putfield 95, 3) := by decide +kernel
theorem dX9_init_217 : decode cX9_init 217 = .ok (.aload_n 0, 1) := by decide +kernel
theorem dX9_init_218 : decode cX9_init 218 = .ok (.iload_n 1, 1) := by decide +kernel
theorem dX9_init_219 : decode cX9_init 219 = .ok (.ifCond .ge 7, 3) := by decide +kernel
theorem dX9_init_222 : decode cX9_init 222 = .ok (.iconst 0, 1) := by decide +kernel
theorem dX9_init_223 : decode cX9_init 223 = .ok (.goto 17, 3) := by decide +kernel
theorem dX9_init_226 : decode cX9_init 226 = .ok (.iload_n 1, 1) := by decide +kernel
theorem dX9_init_227 : decode cX9_init 227 = .ok (.sipush 9000, 3) := by decide +kernel
theorem dX9_init_230 : decode cX9_init 230 = .ok (.if_icmp .le 9, 3) := by decide +kernel
theorem dX9_init_233 : decode cX9_init 233 = .ok (.sipush 9000, 3) := by decide +kernel
theorem dX9_init_236 : decode cX9_init 236 = .ok (.goto 4, 3) := by decide +kernel
theorem dX9_init_239 : decode cX9_init 239 = .ok (.iload_n 1, 1) := by decide +kernel
theorem dX9_init_240 : decode cX9_init 240 = .ok (.putfield 98, 3) := by decide +kernel
theorem dX9_init_243 : decode cX9_init 243 = .ok (.return_, 1) := by decide +kernel
theorem dX9_isStretch_0 : decode cX9_isStretch 0 = .ok (.iload_n 1, 1) := by decide +kernel
theorem dX9_isStretch_1 : decode cX9_isStretch 1 = .ok (.i2l, 1) := by decide +kernel
theorem dX9_isStretch_2 : decode cX9_isStretch 2 = .ok (.lconst 0, 1) := by decide +kernel
theorem dX9_isStretch_3 : decode cX9_isStretch 3 = .ok (.aload_n 0, 1) := by decide +kernel
theorem dX9_isStretch_4 : decode cX9_isStretch 4 = .ok (.getfield 101, 3) := by decide +kernel
theorem dX9_isStretch_7 : decode cX9_isStretch 7 = .ok (.iconst 1, 1) := by decide +kernel
theorem dX9_isStretch_8 : decode cX9_isStretch 8 = .ok (.isub, 1) := by decide +kernel
theorem dX9_isStretch_9 : decode cX9_isStretch 9 = .ok (.i2l, 1) := by decide +kernel
theorem dX9_isStretch_10 : decode cX9_isStretch 10 = .ok (.invokestatic 104, 3) := by decide +kernel
theorem dX9_isStretch_13 : decode cX9_isStretch 13 = .ok (.ireturn, 1) := by decide +kernel
theorem dX9_stretch_0 : decode cX9_stretch 0 = .ok (.aload_n 0, 1) := by decide +kernel
theorem dX9_stretch_1 : decode cX9_stretch 1 = .ok (.iconst 0, 1) := by decide +kernel
theorem dX9_stretch_2 : decode cX9_stretch 2 = .ok (.putfield 1, 3) := by decide +kernel
theorem dX9_stretch_5 : decode cX9_stretch 5 = .ok (.iload_n 1, 1) := by decide +kernel
theorem dX9_stretch_6 : decode cX9_stretch 6 = .ok (.i2l, 1) := by decide +kernel
theorem dX9_stretch_7 : decode cX9_stretch 7 = .ok (.lconst 0, 1) := by decide +kernel
theorem dX9_stretch_8 : decode cX9_stretch 8 = .ok (.ldc2_w 108, 3) := by decide +kernel
theorem dX9_stretch_11 : decode cX9_stretch 11 = .ok (.invokestatic 104, 3) := by decide +kernel
theorem dX9_stretch_14 : decode cX9_stretch 14 = .ok (.ifCond .eq 15, 3) := by decide +kernel
theorem dX9_stretch_17 : decode cX9_stretch 17 = .ok (.iload_n 2, 1) := by decide +kernel
theorem dX9_stretch_18 : decode cX9_stretch 18 = .ok (.i2l, 1) := by decide +kernel
theorem dX9_stretch_19 : decode cX9_stretch 19 = .ok (.lconst 0, 1) := by decide +kernel
theorem dX9_stretch_20 : decode cX9_stretch 20 = .ok (.ldc2_w 110, 3) := by decide +kernel
theorem dX9_stretch_23 : decode cX9_stretch 23 = .ok (.invokestatic 104, 3) := by decide +kernel
theorem dX9_stretch_26 : decode cX9_stretch 26 = .ok (.ifCond .ne 6, 3) := by decide +kernel
theorem dX9_stretch_29 : decode cX9_stretch 29 = .ok (.ldc 112, 2) := by decide +kernel
theorem dX9_stretch_31 : decode cX9_stretch 31 = .ok (.ireturn, 1) := by decide +kernel
theorem dX9_stretch_32 : decode cX9_stretch 32 = .ok (.aload_n 0, 1) := by decide +kernel
theorem dX9_stretch_33 : decode cX9_stretch 33 = .ok (.getfield 101, 3) := by decide +kernel
theorem dX9_stretch_36 : decode cX9_stretch 36 = .ok (.bipush 10, 2) := by decide +kernel
theorem dX9_stretch_38 : decode cX9_stretch 38 = .ok (.if_icmp .ne 6, 3) := by decide +kernel
theorem dX9_stretch_41 : decode cX9_stretch 41 = .ok (.ldc 113, 2) := by decide +kernel
theorem dX9_stretch_43 : decode cX9_stretch 43 = .ok (.ireturn, 1) := by decide +kernel
theorem dX9_stretch_44 : decode cX9_stretch 44 = .ok (.aload_n 0, 1) := by decide +kernel
theorem dX9_stretch_45 : decode cX9_stretch 45 = .ok (.getfield 19, 3) := by decide +kernel
theorem dX9_stretch_48 : decode cX9_stretch 48 = .ok (.aload_n 0, 1) := by decide +kernel
theorem dX9_stretch_49 : decode cX9_stretch 49 = .ok (.getfield 101, 3) := by decide +kernel
theorem dX9_stretch_52 : decode cX9_stretch 52 = .ok (.iload_n 1, 1) := by decide +kernel
theorem dX9_stretch_53 : decode cX9_stretch 53 = .ok (.iastore, 1) := by decide +kernel
theorem dX9_stretch_54 : decode cX9_stretch 54 = .ok (.aload_n 0, 1) := by decide +kernel
theorem dX9_stretch_55 : decode cX9_stretch 55 = .ok (.getfield 23, 3) := by decide +kernel
theorem dX9_stretch_58 : decode cX9_stretch 58 = .ok (.aload_n 0, 1) := by decide +kernel
theorem dX9_stretch_59 : decode cX9_stretch 59 = .ok (.getfield 101, 3) := by decide +kernel
theorem dX9_stretch_62 : decode cX9_stretch 62 = .ok (.iload_n 2, 1) := by decide +kernel
theorem dX9_stretch_63 : decode cX9_stretch 63 = .ok (.iastore, 1) := by decide +kernel
theorem dX9_stretch_64 : decode cX9_stretch 64 = .ok (.aload_n 0, 1) := by decide +kernel
theorem dX9_stretch_65 : decode cX9_stretch 65 = .ok (.dup, 1) := by decide +kernel
theorem dX9_stretch_66 : decode cX9_stretch 66 = .ok (.getfield 101, 3) := by decide +kernel
theorem dX9_stretch_69 : decode cX9_stretch 69 = .ok (.iconst 1, 1) := by decide +kernel
theorem dX9_stretch_70 : decode cX9_stretch 70 = .ok (.iadd, 1) := by decide +kernel
theorem dX9_stretch_71 : decode cX9_stretch 71 = .ok (.putfield 101, 3) := by decide +kernel
theorem dX9_stretch_74 : decode cX9_stretch 74 = .ok (.aload_n 0, 1) := by decide +kernel
theorem dX9_stretch_75 : decode cX9_stretch 75 = .ok (.getfield 101, 3) := by decide +kernel
theorem dX9_stretch_78 : decode cX9_stretch 78 = .ok (.iconst 1, 1) := by decide +kernel
theorem dX9_stretch_79 : decode cX9_stretch 79 = .ok (.isub, 1) := by decide +kernel
theorem dX9_stretch_80 : decode cX9_stretch 80 = .ok (.ireturn, 1) := by decide +kernel
theorem dX9_standing_0 : decode cX9_standing 0 = .ok (.aload_n 0, 1) := by decide +kernel
theorem dX9_standing_1 : decode cX9_standing 1 = .ok (.getfield 26, 3) := by decide +kernel
theorem dX9_standing_4 : decode cX9_standing 4 = .ok (.iload_n 1, 1) := by decide +kernel
theorem dX9_standing_5 : decode cX9_standing 5 = .ok (.iaload, 1) := by decide +kernel
theorem dX9_standing_6 : decode cX9_standing 6 = .ok (.aload_n 0, 1) := by decide +kernel
theorem dX9_standing_7 : decode cX9_standing 7 = .ok (.getfield 29, 3) := by decide +kernel
theorem dX9_standing_10 : decode cX9_standing 10 = .ok (.iload_n 1, 1) := by decide +kernel
theorem dX9_standing_11 : decode cX9_standing 11 = .ok (.iaload, 1) := by decide +kernel
theorem dX9_standing_12 : decode cX9_standing 12 = .ok (.iadd, 1) := by decide +kernel
theorem dX9_standing_13 : decode cX9_standing 13 = .ok (.ireturn, 1) := by decide +kernel
theorem dX9_carry_0 : decode cX9_carry 0 = .ok (.aload_n 0, 1) := by decide +kernel
theorem dX9_carry_1 : decode cX9_carry 1 = .ok (.iconst 0, 1) := by decide +kernel
theorem dX9_carry_2 : decode cX9_carry 2 = .ok (.putfield 1, 3) := by decide +kernel
theorem dX9_carry_5 : decode cX9_carry 5 = .ok (.iload_n 1, 1) := by decide +kernel
theorem dX9_carry_6 : decode cX9_carry 6 = .ok (.ldc 114, 2) := by decide +kernel
theorem dX9_carry_8 : decode cX9_carry 8 = .ok (.if_icmp .eq 11, 3) := by decide +kernel
theorem dX9_carry_11 : decode cX9_carry 11 = .ok (.aload_n 0, 1) := by decide +kernel
theorem dX9_carry_12 : decode cX9_carry 12 = .ok (.iload_n 1, 1) := by decide +kernel
theorem dX9_carry_13 : decode cX9_carry 13 = .ok (.invokevirtual 115, 3) := by decide +kernel
theorem dX9_carry_16 : decode cX9_carry 16 = .ok (.ifCond .eq 34, 3) := by decide +kernel
theorem dX9_carry_19 : decode cX9_carry 19 = .ok (.iload_n 2, 1) := by decide +kernel
theorem dX9_carry_20 : decode cX9_carry 20 = .ok (.ldc 114, 2) := by decide +kernel
theorem dX9_carry_22 : decode cX9_carry 22 = .ok (.if_icmp .eq 11, 3) := by decide +kernel
theorem dX9_carry_25 : decode cX9_carry 25 = .ok (.aload_n 0, 1) := by decide +kernel
theorem dX9_carry_26 : decode cX9_carry 26 = .ok (.iload_n 2, 1) := by decide +kernel
theorem dX9_carry_27 : decode cX9_carry 27 = .ok (.invokevirtual 115, 3) := by decide +kernel
theorem dX9_carry_30 : decode cX9_carry 30 = .ok (.ifCond .eq 20, 3) := by decide +kernel
theorem dX9_carry_33 : decode cX9_carry 33 = .ok (.iload_n 1, 1) := by decide +kernel
theorem dX9_carry_34 : decode cX9_carry 34 = .ok (.iload_n 2, 1) := by decide +kernel
theorem dX9_carry_35 : decode cX9_carry 35 = .ok (.if_icmp .eq 15, 3) := by decide +kernel
theorem dX9_carry_38 : decode cX9_carry 38 = .ok (.iload_n 3, 1) := by decide +kernel
theorem dX9_carry_39 : decode cX9_carry 39 = .ok (.i2l, 1) := by decide +kernel
theorem dX9_carry_40 : decode cX9_carry 40 = .ok (.lconst 0, 1) := by decide +kernel
theorem dX9_carry_41 : decode cX9_carry 41 = .ok (.ldc2_w 119, 3) := by decide +kernel
theorem dX9_carry_44 : decode cX9_carry 44 = .ok (.invokestatic 104, 3) := by decide +kernel
theorem dX9_carry_47 : decode cX9_carry 47 = .ok (.ifCond .ne 6, 3) := by decide +kernel
theorem dX9_carry_50 : decode cX9_carry 50 = .ok (.ldc 112, 2) := by decide +kernel
theorem dX9_carry_52 : decode cX9_carry 52 = .ok (.ireturn, 1) := by decide +kernel
theorem dX9_carry_53 : decode cX9_carry 53 = .ok (.iload_n 1, 1) := by decide +kernel
theorem dX9_carry_54 : decode cX9_carry 54 = .ok (.ldc 114, 2) := by decide +kernel
theorem dX9_carry_56 : decode cX9_carry 56 = .ok (.if_icmp .ne 10, 3) := by decide +kernel
theorem dX9_carry_59 : decode cX9_carry 59 = .ok (.aload_n 0, 1) := by decide +kernel
theorem dX9_carry_60 : decode cX9_carry 60 = .ok (.getfield 98, 3) := by decide +kernel
theorem dX9_carry_63 : decode cX9_carry 63 = .ok (.goto 9, 3) := by decide +kernel
theorem dX9_carry_66 : decode cX9_carry 66 = .ok (.aload_n 0, 1) := by decide +kernel
theorem dX9_carry_67 : decode cX9_carry 67 = .ok (.getfield 26, 3) := by decide +kernel
theorem dX9_carry_70 : decode cX9_carry 70 = .ok (.iload_n 1, 1) := by decide +kernel
theorem dX9_carry_71 : decode cX9_carry 71 = .ok (.iaload, 1) := by decide +kernel
theorem dX9_carry_72 : decode cX9_carry 72 = .ok (.iload_n 3, 1) := by decide +kernel
theorem dX9_carry_73 : decode cX9_carry 73 = .ok (.if_icmp .ge 6, 3) := by decide +kernel
theorem dX9_carry_76 : decode cX9_carry 76 = .ok (.ldc 121, 2) := by decide +kernel
theorem dX9_carry_78 : decode cX9_carry 78 = .ok (.ireturn, 1) := by decide +kernel
theorem dX9_carry_79 : decode cX9_carry 79 = .ok (.iload_n 1, 1) := by decide +kernel
theorem dX9_carry_80 : decode cX9_carry 80 = .ok (.ldc 114, 2) := by decide +kernel
theorem dX9_carry_82 : decode cX9_carry 82 = .ok (.if_icmp .ne 16, 3) := by decide +kernel
theorem dX9_carry_85 : decode cX9_carry 85 = .ok (.aload_n 0, 1) := by decide +kernel
theorem dX9_carry_86 : decode cX9_carry 86 = .ok (.dup, 1) := by decide +kernel
theorem dX9_carry_87 : decode cX9_carry 87 = .ok (.getfield 98, 3) := by decide +kernel
theorem dX9_carry_90 : decode cX9_carry 90 = .ok (.iload_n 3, 1) := by decide +kernel
theorem dX9_carry_91 : decode cX9_carry 91 = .ok (.isub, 1) := by decide +kernel
theorem dX9_carry_92 : decode cX9_carry 92 = .ok (.putfield 98, 3) := by decide +kernel
theorem dX9_carry_95 : decode cX9_carry 95 = .ok (.goto 13, 3) := by decide +kernel
theorem dX9_carry_98 : decode cX9_carry 98 = .ok (.aload_n 0, 1) := by decide +kernel
theorem dX9_carry_99 : decode cX9_carry 99 = .ok (.getfield 26, 3) := by decide +kernel
theorem dX9_carry_102 : decode cX9_carry 102 = .ok (.iload_n 1, 1) := by decide +kernel
theorem dX9_carry_103 : decode cX9_carry 103 = .ok (.dup2, 1) := by decide +kernel
theorem dX9_carry_104 : decode cX9_carry 104 = .ok (.iaload, 1) := by decide +kernel
theorem dX9_carry_105 : decode cX9_carry 105 = .ok (.iload_n 3, 1) := by decide +kernel
theorem dX9_carry_106 : decode cX9_carry 106 = .ok (.isub, 1) := by decide +kernel
theorem dX9_carry_107 : decode cX9_carry 107 = .ok (.iastore, 1) := by decide +kernel
theorem dX9_carry_108 : decode cX9_carry 108 = .ok (.iload_n 2, 1) := by decide +kernel
theorem dX9_carry_109 : decode cX9_carry 109 = .ok (.ldc 114, 2) := by decide +kernel
theorem dX9_carry_111 : decode cX9_carry 111 = .ok (.if_icmp .ne 18, 3) := by decide +kernel
theorem dX9_carry_114 : decode cX9_carry 114 = .ok (.aload_n 0, 1) := by decide +kernel
theorem dX9_carry_115 : decode cX9_carry 115 = .ok (.dup, 1) := by decide +kernel
theorem dX9_carry_116 : decode cX9_carry 116 = .ok (.getfield 98, 3) := by decide +kernel
theorem dX9_carry_119 : decode cX9_carry 119 = .ok (.iload_n 3, 1) := by decide +kernel
theorem dX9_carry_120 : decode cX9_carry 120 = .ok (.iadd, 1) := by decide +kernel
theorem dX9_carry_121 : decode cX9_carry 121 = .ok (.putfield 98, 3) := by decide +kernel
theorem dX9_carry_124 : decode cX9_carry 124 = .ok (.aload_n 0, 1) := by decide +kernel
theorem dX9_carry_125 : decode cX9_carry 125 = .ok (.getfield 98, 3) := by decide +kernel
theorem dX9_carry_128 : decode cX9_carry 128 = .ok (.ireturn, 1) := by decide +kernel
theorem dX9_carry_129 : decode cX9_carry 129 = .ok (.aload_n 0, 1) := by decide +kernel
theorem dX9_carry_130 : decode cX9_carry 130 = .ok (.getfield 26, 3) := by decide +kernel
theorem dX9_carry_133 : decode cX9_carry 133 = .ok (.iload_n 2, 1) := by decide +kernel
theorem dX9_carry_134 : decode cX9_carry 134 = .ok (.dup2, 1) := by decide +kernel
theorem dX9_carry_135 : decode cX9_carry 135 = .ok (.iaload, 1) := by decide +kernel
theorem dX9_carry_136 : decode cX9_carry 136 = .ok (.iload_n 3, 1) := by decide +kernel
theorem dX9_carry_137 : decode cX9_carry 137 = .ok (.iadd, 1) := by decide +kernel
theorem dX9_carry_138 : decode cX9_carry 138 = .ok (.iastore, 1) := by decide +kernel
theorem dX9_carry_139 : decode cX9_carry 139 = .ok (.aload_n 0, 1) := by decide +kernel
theorem dX9_carry_140 : decode cX9_carry 140 = .ok (.iload_n 2, 1) := by decide +kernel
theorem dX9_carry_141 : decode cX9_carry 141 = .ok (.invokevirtual 122, 3) := by decide +kernel
theorem dX9_carry_144 : decode cX9_carry 144 = .ok (.ireturn, 1) := by decide +kernel
theorem dX9_told_0 : decode cX9_told 0 = .ok (.aload_n 0, 1) := by decide +kernel
theorem dX9_told_1 : decode cX9_told 1 = .ok (.iconst 0, 1) := by decide +kernel
theorem dX9_told_2 : decode cX9_told 2 = .ok (.putfield 1, 3) := by decide +kernel
theorem dX9_told_5 : decode cX9_told 5 = .ok (.aload_n 0, 1) := by decide +kernel
theorem dX9_told_6 : decode cX9_told 6 = .ok (.iload_n 1, 1) := by decide +kernel
theorem dX9_told_7 : decode cX9_told 7 = .ok (.invokevirtual 115, 3) := by decide +kernel
theorem dX9_told_10 : decode cX9_told 10 = .ok (.ifCond .eq 15, 3) := by decide +kernel
theorem dX9_told_13 : decode cX9_told 13 = .ok (.iload_n 2, 1) := by decide +kernel
theorem dX9_told_14 : decode cX9_told 14 = .ok (.i2l, 1) := by decide +kernel
theorem dX9_told_15 : decode cX9_told 15 = .ok (.lconst 0, 1) := by decide +kernel
theorem dX9_told_16 : decode cX9_told 16 = .ok (.ldc2_w 126, 3) := by decide +kernel
theorem dX9_told_19 : decode cX9_told 19 = .ok (.invokestatic 104, 3) := by decide +kernel
theorem dX9_told_22 : decode cX9_told 22 = .ok (.ifCond .ne 6, 3) := by decide +kernel
theorem dX9_told_25 : decode cX9_told 25 = .ok (.ldc 112, 2) := by decide +kernel
theorem dX9_told_27 : decode cX9_told 27 = .ok (.ireturn, 1) := by decide +kernel
theorem dX9_told_28 : decode cX9_told 28 = .ok (.iload_n 2, 1) := by decide +kernel
theorem dX9_told_29 : decode cX9_told 29 = .ok (.ifCond .ne 12, 3) := by decide +kernel
theorem dX9_told_32 : decode cX9_told 32 = .ok (.aload_n 0, 1) := by decide +kernel
theorem dX9_told_33 : decode cX9_told 33 = .ok (.getfield 19, 3) := by decide +kernel
theorem dX9_told_36 : decode cX9_told 36 = .ok (.iload_n 1, 1) := by decide +kernel
theorem dX9_told_37 : decode cX9_told 37 = .ok (.iaload, 1) := by decide +kernel
theorem dX9_told_38 : decode cX9_told 38 = .ok (.goto 64, 3) := by decide +kernel
theorem dX9_told_41 : decode cX9_told 41 = .ok (.iload_n 2, 1) := by decide +kernel
theorem dX9_told_42 : decode cX9_told 42 = .ok (.iconst 1, 1) := by decide +kernel
theorem dX9_told_43 : decode cX9_told 43 = .ok (.if_icmp .ne 12, 3) := by decide +kernel
theorem dX9_told_46 : decode cX9_told 46 = .ok (.aload_n 0, 1) := by decide +kernel
theorem dX9_told_47 : decode cX9_told 47 = .ok (.getfield 23, 3) := by decide +kernel
theorem dX9_told_50 : decode cX9_told 50 = .ok (.iload_n 1, 1) := by decide +kernel
theorem dX9_told_51 : decode cX9_told 51 = .ok (.iaload, 1) := by decide +kernel
theorem dX9_told_52 : decode cX9_told 52 = .ok (.goto 50, 3) := by decide +kernel
theorem dX9_told_55 : decode cX9_told 55 = .ok (.iload_n 2, 1) := by decide +kernel
theorem dX9_told_56 : decode cX9_told 56 = .ok (.iconst 2, 1) := by decide +kernel
theorem dX9_told_57 : decode cX9_told 57 = .ok (.if_icmp .ne 11, 3) := by decide +kernel
theorem dX9_told_60 : decode cX9_told 60 = .ok (.aload_n 0, 1) := by decide +kernel
theorem dX9_told_61 : decode cX9_told 61 = .ok (.iload_n 1, 1) := by decide +kernel
theorem dX9_told_62 : decode cX9_told 62 = .ok (.invokevirtual 122, 3) := by decide +kernel
theorem dX9_told_65 : decode cX9_told 65 = .ok (.goto 37, 3) := by decide +kernel
theorem dX9_told_68 : decode cX9_told 68 = .ok (.iload_n 2, 1) := by decide +kernel
theorem dX9_told_69 : decode cX9_told 69 = .ok (.iconst 3, 1) := by decide +kernel
theorem dX9_told_70 : decode cX9_told 70 = .ok (.if_icmp .ne 12, 3) := by decide +kernel
theorem dX9_told_73 : decode cX9_told 73 = .ok (.aload_n 0, 1) := by decide +kernel
theorem dX9_told_74 : decode cX9_told 74 = .ok (.getfield 26, 3) := by decide +kernel
theorem dX9_told_77 : decode cX9_told 77 = .ok (.iload_n 1, 1) := by decide +kernel
theorem dX9_told_78 : decode cX9_told 78 = .ok (.iaload, 1) := by decide +kernel
theorem dX9_told_79 : decode cX9_told 79 = .ok (.goto 23, 3) := by decide +kernel
theorem dX9_told_82 : decode cX9_told 82 = .ok (.iload_n 2, 1) := by decide +kernel
theorem dX9_told_83 : decode cX9_told 83 = .ok (.iconst 4, 1) := by decide +kernel
theorem dX9_told_84 : decode cX9_told 84 = .ok (.if_icmp .ne 12, 3) := by decide +kernel
theorem dX9_told_87 : decode cX9_told 87 = .ok (.aload_n 0, 1) := by decide +kernel
theorem dX9_told_88 : decode cX9_told 88 = .ok (.getfield 32, 3) := by decide +kernel
theorem dX9_told_91 : decode cX9_told 91 = .ok (.iload_n 1, 1) := by decide +kernel
theorem dX9_told_92 : decode cX9_told 92 = .ok (.iaload, 1) := by decide +kernel
theorem dX9_told_93 : decode cX9_told 93 = .ok (.goto 9, 3) := by decide +kernel
theorem dX9_told_96 : decode cX9_told 96 = .ok (.aload_n 0, 1) := by decide +kernel
theorem dX9_told_97 : decode cX9_told 97 = .ok (.getfield 35, 3) := by decide +kernel
theorem dX9_told_100 : decode cX9_told 100 = .ok (.iload_n 1, 1) := by decide +kernel
theorem dX9_told_101 : decode cX9_told 101 = .ok (.iaload, 1) := by decide +kernel
theorem dX9_told_102 : decode cX9_told 102 = .ok (.ireturn, 1) := by decide +kernel
theorem dX9_rule_0 : decode cX9_rule 0 = .ok (.aload_n 0, 1) := by decide +kernel
theorem dX9_rule_1 : decode cX9_rule 1 = .ok (.iconst 0, 1) := by decide +kernel
theorem dX9_rule_2 : decode cX9_rule 2 = .ok (.putfield 1, 3) := by decide +kernel
theorem dX9_rule_5 : decode cX9_rule 5 = .ok (.iload_n 1, 1) := by decide +kernel
theorem dX9_rule_6 : decode cX9_rule 6 = .ok (.i2l, 1) := by decide +kernel
theorem dX9_rule_7 : decode cX9_rule 7 = .ok (.lconst 0, 1) := by decide +kernel
theorem dX9_rule_8 : decode cX9_rule 8 = .ok (.lconst 1, 1) := by decide +kernel
theorem dX9_rule_9 : decode cX9_rule 9 = .ok (.invokestatic 104, 3) := by decide +kernel
theorem dX9_rule_12 : decode cX9_rule 12 = .ok (.ifCond .eq 18, 3) := by decide +kernel
theorem dX9_rule_15 : decode cX9_rule 15 = .ok (.iload_n 2, 1) := by decide +kernel
theorem dX9_rule_16 : decode cX9_rule 16 = .ok (.i2l, 1) := by decide +kernel
theorem dX9_rule_17 : decode cX9_rule 17 = .ok (.iconst 1, 1) := by decide +kernel
theorem dX9_rule_18 : decode cX9_rule 18 = .ok (.iload_n 1, 1) := by decide +kernel
theorem dX9_rule_19 : decode cX9_rule 19 = .ok (.isub, 1) := by decide +kernel
theorem dX9_rule_20 : decode cX9_rule 20 = .ok (.i2l, 1) := by decide +kernel
theorem dX9_rule_21 : decode cX9_rule 21 = .ok (.ldc2_w 128, 3) := by decide +kernel
theorem dX9_rule_24 : decode cX9_rule 24 = .ok (.invokestatic 104, 3) := by decide +kernel
theorem dX9_rule_27 : decode cX9_rule 27 = .ok (.ifCond .ne 6, 3) := by decide +kernel
theorem dX9_rule_30 : decode cX9_rule 30 = .ok (.ldc 112, 2) := by decide +kernel
theorem dX9_rule_32 : decode cX9_rule 32 = .ok (.ireturn, 1) := by decide +kernel
theorem dX9_rule_33 : decode cX9_rule 33 = .ok (.iload_n 1, 1) := by decide +kernel
theorem dX9_rule_34 : decode cX9_rule 34 = .ok (.ifCond .ne 10, 3) := by decide +kernel
theorem dX9_rule_37 : decode cX9_rule 37 = .ok (.aload_n 0, 1) := by decide +kernel
theorem dX9_rule_38 : decode cX9_rule 38 = .ok (.getfield 13, 3) := by decide +kernel
theorem dX9_rule_41 : decode cX9_rule 41 = .ok (.goto 7, 3) := by decide +kernel
theorem dX9_rule_44 : decode cX9_rule 44 = .ok (.aload_n 0, 1) := by decide +kernel
theorem dX9_rule_45 : decode cX9_rule 45 = .ok (.getfield 16, 3) := by decide +kernel
theorem dX9_rule_48 : decode cX9_rule 48 = .ok (.istore_n 3, 1) := by decide +kernel
theorem dX9_rule_49 : decode cX9_rule 49 = .ok (.aload_n 0, 1) := by decide +kernel
theorem dX9_rule_50 : decode cX9_rule 50 = .ok (.iload_n 1, 1) := by decide +kernel
theorem dX9_rule_51 : decode cX9_rule 51 = .ok (.ifCond .ne 7, 3) := by decide +kernel
theorem dX9_rule_54 : decode cX9_rule 54 = .ok (.iload_n 2, 1) := by decide +kernel
theorem dX9_rule_55 : decode cX9_rule 55 = .ok (.goto 7, 3) := by decide +kernel
theorem dX9_rule_58 : decode cX9_rule 58 = .ok (.aload_n 0, 1) := by decide +kernel
theorem dX9_rule_59 : decode cX9_rule 59 = .ok (.getfield 13, 3) := by decide +kernel
theorem dX9_rule_62 : decode cX9_rule 62 = .ok (.putfield 13, 3) := by decide +kernel
theorem dX9_rule_65 : decode cX9_rule 65 = .ok (.aload_n 0, 1) := by decide +kernel
theorem dX9_rule_66 : decode cX9_rule 66 = .ok (.iload_n 1, 1) := by decide +kernel
theorem dX9_rule_67 : decode cX9_rule 67 = .ok (.iconst 1, 1) := by decide +kernel
theorem dX9_rule_68 : decode cX9_rule 68 = .ok (.if_icmp .ne 7, 3) := by decide +kernel
theorem dX9_rule_71 : decode cX9_rule 71 = .ok (.iload_n 2, 1) := by decide +kernel
theorem dX9_rule_72 : decode cX9_rule 72 = .ok (.goto 7, 3) := by decide +kernel
theorem dX9_rule_75 : decode cX9_rule 75 = .ok (.aload_n 0, 1) := by decide +kernel
theorem dX9_rule_76 : decode cX9_rule 76 = .ok (.getfield 16, 3) := by decide +kernel
theorem dX9_rule_79 : decode cX9_rule 79 = .ok (.putfield 16, 3) := by decide +kernel
theorem dX9_rule_82 : decode cX9_rule 82 = .ok (.iload_n 3, 1) := by decide +kernel
theorem dX9_rule_83 : decode cX9_rule 83 = .ok (.ireturn, 1) := by decide +kernel
theorem dX9_mend_0 : decode cX9_mend 0 = .ok (.aload_n 0, 1) := by decide +kernel
theorem dX9_mend_1 : decode cX9_mend 1 = .ok (.iconst 0, 1) := by decide +kernel
theorem dX9_mend_2 : decode cX9_mend 2 = .ok (.putfield 1, 3) := by decide +kernel
theorem dX9_mend_5 : decode cX9_mend 5 = .ok (.iload_n 1, 1) := by decide +kernel
theorem dX9_mend_6 : decode cX9_mend 6 = .ok (.i2l, 1) := by decide +kernel
theorem dX9_mend_7 : decode cX9_mend 7 = .ok (.lconst 0, 1) := by decide +kernel
theorem dX9_mend_8 : decode cX9_mend 8 = .ok (.ldc2_w 119, 3) := by decide +kernel
theorem dX9_mend_11 : decode cX9_mend 11 = .ok (.invokestatic 104, 3) := by decide +kernel
theorem dX9_mend_14 : decode cX9_mend 14 = .ok (.ifCond .ne 6, 3) := by decide +kernel
theorem dX9_mend_17 : decode cX9_mend 17 = .ok (.ldc 112, 2) := by decide +kernel
theorem dX9_mend_19 : decode cX9_mend 19 = .ok (.ireturn, 1) := by decide +kernel
theorem dX9_mend_20 : decode cX9_mend 20 = .ok (.aload_n 0, 1) := by decide +kernel
theorem dX9_mend_21 : decode cX9_mend 21 = .ok (.getfield 130, 3) := by decide +kernel
theorem dX9_mend_24 : decode cX9_mend 24 = .ok (.iload_n 1, 1) := by decide +kernel
theorem dX9_mend_25 : decode cX9_mend 25 = .ok (.if_icmp .ge 6, 3) := by decide +kernel
theorem dX9_mend_28 : decode cX9_mend 28 = .ok (.ldc 121, 2) := by decide +kernel
theorem dX9_mend_30 : decode cX9_mend 30 = .ok (.ireturn, 1) := by decide +kernel
theorem dX9_mend_31 : decode cX9_mend 31 = .ok (.aload_n 0, 1) := by decide +kernel
theorem dX9_mend_32 : decode cX9_mend 32 = .ok (.dup, 1) := by decide +kernel
theorem dX9_mend_33 : decode cX9_mend 33 = .ok (.getfield 130, 3) := by decide +kernel
theorem dX9_mend_36 : decode cX9_mend 36 = .ok (.iload_n 1, 1) := by decide +kernel
theorem dX9_mend_37 : decode cX9_mend 37 = .ok (.isub, 1) := by decide +kernel
theorem dX9_mend_38 : decode cX9_mend 38 = .ok (.putfield 130, 3) := by decide +kernel
theorem dX9_mend_41 : decode cX9_mend 41 = .ok (.aload_n 0, 1) := by decide +kernel
theorem dX9_mend_42 : decode cX9_mend 42 = .ok (.dup, 1) := by decide +kernel
theorem dX9_mend_43 : decode cX9_mend 43 = .ok (.getfield 98, 3) := by decide +kernel
theorem dX9_mend_46 : decode cX9_mend 46 = .ok (.iload_n 1, 1) := by decide +kernel
theorem dX9_mend_47 : decode cX9_mend 47 = .ok (.iadd, 1) := by decide +kernel
theorem dX9_mend_48 : decode cX9_mend 48 = .ok (.putfield 98, 3) := by decide +kernel
theorem dX9_mend_51 : decode cX9_mend 51 = .ok (.aload_n 0, 1) := by decide +kernel
theorem dX9_mend_52 : decode cX9_mend 52 = .ok (.getfield 130, 3) := by decide +kernel
theorem dX9_mend_55 : decode cX9_mend 55 = .ok (.ireturn, 1) := by decide +kernel
theorem dX9_hire_0 : decode cX9_hire 0 = .ok (.aload_n 0, 1) := by decide +kernel
theorem dX9_hire_1 : decode cX9_hire 1 = .ok (.iconst 0, 1) := by decide +kernel
theorem dX9_hire_2 : decode cX9_hire 2 = .ok (.putfield 1, 3) := by decide +kernel
theorem dX9_hire_5 : decode cX9_hire 5 = .ok (.aload_n 0, 1) := by decide +kernel
theorem dX9_hire_6 : decode cX9_hire 6 = .ok (.iload_n 1, 1) := by decide +kernel
theorem dX9_hire_7 : decode cX9_hire 7 = .ok (.invokevirtual 115, 3) := by decide +kernel
theorem dX9_hire_10 : decode cX9_hire 10 = .ok (.ifCond .eq 27, 3) := by decide +kernel
theorem dX9_hire_13 : decode cX9_hire 13 = .ok (.iload_n 2, 1) := by decide +kernel
theorem dX9_hire_14 : decode cX9_hire 14 = .ok (.i2l, 1) := by decide +kernel
theorem dX9_hire_15 : decode cX9_hire 15 = .ok (.lconst 1, 1) := by decide +kernel
theorem dX9_hire_16 : decode cX9_hire 16 = .ok (.ldc2_w 128, 3) := by decide +kernel
theorem dX9_hire_19 : decode cX9_hire 19 = .ok (.invokestatic 104, 3) := by decide +kernel
theorem dX9_hire_22 : decode cX9_hire 22 = .ok (.ifCond .eq 15, 3) := by decide +kernel
theorem dX9_hire_25 : decode cX9_hire 25 = .ok (.iload_n 3, 1) := by decide +kernel
theorem dX9_hire_26 : decode cX9_hire 26 = .ok (.i2l, 1) := by decide +kernel
theorem dX9_hire_27 : decode cX9_hire 27 = .ok (.lconst 1, 1) := by decide +kernel
theorem dX9_hire_28 : decode cX9_hire 28 = .ok (.ldc2_w 133, 3) := by decide +kernel
theorem dX9_hire_31 : decode cX9_hire 31 = .ok (.invokestatic 104, 3) := by decide +kernel
theorem dX9_hire_34 : decode cX9_hire 34 = .ok (.ifCond .ne 6, 3) := by decide +kernel
theorem dX9_hire_37 : decode cX9_hire 37 = .ok (.ldc 112, 2) := by decide +kernel
theorem dX9_hire_39 : decode cX9_hire 39 = .ok (.ireturn, 1) := by decide +kernel
theorem dX9_hire_40 : decode cX9_hire 40 = .ok (.aload_n 0, 1) := by decide +kernel
theorem dX9_hire_41 : decode cX9_hire 41 = .ok (.getfield 135, 3) := by decide +kernel
theorem dX9_hire_44 : decode cX9_hire 44 = .ok (.aload_n 0, 1) := by decide +kernel
theorem dX9_hire_45 : decode cX9_hire 45 = .ok (.getfield 16, 3) := by decide +kernel
theorem dX9_hire_48 : decode cX9_hire 48 = .ok (.if_icmp .le 6, 3) := by decide +kernel
theorem dX9_hire_51 : decode cX9_hire 51 = .ok (.ldc 121, 2) := by decide +kernel
theorem dX9_hire_53 : decode cX9_hire 53 = .ok (.ireturn, 1) := by decide +kernel
theorem dX9_hire_54 : decode cX9_hire 54 = .ok (.aload_n 0, 1) := by decide +kernel
theorem dX9_hire_55 : decode cX9_hire 55 = .ok (.getfield 138, 3) := by decide +kernel
theorem dX9_hire_58 : decode cX9_hire 58 = .ok (.bipush 30, 2) := by decide +kernel
theorem dX9_hire_60 : decode cX9_hire 60 = .ok (.if_icmp .eq 13, 3) := by decide +kernel
theorem dX9_hire_63 : decode cX9_hire 63 = .ok (.aload_n 0, 1) := by decide +kernel
theorem dX9_hire_64 : decode cX9_hire 64 = .ok (.getfield 26, 3) := by decide +kernel
theorem dX9_hire_67 : decode cX9_hire 67 = .ok (.iload_n 1, 1) := by decide +kernel
theorem dX9_hire_68 : decode cX9_hire 68 = .ok (.iaload, 1) := by decide +kernel
theorem dX9_hire_69 : decode cX9_hire 69 = .ok (.iload_n 2, 1) := by decide +kernel
theorem dX9_hire_70 : decode cX9_hire 70 = .ok (.if_icmp .ge 6, 3) := by decide +kernel
theorem dX9_hire_73 : decode cX9_hire 73 = .ok (.ldc 113, 2) := by decide +kernel
theorem dX9_hire_75 : decode cX9_hire 75 = .ok (.ireturn, 1) := by decide +kernel
theorem dX9_hire_76 : decode cX9_hire 76 = .ok (.aload_n 0, 1) := by decide +kernel
theorem dX9_hire_77 : decode cX9_hire 77 = .ok (.getfield 41, 3) := by decide +kernel
theorem dX9_hire_80 : decode cX9_hire 80 = .ok (.aload_n 0, 1) := by decide +kernel
theorem dX9_hire_81 : decode cX9_hire 81 = .ok (.getfield 138, 3) := by decide +kernel
theorem dX9_hire_84 : decode cX9_hire 84 = .ok (.aload_n 0, 1) := by decide +kernel
theorem dX9_hire_85 : decode cX9_hire 85 = .ok (.getfield 141, 3) := by decide +kernel
theorem dX9_hire_88 : decode cX9_hire 88 = .ok (.iastore, 1) := by decide +kernel
theorem dX9_hire_89 : decode cX9_hire 89 = .ok (.aload_n 0, 1) := by decide +kernel
theorem dX9_hire_90 : decode cX9_hire 90 = .ok (.getfield 44, 3) := by decide +kernel
theorem dX9_hire_93 : decode cX9_hire 93 = .ok (.aload_n 0, 1) := by decide +kernel
theorem dX9_hire_94 : decode cX9_hire 94 = .ok (.getfield 138, 3) := by decide +kernel
theorem dX9_hire_97 : decode cX9_hire 97 = .ok (.iload_n 1, 1) := by decide +kernel
theorem dX9_hire_98 : decode cX9_hire 98 = .ok (.iastore, 1) := by decide +kernel
theorem dX9_hire_99 : decode cX9_hire 99 = .ok (.aload_n 0, 1) := by decide +kernel
theorem dX9_hire_100 : decode cX9_hire 100 = .ok (.getfield 47, 3) := by decide +kernel
theorem dX9_hire_103 : decode cX9_hire 103 = .ok (.aload_n 0, 1) := by decide +kernel
theorem dX9_hire_104 : decode cX9_hire 104 = .ok (.getfield 138, 3) := by decide +kernel
theorem dX9_hire_107 : decode cX9_hire 107 = .ok (.iload_n 2, 1) := by decide +kernel
theorem dX9_hire_108 : decode cX9_hire 108 = .ok (.iastore, 1) := by decide +kernel
theorem dX9_hire_109 : decode cX9_hire 109 = .ok (.aload_n 0, 1) := by decide +kernel
theorem dX9_hire_110 : decode cX9_hire 110 = .ok (.getfield 50, 3) := by decide +kernel
theorem dX9_hire_113 : decode cX9_hire 113 = .ok (.aload_n 0, 1) := by decide +kernel
theorem dX9_hire_114 : decode cX9_hire 114 = .ok (.getfield 138, 3) := by decide +kernel
theorem dX9_hire_117 : decode cX9_hire 117 = .ok (.iload_n 3, 1) := by decide +kernel
theorem dX9_hire_118 : decode cX9_hire 118 = .ok (.iastore, 1) := by decide +kernel
theorem dX9_hire_119 : decode cX9_hire 119 = .ok (.aload_n 0, 1) := by decide +kernel
theorem dX9_hire_120 : decode cX9_hire 120 = .ok (.getfield 53, 3) := by decide +kernel
theorem dX9_hire_123 : decode cX9_hire 123 = .ok (.aload_n 0, 1) := by decide +kernel
theorem dX9_hire_124 : decode cX9_hire 124 = .ok (.getfield 138, 3) := by decide +kernel
theorem dX9_hire_127 : decode cX9_hire 127 = .ok (.aload_n 0, 1) := by decide +kernel
theorem dX9_hire_128 : decode cX9_hire 128 = .ok (.getfield 13, 3) := by decide +kernel
theorem dX9_hire_131 : decode cX9_hire 131 = .ok (.iload_n 2, 1) := by decide +kernel
theorem dX9_hire_132 : decode cX9_hire 132 = .ok (.imul, 1) := by decide +kernel
theorem dX9_hire_133 : decode cX9_hire 133 = .ok (.iload_n 3, 1) := by decide +kernel
theorem dX9_hire_134 : decode cX9_hire 134 = .ok (.imul, 1) := by decide +kernel
theorem dX9_hire_135 : decode cX9_hire 135 = .ok (.iastore, 1) := by decide +kernel
theorem dX9_hire_136 : decode cX9_hire 136 = .ok (.aload_n 0, 1) := by decide +kernel
theorem dX9_hire_137 : decode cX9_hire 137 = .ok (.getfield 56, 3) := by decide +kernel
theorem dX9_hire_140 : decode cX9_hire 140 = .ok (.aload_n 0, 1) := by decide +kernel
theorem dX9_hire_141 : decode cX9_hire 141 = .ok (.getfield 138, 3) := by decide +kernel
theorem dX9_hire_144 : decode cX9_hire 144 = .ok (.aload_n 0, 1) := by decide +kernel
theorem dX9_hire_145 : decode cX9_hire 145 = .ok (.getfield 13, 3) := by decide +kernel
theorem dX9_hire_148 : decode cX9_hire 148 = .ok (.iastore, 1) := by decide +kernel
theorem dX9_hire_149 : decode cX9_hire 149 = .ok (.aload_n 0, 1) := by decide +kernel
theorem dX9_hire_150 : decode cX9_hire 150 = .ok (.getfield 59, 3) := by decide +kernel
theorem dX9_hire_153 : decode cX9_hire 153 = .ok (.aload_n 0, 1) := by decide +kernel
theorem dX9_hire_154 : decode cX9_hire 154 = .ok (.getfield 138, 3) := by decide +kernel
theorem dX9_hire_157 : decode cX9_hire 157 = .ok (.aload_n 0, 1) := by decide +kernel
theorem dX9_hire_158 : decode cX9_hire 158 = .ok (.getfield 23, 3) := by decide +kernel
theorem dX9_hire_161 : decode cX9_hire 161 = .ok (.iload_n 1, 1) := by decide +kernel
theorem dX9_hire_162 : decode cX9_hire 162 = .ok (.iaload, 1) := by decide +kernel
theorem dX9_hire_163 : decode cX9_hire 163 = .ok (.iastore, 1) := by decide +kernel
theorem dX9_hire_164 : decode cX9_hire 164 = .ok (.aload_n 0, 1) := by decide +kernel
theorem dX9_hire_165 : decode cX9_hire 165 = .ok (.getfield 26, 3) := by decide +kernel
theorem dX9_hire_168 : decode cX9_hire 168 = .ok (.iload_n 1, 1) := by decide +kernel
theorem dX9_hire_169 : decode cX9_hire 169 = .ok (.dup2, 1) := by decide +kernel
theorem dX9_hire_170 : decode cX9_hire 170 = .ok (.iaload, 1) := by decide +kernel
theorem dX9_hire_171 : decode cX9_hire 171 = .ok (.iload_n 2, 1) := by decide +kernel
theorem dX9_hire_172 : decode cX9_hire 172 = .ok (.isub, 1) := by decide +kernel
theorem dX9_hire_173 : decode cX9_hire 173 = .ok (.iastore, 1) := by decide +kernel
theorem dX9_hire_174 : decode cX9_hire 174 = .ok (.aload_n 0, 1) := by decide +kernel
theorem dX9_hire_175 : decode cX9_hire 175 = .ok (.getfield 29, 3) := by decide +kernel
theorem dX9_hire_178 : decode cX9_hire 178 = .ok (.iload_n 1, 1) := by decide +kernel
theorem dX9_hire_179 : decode cX9_hire 179 = .ok (.dup2, 1) := by decide +kernel
theorem dX9_hire_180 : decode cX9_hire 180 = .ok (.iaload, 1) := by decide +kernel
theorem dX9_hire_181 : decode cX9_hire 181 = .ok (.iload_n 2, 1) := by decide +kernel
theorem dX9_hire_182 : decode cX9_hire 182 = .ok (.iadd, 1) := by decide +kernel
theorem dX9_hire_183 : decode cX9_hire 183 = .ok (.iastore, 1) := by decide +kernel
theorem dX9_hire_184 : decode cX9_hire 184 = .ok (.aload_n 0, 1) := by decide +kernel
theorem dX9_hire_185 : decode cX9_hire 185 = .ok (.dup, 1) := by decide +kernel
theorem dX9_hire_186 : decode cX9_hire 186 = .ok (.getfield 144, 3) := by decide +kernel
theorem dX9_hire_189 : decode cX9_hire 189 = .ok (.aload_n 0, 1) := by decide +kernel
theorem dX9_hire_190 : decode cX9_hire 190 = .ok (.getfield 53, 3) := by decide +kernel
theorem dX9_hire_193 : decode cX9_hire 193 = .ok (.aload_n 0, 1) := by decide +kernel
theorem dX9_hire_194 : decode cX9_hire 194 = .ok (.getfield 138, 3) := by decide +kernel
theorem dX9_hire_197 : decode cX9_hire 197 = .ok (.iaload, 1) := by decide +kernel
theorem dX9_hire_198 : decode cX9_hire 198 = .ok (.iadd, 1) := by decide +kernel
theorem dX9_hire_199 : decode cX9_hire 199 = .ok (.putfield 144, 3) := by decide +kernel
theorem dX9_hire_202 : decode cX9_hire 202 = .ok (.aload_n 0, 1) := by decide +kernel
theorem dX9_hire_203 : decode cX9_hire 203 = .ok (.dup, 1) := by decide +kernel
theorem dX9_hire_204 : decode cX9_hire 204 = .ok (.getfield 138, 3) := by decide +kernel
theorem dX9_hire_207 : decode cX9_hire 207 = .ok (.iconst 1, 1) := by decide +kernel
theorem dX9_hire_208 : decode cX9_hire 208 = .ok (.iadd, 1) := by decide +kernel
theorem dX9_hire_209 : decode cX9_hire 209 = .ok (.putfield 138, 3) := by decide +kernel
theorem dX9_hire_212 : decode cX9_hire 212 = .ok (.aload_n 0, 1) := by decide +kernel
theorem dX9_hire_213 : decode cX9_hire 213 = .ok (.dup, 1) := by decide +kernel
theorem dX9_hire_214 : decode cX9_hire 214 = .ok (.getfield 141, 3) := by decide +kernel
theorem dX9_hire_217 : decode cX9_hire 217 = .ok (.iconst 1, 1) := by decide +kernel
theorem dX9_hire_218 : decode cX9_hire 218 = .ok (.iadd, 1) := by decide +kernel
theorem dX9_hire_219 : decode cX9_hire 219 = .ok (.putfield 141, 3) := by decide +kernel
theorem dX9_hire_222 : decode cX9_hire 222 = .ok (.aload_n 0, 1) := by decide +kernel
theorem dX9_hire_223 : decode cX9_hire 223 = .ok (.getfield 141, 3) := by decide +kernel
theorem dX9_hire_226 : decode cX9_hire 226 = .ok (.iconst 1, 1) := by decide +kernel
theorem dX9_hire_227 : decode cX9_hire 227 = .ok (.isub, 1) := by decide +kernel
theorem dX9_hire_228 : decode cX9_hire 228 = .ok (.ireturn, 1) := by decide +kernel
theorem dX9_slotOf_0 : decode cX9_slotOf 0 = .ok (.ldc 114, 2) := by decide +kernel
theorem dX9_slotOf_2 : decode cX9_slotOf 2 = .ok (.istore_n 2, 1) := by decide +kernel
theorem dX9_slotOf_3 : decode cX9_slotOf 3 = .ok (.iconst 0, 1) := by decide +kernel
theorem dX9_slotOf_4 : decode cX9_slotOf 4 = .ok (.istore_n 3, 1) := by decide +kernel
theorem dX9_slotOf_5 : decode cX9_slotOf 5 = .ok (.iload_n 3, 1) := by decide +kernel
theorem dX9_slotOf_6 : decode cX9_slotOf 6 = .ok (.aload_n 0, 1) := by decide +kernel
theorem dX9_slotOf_7 : decode cX9_slotOf 7 = .ok (.getfield 138, 3) := by decide +kernel
theorem dX9_slotOf_10 : decode cX9_slotOf 10 = .ok (.if_icmp .ge 25, 3) := by decide +kernel
theorem dX9_slotOf_13 : decode cX9_slotOf 13 = .ok (.aload_n 0, 1) := by decide +kernel
theorem dX9_slotOf_14 : decode cX9_slotOf 14 = .ok (.getfield 41, 3) := by decide +kernel
theorem dX9_slotOf_17 : decode cX9_slotOf 17 = .ok (.iload_n 3, 1) := by decide +kernel
theorem dX9_slotOf_18 : decode cX9_slotOf 18 = .ok (.iaload, 1) := by decide +kernel
theorem dX9_slotOf_19 : decode cX9_slotOf 19 = .ok (.iload_n 1, 1) := by decide +kernel
theorem dX9_slotOf_20 : decode cX9_slotOf 20 = .ok (.if_icmp .ne 7, 3) := by decide +kernel
theorem dX9_slotOf_23 : decode cX9_slotOf 23 = .ok (.iload_n 3, 1) := by decide +kernel
theorem dX9_slotOf_24 : decode cX9_slotOf 24 = .ok (.goto 4, 3) := by decide +kernel
theorem dX9_slotOf_27 : decode cX9_slotOf 27 = .ok (.iload_n 2, 1) := by decide +kernel
theorem dX9_slotOf_28 : decode cX9_slotOf 28 = .ok (.istore_n 2, 1) := by decide +kernel
theorem dX9_slotOf_29 : decode cX9_slotOf 29 = .ok (.iinc 3 1, 3) := by decide +kernel
theorem dX9_slotOf_32 : decode cX9_slotOf 32 = .ok (.goto (-27), 3) := by decide +kernel
theorem dX9_slotOf_35 : decode cX9_slotOf 35 = .ok (.iload_n 2, 1) := by decide +kernel
theorem dX9_slotOf_36 : decode cX9_slotOf 36 = .ok (.ireturn, 1) := by decide +kernel
theorem dX9_shift_0 : decode cX9_shift 0 = .ok (.aload_n 0, 1) := by decide +kernel
theorem dX9_shift_1 : decode cX9_shift 1 = .ok (.iconst 0, 1) := by decide +kernel
theorem dX9_shift_2 : decode cX9_shift 2 = .ok (.putfield 1, 3) := by decide +kernel
theorem dX9_shift_5 : decode cX9_shift 5 = .ok (.aload_n 0, 1) := by decide +kernel
theorem dX9_shift_6 : decode cX9_shift 6 = .ok (.iload_n 1, 1) := by decide +kernel
theorem dX9_shift_7 : decode cX9_shift 7 = .ok (.invokevirtual 147, 3) := by decide +kernel
theorem dX9_shift_10 : decode cX9_shift 10 = .ok (.istore_n 3, 1) := by decide +kernel
theorem dX9_shift_11 : decode cX9_shift 11 = .ok (.iload_n 3, 1) := by decide +kernel
theorem dX9_shift_12 : decode cX9_shift 12 = .ok (.ldc 114, 2) := by decide +kernel
theorem dX9_shift_14 : decode cX9_shift 14 = .ok (.if_icmp .eq 21, 3) := by decide +kernel
theorem dX9_shift_17 : decode cX9_shift 17 = .ok (.aload_n 0, 1) := by decide +kernel
theorem dX9_shift_18 : decode cX9_shift 18 = .ok (.iload_n 2, 1) := by decide +kernel
theorem dX9_shift_19 : decode cX9_shift 19 = .ok (.invokevirtual 115, 3) := by decide +kernel
theorem dX9_shift_22 : decode cX9_shift 22 = .ok (.ifCond .eq 13, 3) := by decide +kernel
theorem dX9_shift_25 : decode cX9_shift 25 = .ok (.aload_n 0, 1) := by decide +kernel
theorem dX9_shift_26 : decode cX9_shift 26 = .ok (.getfield 44, 3) := by decide +kernel
theorem dX9_shift_29 : decode cX9_shift 29 = .ok (.iload_n 3, 1) := by decide +kernel
theorem dX9_shift_30 : decode cX9_shift 30 = .ok (.iaload, 1) := by decide +kernel
theorem dX9_shift_31 : decode cX9_shift 31 = .ok (.iload_n 2, 1) := by decide +kernel
theorem dX9_shift_32 : decode cX9_shift 32 = .ok (.if_icmp .ne 6, 3) := by decide +kernel
theorem dX9_shift_35 : decode cX9_shift 35 = .ok (.ldc 112, 2) := by decide +kernel
theorem dX9_shift_37 : decode cX9_shift 37 = .ok (.ireturn, 1) := by decide +kernel
theorem dX9_shift_38 : decode cX9_shift 38 = .ok (.aload_n 0, 1) := by decide +kernel
theorem dX9_shift_39 : decode cX9_shift 39 = .ok (.getfield 150, 3) := by decide +kernel
theorem dX9_shift_42 : decode cX9_shift 42 = .ok (.ifCond .eq 26, 3) := by decide +kernel
theorem dX9_shift_45 : decode cX9_shift 45 = .ok (.aload_n 0, 1) := by decide +kernel
theorem dX9_shift_46 : decode cX9_shift 46 = .ok (.getfield 150, 3) := by decide +kernel
theorem dX9_shift_49 : decode cX9_shift 49 = .ok (.iconst 1, 1) := by decide +kernel
theorem dX9_shift_50 : decode cX9_shift 50 = .ok (.if_icmp .ne 21, 3) := by decide +kernel
theorem dX9_shift_53 : decode cX9_shift 53 = .ok (.aload_n 0, 1) := by decide +kernel
theorem dX9_shift_54 : decode cX9_shift 54 = .ok (.getfield 23, 3) := by decide +kernel
theorem dX9_shift_57 : decode cX9_shift 57 = .ok (.iload_n 2, 1) := by decide +kernel
theorem dX9_shift_58 : decode cX9_shift 58 = .ok (.iaload, 1) := by decide +kernel
theorem dX9_shift_59 : decode cX9_shift 59 = .ok (.aload_n 0, 1) := by decide +kernel
theorem dX9_shift_60 : decode cX9_shift 60 = .ok (.getfield 59, 3) := by decide +kernel
theorem dX9_shift_63 : decode cX9_shift 63 = .ok (.iload_n 3, 1) := by decide +kernel
theorem dX9_shift_64 : decode cX9_shift 64 = .ok (.iaload, 1) := by decide +kernel
theorem dX9_shift_65 : decode cX9_shift 65 = .ok (.if_icmp .eq 6, 3) := by decide +kernel
theorem dX9_shift_68 : decode cX9_shift 68 = .ok (.ldc 121, 2) := by decide +kernel
theorem dX9_shift_70 : decode cX9_shift 70 = .ok (.ireturn, 1) := by decide +kernel
theorem dX9_shift_71 : decode cX9_shift 71 = .ok (.aload_n 0, 1) := by decide +kernel
theorem dX9_shift_72 : decode cX9_shift 72 = .ok (.getfield 26, 3) := by decide +kernel
theorem dX9_shift_75 : decode cX9_shift 75 = .ok (.iload_n 2, 1) := by decide +kernel
theorem dX9_shift_76 : decode cX9_shift 76 = .ok (.iaload, 1) := by decide +kernel
theorem dX9_shift_77 : decode cX9_shift 77 = .ok (.aload_n 0, 1) := by decide +kernel
theorem dX9_shift_78 : decode cX9_shift 78 = .ok (.getfield 47, 3) := by decide +kernel
theorem dX9_shift_81 : decode cX9_shift 81 = .ok (.iload_n 3, 1) := by decide +kernel
theorem dX9_shift_82 : decode cX9_shift 82 = .ok (.iaload, 1) := by decide +kernel
theorem dX9_shift_83 : decode cX9_shift 83 = .ok (.if_icmp .ge 6, 3) := by decide +kernel
theorem dX9_shift_86 : decode cX9_shift 86 = .ok (.ldc 113, 2) := by decide +kernel
theorem dX9_shift_88 : decode cX9_shift 88 = .ok (.ireturn, 1) := by decide +kernel
theorem dX9_shift_89 : decode cX9_shift 89 = .ok (.aload_n 0, 1) := by decide +kernel
theorem dX9_shift_90 : decode cX9_shift 90 = .ok (.getfield 26, 3) := by decide +kernel
theorem dX9_shift_93 : decode cX9_shift 93 = .ok (.aload_n 0, 1) := by decide +kernel
theorem dX9_shift_94 : decode cX9_shift 94 = .ok (.getfield 44, 3) := by decide +kernel
theorem dX9_shift_97 : decode cX9_shift 97 = .ok (.iload_n 3, 1) := by decide +kernel
theorem dX9_shift_98 : decode cX9_shift 98 = .ok (.iaload, 1) := by decide +kernel
theorem dX9_shift_99 : decode cX9_shift 99 = .ok (.dup2, 1) := by decide +kernel
theorem dX9_shift_100 : decode cX9_shift 100 = .ok (.iaload, 1) := by decide +kernel
theorem dX9_shift_101 : decode cX9_shift 101 = .ok (.aload_n 0, 1) := by decide +kernel
theorem dX9_shift_102 : decode cX9_shift 102 = .ok (.getfield 47, 3) := by decide +kernel
theorem dX9_shift_105 : decode cX9_shift 105 = .ok (.iload_n 3, 1) := by decide +kernel
theorem dX9_shift_106 : decode cX9_shift 106 = .ok (.iaload, 1) := by decide +kernel
theorem dX9_shift_107 : decode cX9_shift 107 = .ok (.iadd, 1) := by decide +kernel
theorem dX9_shift_108 : decode cX9_shift 108 = .ok (.iastore, 1) := by decide +kernel
theorem dX9_shift_109 : decode cX9_shift 109 = .ok (.aload_n 0, 1) := by decide +kernel
theorem dX9_shift_110 : decode cX9_shift 110 = .ok (.getfield 29, 3) := by decide +kernel
theorem dX9_shift_113 : decode cX9_shift 113 = .ok (.aload_n 0, 1) := by decide +kernel
theorem dX9_shift_114 : decode cX9_shift 114 = .ok (.getfield 44, 3) := by decide +kernel
theorem dX9_shift_117 : decode cX9_shift 117 = .ok (.iload_n 3, 1) := by decide +kernel
theorem dX9_shift_118 : decode cX9_shift 118 = .ok (.iaload, 1) := by decide +kernel
theorem dX9_shift_119 : decode cX9_shift 119 = .ok (.dup2, 1) := by decide +kernel
theorem dX9_shift_120 : decode cX9_shift 120 = .ok (.iaload, 1) := by decide +kernel
theorem dX9_shift_121 : decode cX9_shift 121 = .ok (.aload_n 0, 1) := by decide +kernel
theorem dX9_shift_122 : decode cX9_shift 122 = .ok (.getfield 47, 3) := by decide +kernel
theorem dX9_shift_125 : decode cX9_shift 125 = .ok (.iload_n 3, 1) := by decide +kernel
theorem dX9_shift_126 : decode cX9_shift 126 = .ok (.iaload, 1) := by decide +kernel
theorem dX9_shift_127 : decode cX9_shift 127 = .ok (.isub, 1) := by decide +kernel
theorem dX9_shift_128 : decode cX9_shift 128 = .ok (.iastore, 1) := by decide +kernel
theorem dX9_shift_129 : decode cX9_shift 129 = .ok (.aload_n 0, 1) := by decide +kernel
theorem dX9_shift_130 : decode cX9_shift 130 = .ok (.getfield 26, 3) := by decide +kernel
theorem dX9_shift_133 : decode cX9_shift 133 = .ok (.iload_n 2, 1) := by decide +kernel
theorem dX9_shift_134 : decode cX9_shift 134 = .ok (.dup2, 1) := by decide +kernel
theorem dX9_shift_135 : decode cX9_shift 135 = .ok (.iaload, 1) := by decide +kernel
theorem dX9_shift_136 : decode cX9_shift 136 = .ok (.aload_n 0, 1) := by decide +kernel
theorem dX9_shift_137 : decode cX9_shift 137 = .ok (.getfield 47, 3) := by decide +kernel
theorem dX9_shift_140 : decode cX9_shift 140 = .ok (.iload_n 3, 1) := by decide +kernel
theorem dX9_shift_141 : decode cX9_shift 141 = .ok (.iaload, 1) := by decide +kernel
theorem dX9_shift_142 : decode cX9_shift 142 = .ok (.isub, 1) := by decide +kernel
theorem dX9_shift_143 : decode cX9_shift 143 = .ok (.iastore, 1) := by decide +kernel
theorem dX9_shift_144 : decode cX9_shift 144 = .ok (.aload_n 0, 1) := by decide +kernel
theorem dX9_shift_145 : decode cX9_shift 145 = .ok (.getfield 29, 3) := by decide +kernel
theorem dX9_shift_148 : decode cX9_shift 148 = .ok (.iload_n 2, 1) := by decide +kernel
theorem dX9_shift_149 : decode cX9_shift 149 = .ok (.dup2, 1) := by decide +kernel
theorem dX9_shift_150 : decode cX9_shift 150 = .ok (.iaload, 1) := by decide +kernel
theorem dX9_shift_151 : decode cX9_shift 151 = .ok (.aload_n 0, 1) := by decide +kernel
theorem dX9_shift_152 : decode cX9_shift 152 = .ok (.getfield 47, 3) := by decide +kernel
theorem dX9_shift_155 : decode cX9_shift 155 = .ok (.iload_n 3, 1) := by decide +kernel
theorem dX9_shift_156 : decode cX9_shift 156 = .ok (.iaload, 1) := by decide +kernel
theorem dX9_shift_157 : decode cX9_shift 157 = .ok (.iadd, 1) := by decide +kernel
theorem dX9_shift_158 : decode cX9_shift 158 = .ok (.iastore, 1) := by decide +kernel
theorem dX9_shift_159 : decode cX9_shift 159 = .ok (.aload_n 0, 1) := by decide +kernel
theorem dX9_shift_160 : decode cX9_shift 160 = .ok (.getfield 44, 3) := by decide +kernel
theorem dX9_shift_163 : decode cX9_shift 163 = .ok (.iload_n 3, 1) := by decide +kernel
theorem dX9_shift_164 : decode cX9_shift 164 = .ok (.iload_n 2, 1) := by decide +kernel
theorem dX9_shift_165 : decode cX9_shift 165 = .ok (.iastore, 1) := by decide +kernel
theorem dX9_shift_166 : decode cX9_shift 166 = .ok (.iconst 1, 1) := by decide +kernel
theorem dX9_shift_167 : decode cX9_shift 167 = .ok (.ireturn, 1) := by decide +kernel
theorem dX9_ticket_0 : decode cX9_ticket 0 = .ok (.aload_n 0, 1) := by decide +kernel
theorem dX9_ticket_1 : decode cX9_ticket 1 = .ok (.iconst 0, 1) := by decide +kernel
theorem dX9_ticket_2 : decode cX9_ticket 2 = .ok (.putfield 1, 3) := by decide +kernel
theorem dX9_ticket_5 : decode cX9_ticket 5 = .ok (.aload_n 0, 1) := by decide +kernel
theorem dX9_ticket_6 : decode cX9_ticket 6 = .ok (.iload_n 1, 1) := by decide +kernel
theorem dX9_ticket_7 : decode cX9_ticket 7 = .ok (.invokevirtual 147, 3) := by decide +kernel
theorem dX9_ticket_10 : decode cX9_ticket 10 = .ok (.istore_n 3, 1) := by decide +kernel
theorem dX9_ticket_11 : decode cX9_ticket 11 = .ok (.iload_n 3, 1) := by decide +kernel
theorem dX9_ticket_12 : decode cX9_ticket 12 = .ok (.ldc 114, 2) := by decide +kernel
theorem dX9_ticket_14 : decode cX9_ticket 14 = .ok (.if_icmp .eq 15, 3) := by decide +kernel
theorem dX9_ticket_17 : decode cX9_ticket 17 = .ok (.iload_n 2, 1) := by decide +kernel
theorem dX9_ticket_18 : decode cX9_ticket 18 = .ok (.i2l, 1) := by decide +kernel
theorem dX9_ticket_19 : decode cX9_ticket 19 = .ok (.lconst 0, 1) := by decide +kernel
theorem dX9_ticket_20 : decode cX9_ticket 20 = .ok (.ldc2_w 110, 3) := by decide +kernel
theorem dX9_ticket_23 : decode cX9_ticket 23 = .ok (.invokestatic 104, 3) := by decide +kernel
theorem dX9_ticket_26 : decode cX9_ticket 26 = .ok (.ifCond .ne 6, 3) := by decide +kernel
theorem dX9_ticket_29 : decode cX9_ticket 29 = .ok (.ldc 112, 2) := by decide +kernel
theorem dX9_ticket_31 : decode cX9_ticket 31 = .ok (.ireturn, 1) := by decide +kernel
theorem dX9_ticket_32 : decode cX9_ticket 32 = .ok (.iload_n 2, 1) := by decide +kernel
theorem dX9_ticket_33 : decode cX9_ticket 33 = .ok (.ifCond .ne 12, 3) := by decide +kernel
theorem dX9_ticket_36 : decode cX9_ticket 36 = .ok (.aload_n 0, 1) := by decide +kernel
theorem dX9_ticket_37 : decode cX9_ticket 37 = .ok (.getfield 44, 3) := by decide +kernel
theorem dX9_ticket_40 : decode cX9_ticket 40 = .ok (.iload_n 3, 1) := by decide +kernel
theorem dX9_ticket_41 : decode cX9_ticket 41 = .ok (.iaload, 1) := by decide +kernel
theorem dX9_ticket_42 : decode cX9_ticket 42 = .ok (.goto 37, 3) := by decide +kernel
theorem dX9_ticket_45 : decode cX9_ticket 45 = .ok (.iload_n 2, 1) := by decide +kernel
theorem dX9_ticket_46 : decode cX9_ticket 46 = .ok (.iconst 1, 1) := by decide +kernel
theorem dX9_ticket_47 : decode cX9_ticket 47 = .ok (.if_icmp .ne 12, 3) := by decide +kernel
theorem dX9_ticket_50 : decode cX9_ticket 50 = .ok (.aload_n 0, 1) := by decide +kernel
theorem dX9_ticket_51 : decode cX9_ticket 51 = .ok (.getfield 47, 3) := by decide +kernel
theorem dX9_ticket_54 : decode cX9_ticket 54 = .ok (.iload_n 3, 1) := by decide +kernel
theorem dX9_ticket_55 : decode cX9_ticket 55 = .ok (.iaload, 1) := by decide +kernel
theorem dX9_ticket_56 : decode cX9_ticket 56 = .ok (.goto 23, 3) := by decide +kernel
theorem dX9_ticket_59 : decode cX9_ticket 59 = .ok (.iload_n 2, 1) := by decide +kernel
theorem dX9_ticket_60 : decode cX9_ticket 60 = .ok (.iconst 2, 1) := by decide +kernel
theorem dX9_ticket_61 : decode cX9_ticket 61 = .ok (.if_icmp .ne 12, 3) := by decide +kernel
theorem dX9_ticket_64 : decode cX9_ticket 64 = .ok (.aload_n 0, 1) := by decide +kernel
theorem dX9_ticket_65 : decode cX9_ticket 65 = .ok (.getfield 50, 3) := by decide +kernel
theorem dX9_ticket_68 : decode cX9_ticket 68 = .ok (.iload_n 3, 1) := by decide +kernel
theorem dX9_ticket_69 : decode cX9_ticket 69 = .ok (.iaload, 1) := by decide +kernel
theorem dX9_ticket_70 : decode cX9_ticket 70 = .ok (.goto 9, 3) := by decide +kernel
theorem dX9_ticket_73 : decode cX9_ticket 73 = .ok (.aload_n 0, 1) := by decide +kernel
theorem dX9_ticket_74 : decode cX9_ticket 74 = .ok (.getfield 53, 3) := by decide +kernel
theorem dX9_ticket_77 : decode cX9_ticket 77 = .ok (.iload_n 3, 1) := by decide +kernel
theorem dX9_ticket_78 : decode cX9_ticket 78 = .ok (.iaload, 1) := by decide +kernel
theorem dX9_ticket_79 : decode cX9_ticket 79 = .ok (.ireturn, 1) := by decide +kernel
theorem dX9_end_0 : decode cX9_end 0 = .ok (.aload_n 0, 1) := by decide +kernel
theorem dX9_end_1 : decode cX9_end 1 = .ok (.getfield 26, 3) := by decide +kernel
theorem dX9_end_4 : decode cX9_end 4 = .ok (.aload_n 0, 1) := by decide +kernel
theorem dX9_end_5 : decode cX9_end 5 = .ok (.getfield 44, 3) := by decide +kernel
theorem dX9_end_8 : decode cX9_end 8 = .ok (.iload_n 1, 1) := by decide +kernel
theorem dX9_end_9 : decode cX9_end 9 = .ok (.iaload, 1) := by decide +kernel
theorem dX9_end_10 : decode cX9_end 10 = .ok (.dup2, 1) := by decide +kernel
theorem dX9_end_11 : decode cX9_end 11 = .ok (.iaload, 1) := by decide +kernel
theorem dX9_end_12 : decode cX9_end 12 = .ok (.aload_n 0, 1) := by decide +kernel
theorem dX9_end_13 : decode cX9_end 13 = .ok (.getfield 47, 3) := by decide +kernel
theorem dX9_end_16 : decode cX9_end 16 = .ok (.iload_n 1, 1) := by decide +kernel
theorem dX9_end_17 : decode cX9_end 17 = .ok (.iaload, 1) := by decide +kernel
theorem dX9_end_18 : decode cX9_end 18 = .ok (.iadd, 1) := by decide +kernel
theorem dX9_end_19 : decode cX9_end 19 = .ok (.iastore, 1) := by decide +kernel
theorem dX9_end_20 : decode cX9_end 20 = .ok (.aload_n 0, 1) := by decide +kernel
theorem dX9_end_21 : decode cX9_end 21 = .ok (.getfield 29, 3) := by decide +kernel
theorem dX9_end_24 : decode cX9_end 24 = .ok (.aload_n 0, 1) := by decide +kernel
theorem dX9_end_25 : decode cX9_end 25 = .ok (.getfield 44, 3) := by decide +kernel
theorem dX9_end_28 : decode cX9_end 28 = .ok (.iload_n 1, 1) := by decide +kernel
theorem dX9_end_29 : decode cX9_end 29 = .ok (.iaload, 1) := by decide +kernel
theorem dX9_end_30 : decode cX9_end 30 = .ok (.dup2, 1) := by decide +kernel
theorem dX9_end_31 : decode cX9_end 31 = .ok (.iaload, 1) := by decide +kernel
theorem dX9_end_32 : decode cX9_end 32 = .ok (.aload_n 0, 1) := by decide +kernel
theorem dX9_end_33 : decode cX9_end 33 = .ok (.getfield 47, 3) := by decide +kernel
theorem dX9_end_36 : decode cX9_end 36 = .ok (.iload_n 1, 1) := by decide +kernel
theorem dX9_end_37 : decode cX9_end 37 = .ok (.iaload, 1) := by decide +kernel
theorem dX9_end_38 : decode cX9_end 38 = .ok (.isub, 1) := by decide +kernel
theorem dX9_end_39 : decode cX9_end 39 = .ok (.iastore, 1) := by decide +kernel
theorem dX9_end_40 : decode cX9_end 40 = .ok (.aload_n 0, 1) := by decide +kernel
theorem dX9_end_41 : decode cX9_end 41 = .ok (.dup, 1) := by decide +kernel
theorem dX9_end_42 : decode cX9_end 42 = .ok (.getfield 138, 3) := by decide +kernel
theorem dX9_end_45 : decode cX9_end 45 = .ok (.iconst 1, 1) := by decide +kernel
theorem dX9_end_46 : decode cX9_end 46 = .ok (.isub, 1) := by decide +kernel
theorem dX9_end_47 : decode cX9_end 47 = .ok (.putfield 138, 3) := by decide +kernel
theorem dX9_end_50 : decode cX9_end 50 = .ok (.iload_n 1, 1) := by decide +kernel
theorem dX9_end_51 : decode cX9_end 51 = .ok (.istore_n 2, 1) := by decide +kernel
theorem dX9_end_52 : decode cX9_end 52 = .ok (.iload_n 2, 1) := by decide +kernel
theorem dX9_end_53 : decode cX9_end 53 = .ok (.aload_n 0, 1) := by decide +kernel
theorem dX9_end_54 : decode cX9_end 54 = .ok (.getfield 138, 3) := by decide +kernel
theorem dX9_end_57 : decode cX9_end 57 = .ok (.if_icmp .ge 107, 3) := by decide +kernel
theorem dX9_end_60 : decode cX9_end 60 = .ok (.aload_n 0, 1) := by decide +kernel
theorem dX9_end_61 : decode cX9_end 61 = .ok (.getfield 41, 3) := by decide +kernel
theorem dX9_end_64 : decode cX9_end 64 = .ok (.iload_n 2, 1) := by decide +kernel
theorem dX9_end_65 : decode cX9_end 65 = .ok (.aload_n 0, 1) := by decide +kernel
theorem dX9_end_66 : decode cX9_end 66 = .ok (.getfield 41, 3) := by decide +kernel
theorem dX9_end_69 : decode cX9_end 69 = .ok (.iload_n 2, 1) := by decide +kernel
theorem dX9_end_70 : decode cX9_end 70 = .ok (.iconst 1, 1) := by decide +kernel
theorem dX9_end_71 : decode cX9_end 71 = .ok (.iadd, 1) := by decide +kernel
theorem dX9_end_72 : decode cX9_end 72 = .ok (.iaload, 1) := by decide +kernel
theorem dX9_end_73 : decode cX9_end 73 = .ok (.iastore, 1) := by decide +kernel
theorem dX9_end_74 : decode cX9_end 74 = .ok (.aload_n 0, 1) := by decide +kernel
theorem dX9_end_75 : decode cX9_end 75 = .ok (.getfield 44, 3) := by decide +kernel
theorem dX9_end_78 : decode cX9_end 78 = .ok (.iload_n 2, 1) := by decide +kernel
theorem dX9_end_79 : decode cX9_end 79 = .ok (.aload_n 0, 1) := by decide +kernel
theorem dX9_end_80 : decode cX9_end 80 = .ok (.getfield 44, 3) := by decide +kernel
theorem dX9_end_83 : decode cX9_end 83 = .ok (.iload_n 2, 1) := by decide +kernel
theorem dX9_end_84 : decode cX9_end 84 = .ok (.iconst 1, 1) := by decide +kernel
theorem dX9_end_85 : decode cX9_end 85 = .ok (.iadd, 1) := by decide +kernel
theorem dX9_end_86 : decode cX9_end 86 = .ok (.iaload, 1) := by decide +kernel
theorem dX9_end_87 : decode cX9_end 87 = .ok (.iastore, 1) := by decide +kernel
theorem dX9_end_88 : decode cX9_end 88 = .ok (.aload_n 0, 1) := by decide +kernel
theorem dX9_end_89 : decode cX9_end 89 = .ok (.getfield 47, 3) := by decide +kernel
theorem dX9_end_92 : decode cX9_end 92 = .ok (.iload_n 2, 1) := by decide +kernel
theorem dX9_end_93 : decode cX9_end 93 = .ok (.aload_n 0, 1) := by decide +kernel
theorem dX9_end_94 : decode cX9_end 94 = .ok (.getfield 47, 3) := by decide +kernel
theorem dX9_end_97 : decode cX9_end 97 = .ok (.iload_n 2, 1) := by decide +kernel
theorem dX9_end_98 : decode cX9_end 98 = .ok (.iconst 1, 1) := by decide +kernel
theorem dX9_end_99 : decode cX9_end 99 = .ok (.iadd, 1) := by decide +kernel
theorem dX9_end_100 : decode cX9_end 100 = .ok (.iaload, 1) := by decide +kernel
theorem dX9_end_101 : decode cX9_end 101 = .ok (.iastore, 1) := by decide +kernel
theorem dX9_end_102 : decode cX9_end 102 = .ok (.aload_n 0, 1) := by decide +kernel
theorem dX9_end_103 : decode cX9_end 103 = .ok (.getfield 50, 3) := by decide +kernel
theorem dX9_end_106 : decode cX9_end 106 = .ok (.iload_n 2, 1) := by decide +kernel
theorem dX9_end_107 : decode cX9_end 107 = .ok (.aload_n 0, 1) := by decide +kernel
theorem dX9_end_108 : decode cX9_end 108 = .ok (.getfield 50, 3) := by decide +kernel
theorem dX9_end_111 : decode cX9_end 111 = .ok (.iload_n 2, 1) := by decide +kernel
theorem dX9_end_112 : decode cX9_end 112 = .ok (.iconst 1, 1) := by decide +kernel
theorem dX9_end_113 : decode cX9_end 113 = .ok (.iadd, 1) := by decide +kernel
theorem dX9_end_114 : decode cX9_end 114 = .ok (.iaload, 1) := by decide +kernel
theorem dX9_end_115 : decode cX9_end 115 = .ok (.iastore, 1) := by decide +kernel
theorem dX9_end_116 : decode cX9_end 116 = .ok (.aload_n 0, 1) := by decide +kernel
theorem dX9_end_117 : decode cX9_end 117 = .ok (.getfield 53, 3) := by decide +kernel
theorem dX9_end_120 : decode cX9_end 120 = .ok (.iload_n 2, 1) := by decide +kernel
theorem dX9_end_121 : decode cX9_end 121 = .ok (.aload_n 0, 1) := by decide +kernel
theorem dX9_end_122 : decode cX9_end 122 = .ok (.getfield 53, 3) := by decide +kernel
theorem dX9_end_125 : decode cX9_end 125 = .ok (.iload_n 2, 1) := by decide +kernel
theorem dX9_end_126 : decode cX9_end 126 = .ok (.iconst 1, 1) := by decide +kernel
theorem dX9_end_127 : decode cX9_end 127 = .ok (.iadd, 1) := by decide +kernel
theorem dX9_end_128 : decode cX9_end 128 = .ok (.iaload, 1) := by decide +kernel
theorem dX9_end_129 : decode cX9_end 129 = .ok (.iastore, 1) := by decide +kernel
theorem dX9_end_130 : decode cX9_end 130 = .ok (.aload_n 0, 1) := by decide +kernel
theorem dX9_end_131 : decode cX9_end 131 = .ok (.getfield 56, 3) := by decide +kernel
theorem dX9_end_134 : decode cX9_end 134 = .ok (.iload_n 2, 1) := by decide +kernel
theorem dX9_end_135 : decode cX9_end 135 = .ok (.aload_n 0, 1) := by decide +kernel
theorem dX9_end_136 : decode cX9_end 136 = .ok (.getfield 56, 3) := by decide +kernel
theorem dX9_end_139 : decode cX9_end 139 = .ok (.iload_n 2, 1) := by decide +kernel
theorem dX9_end_140 : decode cX9_end 140 = .ok (.iconst 1, 1) := by decide +kernel
theorem dX9_end_141 : decode cX9_end 141 = .ok (.iadd, 1) := by decide +kernel
theorem dX9_end_142 : decode cX9_end 142 = .ok (.iaload, 1) := by decide +kernel
theorem dX9_end_143 : decode cX9_end 143 = .ok (.iastore, 1) := by decide +kernel
theorem dX9_end_144 : decode cX9_end 144 = .ok (.aload_n 0, 1) := by decide +kernel
theorem dX9_end_145 : decode cX9_end 145 = .ok (.getfield 59, 3) := by decide +kernel
theorem dX9_end_148 : decode cX9_end 148 = .ok (.iload_n 2, 1) := by decide +kernel
theorem dX9_end_149 : decode cX9_end 149 = .ok (.aload_n 0, 1) := by decide +kernel
theorem dX9_end_150 : decode cX9_end 150 = .ok (.getfield 59, 3) := by decide +kernel
theorem dX9_end_153 : decode cX9_end 153 = .ok (.iload_n 2, 1) := by decide +kernel
theorem dX9_end_154 : decode cX9_end 154 = .ok (.iconst 1, 1) := by decide +kernel
theorem dX9_end_155 : decode cX9_end 155 = .ok (.iadd, 1) := by decide +kernel
theorem dX9_end_156 : decode cX9_end 156 = .ok (.iaload, 1) := by decide +kernel
theorem dX9_end_157 : decode cX9_end 157 = .ok (.iastore, 1) := by decide +kernel
theorem dX9_end_158 : decode cX9_end 158 = .ok (.iinc 2 1, 3) := by decide +kernel
theorem dX9_end_161 : decode cX9_end 161 = .ok (.goto (-109), 3) := by decide +kernel
theorem dX9_end_164 : decode cX9_end 164 = .ok (.return_, 1) := by decide +kernel
theorem dX9_tear_0 : decode cX9_tear 0 = .ok (.aload_n 0, 1) := by decide +kernel
theorem dX9_tear_1 : decode cX9_tear 1 = .ok (.getfield 26, 3) := by decide +kernel
theorem dX9_tear_4 : decode cX9_tear 4 = .ok (.iload_n 1, 1) := by decide +kernel
theorem dX9_tear_5 : decode cX9_tear 5 = .ok (.iaload, 1) := by decide +kernel
theorem dX9_tear_6 : decode cX9_tear 6 = .ok (.ifCond .le 24, 3) := by decide +kernel
theorem dX9_tear_9 : decode cX9_tear 9 = .ok (.aload_n 0, 1) := by decide +kernel
theorem dX9_tear_10 : decode cX9_tear 10 = .ok (.getfield 26, 3) := by decide +kernel
theorem dX9_tear_13 : decode cX9_tear 13 = .ok (.iload_n 1, 1) := by decide +kernel
theorem dX9_tear_14 : decode cX9_tear 14 = .ok (.dup2, 1) := by decide +kernel
theorem dX9_tear_15 : decode cX9_tear 15 = .ok (.iaload, 1) := by decide +kernel
theorem dX9_tear_16 : decode cX9_tear 16 = .ok (.iconst 1, 1) := by decide +kernel
theorem dX9_tear_17 : decode cX9_tear 17 = .ok (.isub, 1) := by decide +kernel
theorem dX9_tear_18 : decode cX9_tear 18 = .ok (.iastore, 1) := by decide +kernel
theorem dX9_tear_19 : decode cX9_tear 19 = .ok (.aload_n 0, 1) := by decide +kernel
theorem dX9_tear_20 : decode cX9_tear 20 = .ok (.dup, 1) := by decide +kernel
theorem dX9_tear_21 : decode cX9_tear 21 = .ok (.getfield 130, 3) := by decide +kernel
theorem dX9_tear_24 : decode cX9_tear 24 = .ok (.iconst 1, 1) := by decide +kernel
theorem dX9_tear_25 : decode cX9_tear 25 = .ok (.iadd, 1) := by decide +kernel
theorem dX9_tear_26 : decode cX9_tear 26 = .ok (.putfield 130, 3) := by decide +kernel
theorem dX9_tear_29 : decode cX9_tear 29 = .ok (.return_, 1) := by decide +kernel
theorem dX9_tear_30 : decode cX9_tear 30 = .ok (.ldc 114, 2) := by decide +kernel
theorem dX9_tear_32 : decode cX9_tear 32 = .ok (.istore_n 2, 1) := by decide +kernel
theorem dX9_tear_33 : decode cX9_tear 33 = .ok (.iconst 0, 1) := by decide +kernel
theorem dX9_tear_34 : decode cX9_tear 34 = .ok (.istore_n 3, 1) := by decide +kernel
theorem dX9_tear_35 : decode cX9_tear 35 = .ok (.iload_n 3, 1) := by decide +kernel
theorem dX9_tear_36 : decode cX9_tear 36 = .ok (.aload_n 0, 1) := by decide +kernel
theorem dX9_tear_37 : decode cX9_tear 37 = .ok (.getfield 138, 3) := by decide +kernel
theorem dX9_tear_40 : decode cX9_tear 40 = .ok (.if_icmp .ge 25, 3) := by decide +kernel
theorem dX9_tear_43 : decode cX9_tear 43 = .ok (.aload_n 0, 1) := by decide +kernel
theorem dX9_tear_44 : decode cX9_tear 44 = .ok (.getfield 44, 3) := by decide +kernel
theorem dX9_tear_47 : decode cX9_tear 47 = .ok (.iload_n 3, 1) := by decide +kernel
theorem dX9_tear_48 : decode cX9_tear 48 = .ok (.iaload, 1) := by decide +kernel
theorem dX9_tear_49 : decode cX9_tear 49 = .ok (.iload_n 1, 1) := by decide +kernel
theorem dX9_tear_50 : decode cX9_tear 50 = .ok (.if_icmp .ne 7, 3) := by decide +kernel
theorem dX9_tear_53 : decode cX9_tear 53 = .ok (.iload_n 3, 1) := by decide +kernel
theorem dX9_tear_54 : decode cX9_tear 54 = .ok (.goto 4, 3) := by decide +kernel
theorem dX9_tear_57 : decode cX9_tear 57 = .ok (.iload_n 2, 1) := by decide +kernel
theorem dX9_tear_58 : decode cX9_tear 58 = .ok (.istore_n 2, 1) := by decide +kernel
theorem dX9_tear_59 : decode cX9_tear 59 = .ok (.iinc 3 1, 3) := by decide +kernel
theorem dX9_tear_62 : decode cX9_tear 62 = .ok (.goto (-27), 3) := by decide +kernel
theorem dX9_tear_65 : decode cX9_tear 65 = .ok (.iload_n 2, 1) := by decide +kernel
theorem dX9_tear_66 : decode cX9_tear 66 = .ok (.ldc 114, 2) := by decide +kernel
theorem dX9_tear_68 : decode cX9_tear 68 = .ok (.if_icmp .eq 47, 3) := by decide +kernel
theorem dX9_tear_71 : decode cX9_tear 71 = .ok (.aload_n 0, 1) := by decide +kernel
theorem dX9_tear_72 : decode cX9_tear 72 = .ok (.getfield 47, 3) := by decide +kernel
theorem dX9_tear_75 : decode cX9_tear 75 = .ok (.iload_n 2, 1) := by decide +kernel
theorem dX9_tear_76 : decode cX9_tear 76 = .ok (.dup2, 1) := by decide +kernel
theorem dX9_tear_77 : decode cX9_tear 77 = .ok (.iaload, 1) := by decide +kernel
theorem dX9_tear_78 : decode cX9_tear 78 = .ok (.iconst 1, 1) := by decide +kernel
theorem dX9_tear_79 : decode cX9_tear 79 = .ok (.isub, 1) := by decide +kernel
theorem dX9_tear_80 : decode cX9_tear 80 = .ok (.iastore, 1) := by decide +kernel
theorem dX9_tear_81 : decode cX9_tear 81 = .ok (.aload_n 0, 1) := by decide +kernel
