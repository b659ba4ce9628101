theorem dX9_rules_82 : decode cX9_rules 82 = .ok (.aload_n 0, 1) := by decide +kernel
theorem dX9_rules_83 : decode cX9_rules 83 = .ok (.getfield 209, 3) := by decide +kernel
theorem dX9_rules_86 : decode cX9_rules 86 = .ok (.putfield 260, 3) := by decide +kernel
theorem dX9_rules_89 : decode cX9_rules 89 = .ok (.ldc_w 263, 3) := by decide +kernel
theorem dX9_rules_92 : decode cX9_rules 92 = .ok (.aload_n 0, 1) := by decide +kernel
theorem dX9_rules_93 : decode cX9_rules 93 = .ok (.getfield 212, 3) := by decide +kernel
theorem dX9_rules_96 : decode cX9_rules 96 = .ok (.isub, 1) := by decide +kernel
theorem dX9_rules_97 : decode cX9_rules 97 = .ok (.ireturn, 1) := by decide +kernel
theorem dX9_rules_98 : decode cX9_rules 98 = .ok (.aload_n 0, 1) := by decide +kernel
theorem dX9_rules_99 : decode cX9_rules 99 = .ok (.aload_n 0, 1) := by decide +kernel
theorem dX9_rules_100 : decode cX9_rules 100 = .ok (.getfield 245, 3) := by decide +kernel
theorem dX9_rules_103 : decode cX9_rules 103 = .ok (.putfield 150, 3) := by decide +kernel
theorem dX9_rules_106 : decode cX9_rules 106 = .ok (.aload_n 0, 1) := by decide +kernel
theorem dX9_rules_107 : decode cX9_rules 107 = .ok (.aload_n 0, 1) := by decide +kernel
theorem dX9_rules_108 : decode cX9_rules 108 = .ok (.getfield 231, 3) := by decide +kernel
theorem dX9_rules_111 : decode cX9_rules 111 = .ok (.putfield 172, 3) := by decide +kernel
theorem dX9_rules_114 : decode cX9_rules 114 = .ok (.aload_n 0, 1) := by decide +kernel
theorem dX9_rules_115 : decode cX9_rules 115 = .ok (.aload_n 0, 1) := by decide +kernel
theorem dX9_rules_116 : decode cX9_rules 116 = .ok (.getfield 236, 3) := by decide +kernel
theorem dX9_rules_119 : decode cX9_rules 119 = .ok (.putfield 264, 3) := by decide +kernel
theorem dX9_rules_122 : decode cX9_rules 122 = .ok (.iconst 0, 1) := by decide +kernel
theorem dX9_rules_123 : decode cX9_rules 123 = .ok (.istore_n 2, 1) := by decide +kernel
theorem dX9_rules_124 : decode cX9_rules 124 = .ok (.iload_n 2, 1) := by decide +kernel
theorem dX9_rules_125 : decode cX9_rules 125 = .ok (.iconst 5, 1) := by decide +kernel
theorem dX9_rules_126 : decode cX9_rules 126 = .ok (.if_icmp .ge 57, 3) := by decide +kernel
theorem dX9_rules_129 : decode cX9_rules 129 = .ok (.aload_n 0, 1) := by decide +kernel
theorem dX9_rules_130 : decode cX9_rules 130 = .ok (.getfield 62, 3) := by decide +kernel
theorem dX9_rules_133 : decode cX9_rules 133 = .ok (.iload_n 2, 1) := by decide +kernel
theorem dX9_rules_134 : decode cX9_rules 134 = .ok (.aload_n 0, 1) := by decide +kernel
theorem dX9_rules_135 : decode cX9_rules 135 = .ok (.getfield 74, 3) := by decide +kernel
theorem dX9_rules_138 : decode cX9_rules 138 = .ok (.iload_n 2, 1) := by decide +kernel
theorem dX9_rules_139 : decode cX9_rules 139 = .ok (.iaload, 1) := by decide +kernel
theorem dX9_rules_140 : decode cX9_rules 140 = .ok (.iastore, 1) := by decide +kernel
theorem dX9_rules_141 : decode cX9_rules 141 = .ok (.aload_n 0, 1) := by decide +kernel
theorem dX9_rules_142 : decode cX9_rules 142 = .ok (.getfield 65, 3) := by decide +kernel
theorem dX9_rules_145 : decode cX9_rules 145 = .ok (.iload_n 2, 1) := by decide +kernel
theorem dX9_rules_146 : decode cX9_rules 146 = .ok (.aload_n 0, 1) := by decide +kernel
theorem dX9_rules_147 : decode cX9_rules 147 = .ok (.getfield 77, 3) := by decide +kernel
theorem dX9_rules_150 : decode cX9_rules 150 = .ok (.iload_n 2, 1) := by decide +kernel
theorem dX9_rules_151 : decode cX9_rules 151 = .ok (.iaload, 1) := by decide +kernel
theorem dX9_rules_152 : decode cX9_rules 152 = .ok (.iastore, 1) := by decide +kernel
theorem dX9_rules_153 : decode cX9_rules 153 = .ok (.aload_n 0, 1) := by decide +kernel
theorem dX9_rules_154 : decode cX9_rules 154 = .ok (.getfield 68, 3) := by decide +kernel
theorem dX9_rules_157 : decode cX9_rules 157 = .ok (.iload_n 2, 1) := by decide +kernel
theorem dX9_rules_158 : decode cX9_rules 158 = .ok (.aload_n 0, 1) := by decide +kernel
theorem dX9_rules_159 : decode cX9_rules 159 = .ok (.getfield 80, 3) := by decide +kernel
theorem dX9_rules_162 : decode cX9_rules 162 = .ok (.iload_n 2, 1) := by decide +kernel
theorem dX9_rules_163 : decode cX9_rules 163 = .ok (.iaload, 1) := by decide +kernel
theorem dX9_rules_164 : decode cX9_rules 164 = .ok (.iastore, 1) := by decide +kernel
theorem dX9_rules_165 : decode cX9_rules 165 = .ok (.aload_n 0, 1) := by decide +kernel
theorem dX9_rules_166 : decode cX9_rules 166 = .ok (.getfield 71, 3) := by decide +kernel
theorem dX9_rules_169 : decode cX9_rules 169 = .ok (.iload_n 2, 1) := by decide +kernel
theorem dX9_rules_170 : decode cX9_rules 170 = .ok (.aload_n 0, 1) := by decide +kernel
theorem dX9_rules_171 : decode cX9_rules 171 = .ok (.getfield 83, 3) := by decide +kernel
theorem dX9_rules_174 : decode cX9_rules 174 = .ok (.iload_n 2, 1) := by decide +kernel
theorem dX9_rules_175 : decode cX9_rules 175 = .ok (.iaload, 1) := by decide +kernel
theorem dX9_rules_176 : decode cX9_rules 176 = .ok (.iastore, 1) := by decide +kernel
theorem dX9_rules_177 : decode cX9_rules 177 = .ok (.iinc 2 1, 3) := by decide +kernel
theorem dX9_rules_180 : decode cX9_rules 180 = .ok (.goto (-56), 3) := by decide +kernel
theorem dX9_rules_183 : decode cX9_rules 183 = .ok (.iload_n 1, 1) := by decide +kernel
theorem dX9_rules_184 : decode cX9_rules 184 = .ok (.ireturn, 1) := by decide +kernel
theorem dX9_fault_0 : decode cX9_fault 0 = .ok (.aload_n 0, 1) := by decide +kernel
theorem dX9_fault_1 : decode cX9_fault 1 = .ok (.iconst 0, 1) := by decide +kernel
theorem dX9_fault_2 : decode cX9_fault 2 = .ok (.putfield 1, 3) := by decide +kernel
theorem dX9_fault_5 : decode cX9_fault 5 = .ok (.aload_n 0, 1) := by decide +kernel
theorem dX9_fault_6 : decode cX9_fault 6 = .ok (.getfield 260, 3) := by decide +kernel
theorem dX9_fault_9 : decode cX9_fault 9 = .ok (.ireturn, 1) := by decide +kernel
theorem dX9_rent_0 : decode cX9_rent 0 = .ok (.aload_n 0, 1) := by decide +kernel
theorem dX9_rent_1 : decode cX9_rent 1 = .ok (.iconst 0, 1) := by decide +kernel
theorem dX9_rent_2 : decode cX9_rent 2 = .ok (.putfield 1, 3) := by decide +kernel
theorem dX9_rent_5 : decode cX9_rent 5 = .ok (.iload_n 1, 1) := by decide +kernel
theorem dX9_rent_6 : decode cX9_rent 6 = .ok (.ldc 114, 2) := by decide +kernel
theorem dX9_rent_8 : decode cX9_rent 8 = .ok (.if_icmp .eq 18, 3) := by decide +kernel
theorem dX9_rent_11 : decode cX9_rent 11 = .ok (.iload_n 1, 1) := by decide +kernel
theorem dX9_rent_12 : decode cX9_rent 12 = .ok (.i2l, 1) := by decide +kernel
theorem dX9_rent_13 : decode cX9_rent 13 = .ok (.lconst 0, 1) := by decide +kernel
theorem dX9_rent_14 : decode cX9_rent 14 = .ok (.ldc2_w 267, 3) := by decide +kernel
theorem dX9_rent_17 : decode cX9_rent 17 = .ok (.invokestatic 104, 3) := by decide +kernel
theorem dX9_rent_20 : decode cX9_rent 20 = .ok (.ifCond .ne 6, 3) := by decide +kernel
theorem dX9_rent_23 : decode cX9_rent 23 = .ok (.ldc 112, 2) := by decide +kernel
theorem dX9_rent_25 : decode cX9_rent 25 = .ok (.ireturn, 1) := by decide +kernel
theorem dX9_rent_26 : decode cX9_rent 26 = .ok (.iload_n 1, 1) := by decide +kernel
theorem dX9_rent_27 : decode cX9_rent 27 = .ok (.ldc 114, 2) := by decide +kernel
theorem dX9_rent_29 : decode cX9_rent 29 = .ok (.if_icmp .ne 15, 3) := by decide +kernel
theorem dX9_rent_32 : decode cX9_rent 32 = .ok (.aload_n 0, 1) := by decide +kernel
theorem dX9_rent_33 : decode cX9_rent 33 = .ok (.getfield 144, 3) := by decide +kernel
theorem dX9_rent_36 : decode cX9_rent 36 = .ok (.aload_n 0, 1) := by decide +kernel
theorem dX9_rent_37 : decode cX9_rent 37 = .ok (.getfield 169, 3) := by decide +kernel
theorem dX9_rent_40 : decode cX9_rent 40 = .ok (.isub, 1) := by decide +kernel
theorem dX9_rent_41 : decode cX9_rent 41 = .ok (.goto 4, 3) := by decide +kernel
theorem dX9_rent_44 : decode cX9_rent 44 = .ok (.iload_n 1, 1) := by decide +kernel
theorem dX9_rent_45 : decode cX9_rent 45 = .ok (.istore_n 2, 1) := by decide +kernel
theorem dX9_rent_46 : decode cX9_rent 46 = .ok (.iconst 0, 1) := by decide +kernel
theorem dX9_rent_47 : decode cX9_rent 47 = .ok (.istore_n 3, 1) := by decide +kernel
theorem dX9_rent_48 : decode cX9_rent 48 = .ok (.iconst 0, 1) := by decide +kernel
theorem dX9_rent_49 : decode cX9_rent 49 = .ok (.istore 4, 2) := by decide +kernel
theorem dX9_rent_51 : decode cX9_rent 51 = .ok (.iconst 0, 1) := by decide +kernel
theorem dX9_rent_52 : decode cX9_rent 52 = .ok (.istore 5, 2) := by decide +kernel
theorem dX9_rent_54 : decode cX9_rent 54 = .ok (.iload 5, 2) := by decide +kernel
theorem dX9_rent_56 : decode cX9_rent 56 = .ok (.aload_n 0, 1) := by decide +kernel
theorem dX9_rent_57 : decode cX9_rent 57 = .ok (.getfield 264, 3) := by decide +kernel
theorem dX9_rent_60 : decode cX9_rent 60 = .ok (.if_icmp .ge 72, 3) := by decide +kernel
theorem dX9_rent_63 : decode cX9_rent 63 = .ok (.iload_n 2, 1) := by decide +kernel
theorem dX9_rent_64 : decode cX9_rent 64 = .ok (.aload_n 0, 1) := by decide +kernel
theorem dX9_rent_65 : decode cX9_rent 65 = .ok (.getfield 68, 3) := by decide +kernel
theorem dX9_rent_68 : decode cX9_rent 68 = .ok (.iload 5, 2) := by decide +kernel
theorem dX9_rent_70 : decode cX9_rent 70 = .ok (.iaload, 1) := by decide +kernel
theorem dX9_rent_71 : decode cX9_rent 71 = .ok (.if_icmp .ge 7, 3) := by decide +kernel
theorem dX9_rent_74 : decode cX9_rent 74 = .ok (.iload_n 2, 1) := by decide +kernel
theorem dX9_rent_75 : decode cX9_rent 75 = .ok (.goto 10, 3) := by decide +kernel
theorem dX9_rent_78 : decode cX9_rent 78 = .ok (.aload_n 0, 1) := by decide +kernel
theorem dX9_rent_79 : decode cX9_rent 79 = .ok (.getfield 68, 3) := by decide +kernel
theorem dX9_rent_82 : decode cX9_rent 82 = .ok (.iload 5, 2) := by decide +kernel
theorem dX9_rent_84 : decode cX9_rent 84 = .ok (.iaload, 1) := by decide +kernel
theorem dX9_rent_85 : decode cX9_rent 85 = .ok (.istore 6, 2) := by decide +kernel
theorem dX9_rent_87 : decode cX9_rent 87 = .ok (.iload_n 3, 1) := by decide +kernel
theorem dX9_rent_88 : decode cX9_rent 88 = .ok (.iload 6, 2) := by decide +kernel
theorem dX9_rent_90 : decode cX9_rent 90 = .ok (.iload 4, 2) := by decide +kernel
theorem dX9_rent_92 : decode cX9_rent 92 = .ok (.if_icmp .le 22, 3) := by decide +kernel
theorem dX9_rent_95 : decode cX9_rent 95 = .ok (.iload 6, 2) := by decide +kernel
theorem dX9_rent_97 : decode cX9_rent 97 = .ok (.iload 4, 2) := by decide +kernel
theorem dX9_rent_99 : decode cX9_rent 99 = .ok (.isub, 1) := by decide +kernel
theorem dX9_rent_100 : decode cX9_rent 100 = .ok (.aload_n 0, 1) := by decide +kernel
theorem dX9_rent_101 : decode cX9_rent 101 = .ok (.getfield 71, 3) := by decide +kernel
theorem dX9_rent_104 : decode cX9_rent 104 = .ok (.iload 5, 2) := by decide +kernel
theorem dX9_rent_106 : decode cX9_rent 106 = .ok (.iaload, 1) := by decide +kernel
theorem dX9_rent_107 : decode cX9_rent 107 = .ok (.imul, 1) := by decide +kernel
theorem dX9_rent_108 : decode cX9_rent 108 = .ok (.bipush 100, 2) := by decide +kernel
theorem dX9_rent_110 : decode cX9_rent 110 = .ok (.idiv, 1) := by decide +kernel
theorem dX9_rent_111 : decode cX9_rent 111 = .ok (.goto 4, 3) := by decide +kernel
theorem dX9_rent_114 : decode cX9_rent 114 = .ok (.iconst 0, 1) := by decide +kernel
theorem dX9_rent_115 : decode cX9_rent 115 = .ok (.iadd, 1) := by decide +kernel
theorem dX9_rent_116 : decode cX9_rent 116 = .ok (.istore_n 3, 1) := by decide +kernel
theorem dX9_rent_117 : decode cX9_rent 117 = .ok (.aload_n 0, 1) := by decide +kernel
theorem dX9_rent_118 : decode cX9_rent 118 = .ok (.getfield 68, 3) := by decide +kernel
theorem dX9_rent_121 : decode cX9_rent 121 = .ok (.iload 5, 2) := by decide +kernel
theorem dX9_rent_123 : decode cX9_rent 123 = .ok (.iaload, 1) := by decide +kernel
theorem dX9_rent_124 : decode cX9_rent 124 = .ok (.istore 4, 2) := by decide +kernel
theorem dX9_rent_126 : decode cX9_rent 126 = .ok (.iinc 5 1, 3) := by decide +kernel
theorem dX9_rent_129 : decode cX9_rent 129 = .ok (.goto (-75), 3) := by decide +kernel
theorem dX9_rent_132 : decode cX9_rent 132 = .ok (.iload_n 3, 1) := by decide +kernel
theorem dX9_rent_133 : decode cX9_rent 133 = .ok (.ireturn, 1) := by decide +kernel
theorem dX9_unpaid_0 : decode cX9_unpaid 0 = .ok (.aload_n 0, 1) := by decide +kernel
theorem dX9_unpaid_1 : decode cX9_unpaid 1 = .ok (.iconst 0, 1) := by decide +kernel
theorem dX9_unpaid_2 : decode cX9_unpaid 2 = .ok (.putfield 1, 3) := by decide +kernel
theorem dX9_unpaid_5 : decode cX9_unpaid 5 = .ok (.aload_n 0, 1) := by decide +kernel
theorem dX9_unpaid_6 : decode cX9_unpaid 6 = .ok (.iload_n 1, 1) := by decide +kernel
theorem dX9_unpaid_7 : decode cX9_unpaid 7 = .ok (.invokevirtual 115, 3) := by decide +kernel
theorem dX9_unpaid_10 : decode cX9_unpaid 10 = .ok (.ifCond .eq 27, 3) := by decide +kernel
theorem dX9_unpaid_13 : decode cX9_unpaid 13 = .ok (.iload_n 2, 1) := by decide +kernel
theorem dX9_unpaid_14 : decode cX9_unpaid 14 = .ok (.i2l, 1) := by decide +kernel
theorem dX9_unpaid_15 : decode cX9_unpaid 15 = .ok (.lconst 0, 1) := by decide +kernel
theorem dX9_unpaid_16 : decode cX9_unpaid 16 = .ok (.ldc2_w 108, 3) := by decide +kernel
theorem dX9_unpaid_19 : decode cX9_unpaid 19 = .ok (.invokestatic 104, 3) := by decide +kernel
theorem dX9_unpaid_22 : decode cX9_unpaid 22 = .ok (.ifCond .eq 15, 3) := by decide +kernel
theorem dX9_unpaid_25 : decode cX9_unpaid 25 = .ok (.iload_n 3, 1) := by decide +kernel
theorem dX9_unpaid_26 : decode cX9_unpaid 26 = .ok (.i2l, 1) := by decide +kernel
theorem dX9_unpaid_27 : decode cX9_unpaid 27 = .ok (.lconst 0, 1) := by decide +kernel
theorem dX9_unpaid_28 : decode cX9_unpaid 28 = .ok (.ldc2_w 108, 3) := by decide +kernel
theorem dX9_unpaid_31 : decode cX9_unpaid 31 = .ok (.invokestatic 104, 3) := by decide +kernel
theorem dX9_unpaid_34 : decode cX9_unpaid 34 = .ok (.ifCond .ne 6, 3) := by decide +kernel
theorem dX9_unpaid_37 : decode cX9_unpaid 37 = .ok (.ldc 112, 2) := by decide +kernel
theorem dX9_unpaid_39 : decode cX9_unpaid 39 = .ok (.ireturn, 1) := by decide +kernel
theorem dX9_unpaid_40 : decode cX9_unpaid 40 = .ok (.aload_n 0, 1) := by decide +kernel
theorem dX9_unpaid_41 : decode cX9_unpaid 41 = .ok (.getfield 35, 3) := by decide +kernel
theorem dX9_unpaid_44 : decode cX9_unpaid 44 = .ok (.iload_n 1, 1) := by decide +kernel
theorem dX9_unpaid_45 : decode cX9_unpaid 45 = .ok (.iload_n 2, 1) := by decide +kernel
theorem dX9_unpaid_46 : decode cX9_unpaid 46 = .ok (.iastore, 1) := by decide +kernel
theorem dX9_unpaid_47 : decode cX9_unpaid 47 = .ok (.aload_n 0, 1) := by decide +kernel
theorem dX9_unpaid_48 : decode cX9_unpaid 48 = .ok (.getfield 38, 3) := by decide +kernel
theorem dX9_unpaid_51 : decode cX9_unpaid 51 = .ok (.iload_n 1, 1) := by decide +kernel
theorem dX9_unpaid_52 : decode cX9_unpaid 52 = .ok (.iload_n 3, 1) := by decide +kernel
theorem dX9_unpaid_53 : decode cX9_unpaid 53 = .ok (.iastore, 1) := by decide +kernel
theorem dX9_unpaid_54 : decode cX9_unpaid 54 = .ok (.iconst 1, 1) := by decide +kernel
theorem dX9_unpaid_55 : decode cX9_unpaid 55 = .ok (.ireturn, 1) := by decide +kernel
theorem dX9_next_0 : decode cX9_next 0 = .ok (.iload_n 1, 1) := by decide +kernel
theorem dX9_next_1 : decode cX9_next 1 = .ok (.iconst 2, 1) := by decide +kernel
theorem dX9_next_2 : decode cX9_next 2 = .ok (.isub, 1) := by decide +kernel
theorem dX9_next_3 : decode cX9_next 3 = .ok (.istore_n 2, 1) := by decide +kernel
theorem dX9_next_4 : decode cX9_next 4 = .ok (.iload_n 2, 1) := by decide +kernel
theorem dX9_next_5 : decode cX9_next 5 = .ok (.ifCond .lt 26, 3) := by decide +kernel
theorem dX9_next_8 : decode cX9_next 8 = .ok (.aload_n 0, 1) := by decide +kernel
theorem dX9_next_9 : decode cX9_next 9 = .ok (.getfield 89, 3) := by decide +kernel
theorem dX9_next_12 : decode cX9_next 12 = .ok (.iload_n 2, 1) := by decide +kernel
theorem dX9_next_13 : decode cX9_next 13 = .ok (.iaload, 1) := by decide +kernel
theorem dX9_next_14 : decode cX9_next 14 = .ok (.aload_n 0, 1) := by decide +kernel
theorem dX9_next_15 : decode cX9_next 15 = .ok (.getfield 89, 3) := by decide +kernel
theorem dX9_next_18 : decode cX9_next 18 = .ok (.iload_n 2, 1) := by decide +kernel
theorem dX9_next_19 : decode cX9_next 19 = .ok (.iconst 1, 1) := by decide +kernel
theorem dX9_next_20 : decode cX9_next 20 = .ok (.iadd, 1) := by decide +kernel
theorem dX9_next_21 : decode cX9_next 21 = .ok (.iaload, 1) := by decide +kernel
theorem dX9_next_22 : decode cX9_next 22 = .ok (.if_icmp .le 9, 3) := by decide +kernel
theorem dX9_next_25 : decode cX9_next 25 = .ok (.iinc 2 (-1), 3) := by decide +kernel
theorem dX9_next_28 : decode cX9_next 28 = .ok (.goto (-24), 3) := by decide +kernel
theorem dX9_next_31 : decode cX9_next 31 = .ok (.iload_n 2, 1) := by decide +kernel
theorem dX9_next_32 : decode cX9_next 32 = .ok (.ifCond .ge 5, 3) := by decide +kernel
theorem dX9_next_35 : decode cX9_next 35 = .ok (.iconst 0, 1) := by decide +kernel
theorem dX9_next_36 : decode cX9_next 36 = .ok (.ireturn, 1) := by decide +kernel
theorem dX9_next_37 : decode cX9_next 37 = .ok (.iload_n 1, 1) := by decide +kernel
theorem dX9_next_38 : decode cX9_next 38 = .ok (.iconst 1, 1) := by decide +kernel
theorem dX9_next_39 : decode cX9_next 39 = .ok (.isub, 1) := by decide +kernel
theorem dX9_next_40 : decode cX9_next 40 = .ok (.istore_n 3, 1) := by decide +kernel
theorem dX9_next_41 : decode cX9_next 41 = .ok (.aload_n 0, 1) := by decide +kernel
theorem dX9_next_42 : decode cX9_next 42 = .ok (.getfield 89, 3) := by decide +kernel
theorem dX9_next_45 : decode cX9_next 45 = .ok (.iload_n 3, 1) := by decide +kernel
theorem dX9_next_46 : decode cX9_next 46 = .ok (.iaload, 1) := by decide +kernel
theorem dX9_next_47 : decode cX9_next 47 = .ok (.aload_n 0, 1) := by decide +kernel
theorem dX9_next_48 : decode cX9_next 48 = .ok (.getfield 89, 3) := by decide +kernel
theorem dX9_next_51 : decode cX9_next 51 = .ok (.iload_n 2, 1) := by decide +kernel
theorem dX9_next_52 : decode cX9_next 52 = .ok (.iaload, 1) := by decide +kernel
theorem dX9_next_53 : decode cX9_next 53 = .ok (.if_icmp .ge 9, 3) := by decide +kernel
theorem dX9_next_56 : decode cX9_next 56 = .ok (.iinc 3 (-1), 3) := by decide +kernel
theorem dX9_next_59 : decode cX9_next 59 = .ok (.goto (-18), 3) := by decide +kernel
theorem dX9_next_62 : decode cX9_next 62 = .ok (.aload_n 0, 1) := by decide +kernel
theorem dX9_next_63 : decode cX9_next 63 = .ok (.getfield 89, 3) := by decide +kernel
theorem dX9_next_66 : decode cX9_next 66 = .ok (.iload_n 2, 1) := by decide +kernel
theorem dX9_next_67 : decode cX9_next 67 = .ok (.iaload, 1) := by decide +kernel
theorem dX9_next_68 : decode cX9_next 68 = .ok (.istore 4, 2) := by decide +kernel
theorem dX9_next_70 : decode cX9_next 70 = .ok (.aload_n 0, 1) := by decide +kernel
theorem dX9_next_71 : decode cX9_next 71 = .ok (.getfield 89, 3) := by decide +kernel
theorem dX9_next_74 : decode cX9_next 74 = .ok (.iload_n 2, 1) := by decide +kernel
theorem dX9_next_75 : decode cX9_next 75 = .ok (.aload_n 0, 1) := by decide +kernel
theorem dX9_next_76 : decode cX9_next 76 = .ok (.getfield 89, 3) := by decide +kernel
theorem dX9_next_79 : decode cX9_next 79 = .ok (.iload_n 3, 1) := by decide +kernel
theorem dX9_next_80 : decode cX9_next 80 = .ok (.iaload, 1) := by decide +kernel
theorem dX9_next_81 : decode cX9_next 81 = .ok (.iastore, 1) := by decide +kernel
theorem dX9_next_82 : decode cX9_next 82 = .ok (.aload_n 0, 1) := by decide +kernel
theorem dX9_next_83 : decode cX9_next 83 = .ok (.getfield 89, 3) := by decide +kernel
theorem dX9_next_86 : decode cX9_next 86 = .ok (.iload_n 3, 1) := by decide +kernel
theorem dX9_next_87 : decode cX9_next 87 = .ok (.iload 4, 2) := by decide +kernel
theorem dX9_next_89 : decode cX9_next 89 = .ok (.iastore, 1) := by decide +kernel
theorem dX9_next_90 : decode cX9_next 90 = .ok (.iload_n 2, 1) := by decide +kernel
theorem dX9_next_91 : decode cX9_next 91 = .ok (.iconst 1, 1) := by decide +kernel
theorem dX9_next_92 : decode cX9_next 92 = .ok (.iadd, 1) := by decide +kernel
theorem dX9_next_93 : decode cX9_next 93 = .ok (.istore 5, 2) := by decide +kernel
theorem dX9_next_95 : decode cX9_next 95 = .ok (.iload_n 1, 1) := by decide +kernel
theorem dX9_next_96 : decode cX9_next 96 = .ok (.iconst 1, 1) := by decide +kernel
theorem dX9_next_97 : decode cX9_next 97 = .ok (.isub, 1) := by decide +kernel
theorem dX9_next_98 : decode cX9_next 98 = .ok (.istore 6, 2) := by decide +kernel
theorem dX9_next_100 : decode cX9_next 100 = .ok (.iload 5, 2) := by decide +kernel
theorem dX9_next_102 : decode cX9_next 102 = .ok (.iload 6, 2) := by decide +kernel
theorem dX9_next_104 : decode cX9_next 104 = .ok (.if_icmp .ge 44, 3) := by decide +kernel
theorem dX9_next_107 : decode cX9_next 107 = .ok (.aload_n 0, 1) := by decide +kernel
theorem dX9_next_108 : decode cX9_next 108 = .ok (.getfield 89, 3) := by decide +kernel
theorem dX9_next_111 : decode cX9_next 111 = .ok (.iload 5, 2) := by decide +kernel
theorem dX9_next_113 : decode cX9_next 113 = .ok (.iaload, 1) := by decide +kernel
theorem dX9_next_114 : decode cX9_next 114 = .ok (.istore 4, 2) := by decide +kernel
theorem dX9_next_116 : decode cX9_next 116 = .ok (.aload_n 0, 1) := by decide +kernel
theorem dX9_next_117 : decode cX9_next 117 = .ok (.getfield 89, 3) := by decide +kernel
theorem dX9_next_120 : decode cX9_next 120 = .ok (.iload 5, 2) := by decide +kernel
theorem dX9_next_122 : decode cX9_next 122 = .ok (.aload_n 0, 1) := by decide +kernel
theorem dX9_next_123 : decode cX9_next 123 = .ok (.getfield 89, 3) := by decide +kernel
theorem dX9_next_126 : decode cX9_next 126 = .ok (.iload 6, 2) := by decide +kernel
theorem dX9_next_128 : decode cX9_next 128 = .ok (.iaload, 1) := by decide +kernel
theorem dX9_next_129 : decode cX9_next 129 = .ok (.iastore, 1) := by decide +kernel
theorem dX9_next_130 : decode cX9_next 130 = .ok (.aload_n 0, 1) := by decide +kernel
theorem dX9_next_131 : decode cX9_next 131 = .ok (.getfield 89, 3) := by decide +kernel
theorem dX9_next_134 : decode cX9_next 134 = .ok (.iload 6, 2) := by decide +kernel
theorem dX9_next_136 : decode cX9_next 136 = .ok (.iload 4, 2) := by decide +kernel
theorem dX9_next_138 : decode cX9_next 138 = .ok (.iastore, 1) := by decide +kernel
theorem dX9_next_139 : decode cX9_next 139 = .ok (.iinc 5 1, 3) := by decide +kernel
theorem dX9_next_142 : decode cX9_next 142 = .ok (.iinc 6 (-1), 3) := by decide +kernel
theorem dX9_next_145 : decode cX9_next 145 = .ok (.goto (-45), 3) := by decide +kernel
theorem dX9_next_148 : decode cX9_next 148 = .ok (.iconst 1, 1) := by decide +kernel
theorem dX9_next_149 : decode cX9_next 149 = .ok (.ireturn, 1) := by decide +kernel
theorem dX9_walk_0 : decode cX9_walk 0 = .ok (.aload_n 0, 1) := by decide +kernel
theorem dX9_walk_1 : decode cX9_walk 1 = .ok (.iconst 0, 1) := by decide +kernel
theorem dX9_walk_2 : decode cX9_walk 2 = .ok (.putfield 1, 3) := by decide +kernel
theorem dX9_walk_5 : decode cX9_walk 5 = .ok (.iconst 0, 1) := by decide +kernel
theorem dX9_walk_6 : decode cX9_walk 6 = .ok (.istore_n 3, 1) := by decide +kernel
theorem dX9_walk_7 : decode cX9_walk 7 = .ok (.iconst 0, 1) := by decide +kernel
theorem dX9_walk_8 : decode cX9_walk 8 = .ok (.istore 4, 2) := by decide +kernel
theorem dX9_walk_10 : decode cX9_walk 10 = .ok (.iload 4, 2) := by decide +kernel
theorem dX9_walk_12 : decode cX9_walk 12 = .ok (.bipush 10, 2) := by decide +kernel
theorem dX9_walk_14 : decode cX9_walk 14 = .ok (.if_icmp .ge 36, 3) := by decide +kernel
theorem dX9_walk_17 : decode cX9_walk 17 = .ok (.iload_n 1, 1) := by decide +kernel
theorem dX9_walk_18 : decode cX9_walk 18 = .ok (.iload 4, 2) := by decide +kernel
theorem dX9_walk_20 : decode cX9_walk 20 = .ok (.ishr, 1) := by decide +kernel
theorem dX9_walk_21 : decode cX9_walk 21 = .ok (.iconst 1, 1) := by decide +kernel
theorem dX9_walk_22 : decode cX9_walk 22 = .ok (.iand, 1) := by decide +kernel
theorem dX9_walk_23 : decode cX9_walk 23 = .ok (.iconst 1, 1) := by decide +kernel
theorem dX9_walk_24 : decode cX9_walk 24 = .ok (.if_icmp .ne 20, 3) := by decide +kernel
theorem dX9_walk_27 : decode cX9_walk 27 = .ok (.iload_n 3, 1) := by decide +kernel
theorem dX9_walk_28 : decode cX9_walk 28 = .ok (.bipush 7, 2) := by decide +kernel
theorem dX9_walk_30 : decode cX9_walk 30 = .ok (.if_icmp .ge 11, 3) := by decide +kernel
theorem dX9_walk_33 : decode cX9_walk 33 = .ok (.aload_n 0, 1) := by decide +kernel
theorem dX9_walk_34 : decode cX9_walk 34 = .ok (.getfield 89, 3) := by decide +kernel
theorem dX9_walk_37 : decode cX9_walk 37 = .ok (.iload_n 3, 1) := by decide +kernel
theorem dX9_walk_38 : decode cX9_walk 38 = .ok (.iload 4, 2) := by decide +kernel
theorem dX9_walk_40 : decode cX9_walk 40 = .ok (.iastore, 1) := by decide +kernel
theorem dX9_walk_41 : decode cX9_walk 41 = .ok (.iinc 3 1, 3) := by decide +kernel
theorem dX9_walk_44 : decode cX9_walk 44 = .ok (.iinc 4 1, 3) := by decide +kernel
theorem dX9_walk_47 : decode cX9_walk 47 = .ok (.goto (-37), 3) := by decide +kernel
theorem dX9_walk_50 : decode cX9_walk 50 = .ok (.iload_n 1, 1) := by decide +kernel
theorem dX9_walk_51 : decode cX9_walk 51 = .ok (.iconst 1, 1) := by decide +kernel
theorem dX9_walk_52 : decode cX9_walk 52 = .ok (.if_icmp .lt 18, 3) := by decide +kernel
theorem dX9_walk_55 : decode cX9_walk 55 = .ok (.iload_n 1, 1) := by decide +kernel
theorem dX9_walk_56 : decode cX9_walk 56 = .ok (.aload_n 0, 1) := by decide +kernel
theorem dX9_walk_57 : decode cX9_walk 57 = .ok (.getfield 101, 3) := by decide +kernel
theorem dX9_walk_60 : decode cX9_walk 60 = .ok (.ishr, 1) := by decide +kernel
theorem dX9_walk_61 : decode cX9_walk 61 = .ok (.ifCond .gt 9, 3) := by decide +kernel
theorem dX9_walk_64 : decode cX9_walk 64 = .ok (.iload_n 3, 1) := by decide +kernel
theorem dX9_walk_65 : decode cX9_walk 65 = .ok (.bipush 7, 2) := by decide +kernel
theorem dX9_walk_67 : decode cX9_walk 67 = .ok (.if_icmp .le 6, 3) := by decide +kernel
theorem dX9_walk_70 : decode cX9_walk 70 = .ok (.ldc 112, 2) := by decide +kernel
theorem dX9_walk_72 : decode cX9_walk 72 = .ok (.ireturn, 1) := by decide +kernel
theorem dX9_walk_73 : decode cX9_walk 73 = .ok (.iconst (-1), 1) := by decide +kernel
theorem dX9_walk_74 : decode cX9_walk 74 = .ok (.istore 4, 2) := by decide +kernel
theorem dX9_walk_76 : decode cX9_walk 76 = .ok (.iconst 1, 1) := by decide +kernel
theorem dX9_walk_77 : decode cX9_walk 77 = .ok (.istore 5, 2) := by decide +kernel
theorem dX9_walk_79 : decode cX9_walk 79 = .ok (.iload 5, 2) := by decide +kernel
theorem dX9_walk_81 : decode cX9_walk 81 = .ok (.ifCond .eq 117, 3) := by decide +kernel
theorem dX9_walk_84 : decode cX9_walk 84 = .ok (.iconst 0, 1) := by decide +kernel
theorem dX9_walk_85 : decode cX9_walk 85 = .ok (.istore 6, 2) := by decide +kernel
theorem dX9_walk_87 : decode cX9_walk 87 = .ok (.iconst 0, 1) := by decide +kernel
theorem dX9_walk_88 : decode cX9_walk 88 = .ok (.istore 7, 2) := by decide +kernel
theorem dX9_walk_90 : decode cX9_walk 90 = .ok (.iload 7, 2) := by decide +kernel
theorem dX9_walk_92 : decode cX9_walk 92 = .ok (.iload_n 3, 1) := by decide +kernel
theorem dX9_walk_93 : decode cX9_walk 93 = .ok (.if_icmp .ge 55, 3) := by decide +kernel
theorem dX9_walk_96 : decode cX9_walk 96 = .ok (.aload_n 0, 1) := by decide +kernel
theorem dX9_walk_97 : decode cX9_walk 97 = .ok (.getfield 35, 3) := by decide +kernel
theorem dX9_walk_100 : decode cX9_walk 100 = .ok (.aload_n 0, 1) := by decide +kernel
theorem dX9_walk_101 : decode cX9_walk 101 = .ok (.getfield 89, 3) := by decide +kernel
theorem dX9_walk_104 : decode cX9_walk 104 = .ok (.iload 7, 2) := by decide +kernel
theorem dX9_walk_106 : decode cX9_walk 106 = .ok (.iaload, 1) := by decide +kernel
theorem dX9_walk_107 : decode cX9_walk 107 = .ok (.iaload, 1) := by decide +kernel
theorem dX9_walk_108 : decode cX9_walk 108 = .ok (.iload 7, 2) := by decide +kernel
theorem dX9_walk_110 : decode cX9_walk 110 = .ok (.aload_n 0, 1) := by decide +kernel
theorem dX9_walk_111 : decode cX9_walk 111 = .ok (.getfield 38, 3) := by decide +kernel
theorem dX9_walk_114 : decode cX9_walk 114 = .ok (.aload_n 0, 1) := by decide +kernel
theorem dX9_walk_115 : decode cX9_walk 115 = .ok (.getfield 89, 3) := by decide +kernel
theorem dX9_walk_118 : decode cX9_walk 118 = .ok (.iload 7, 2) := by decide +kernel
theorem dX9_walk_120 : decode cX9_walk 120 = .ok (.iaload, 1) := by decide +kernel
theorem dX9_walk_121 : decode cX9_walk 121 = .ok (.iaload, 1) := by decide +kernel
theorem dX9_walk_122 : decode cX9_walk 122 = .ok (.imul, 1) := by decide +kernel
theorem dX9_walk_123 : decode cX9_walk 123 = .ok (.isub, 1) := by decide +kernel
theorem dX9_walk_124 : decode cX9_walk 124 = .ok (.istore 8, 2) := by decide +kernel
theorem dX9_walk_126 : decode cX9_walk 126 = .ok (.iload 6, 2) := by decide +kernel
theorem dX9_walk_128 : decode cX9_walk 128 = .ok (.iload 8, 2) := by decide +kernel
theorem dX9_walk_130 : decode cX9_walk 130 = .ok (.ifCond .le 8, 3) := by decide +kernel
theorem dX9_walk_133 : decode cX9_walk 133 = .ok (.iload 8, 2) := by decide +kernel
theorem dX9_walk_135 : decode cX9_walk 135 = .ok (.goto 4, 3) := by decide +kernel
theorem dX9_walk_138 : decode cX9_walk 138 = .ok (.iconst 0, 1) := by decide +kernel
theorem dX9_walk_139 : decode cX9_walk 139 = .ok (.iadd, 1) := by decide +kernel
theorem dX9_walk_140 : decode cX9_walk 140 = .ok (.istore 6, 2) := by decide +kernel
theorem dX9_walk_142 : decode cX9_walk 142 = .ok (.iinc 7 1, 3) := by decide +kernel
theorem dX9_walk_145 : decode cX9_walk 145 = .ok (.goto (-55), 3) := by decide +kernel
theorem dX9_walk_148 : decode cX9_walk 148 = .ok (.iload 6, 2) := by decide +kernel
theorem dX9_walk_150 : decode cX9_walk 150 = .ok (.iload 4, 2) := by decide +kernel
theorem dX9_walk_152 : decode cX9_walk 152 = .ok (.if_icmp .le 36, 3) := by decide +kernel
theorem dX9_walk_155 : decode cX9_walk 155 = .ok (.iload 6, 2) := by decide +kernel
theorem dX9_walk_157 : decode cX9_walk 157 = .ok (.istore 4, 2) := by decide +kernel
theorem dX9_walk_159 : decode cX9_walk 159 = .ok (.iconst 0, 1) := by decide +kernel
theorem dX9_walk_160 : decode cX9_walk 160 = .ok (.istore 7, 2) := by decide +kernel
theorem dX9_walk_162 : decode cX9_walk 162 = .ok (.iload 7, 2) := by decide +kernel
theorem dX9_walk_164 : decode cX9_walk 164 = .ok (.iload_n 3, 1) := by decide +kernel
theorem dX9_walk_165 : decode cX9_walk 165 = .ok (.if_icmp .ge 23, 3) := by decide +kernel
theorem dX9_walk_168 : decode cX9_walk 168 = .ok (.aload_n 0, 1) := by decide +kernel
theorem dX9_walk_169 : decode cX9_walk 169 = .ok (.getfield 92, 3) := by decide +kernel
theorem dX9_walk_172 : decode cX9_walk 172 = .ok (.iload 7, 2) := by decide +kernel
theorem dX9_walk_174 : decode cX9_walk 174 = .ok (.aload_n 0, 1) := by decide +kernel
theorem dX9_walk_175 : decode cX9_walk 175 = .ok (.getfield 89, 3) := by decide +kernel
theorem dX9_walk_178 : decode cX9_walk 178 = .ok (.iload 7, 2) := by decide +kernel
theorem dX9_walk_180 : decode cX9_walk 180 = .ok (.iaload, 1) := by decide +kernel
theorem dX9_walk_181 : decode cX9_walk 181 = .ok (.iastore, 1) := by decide +kernel
theorem dX9_walk_182 : decode cX9_walk 182 = .ok (.iinc 7 1, 3) := by decide +kernel
theorem dX9_walk_185 : decode cX9_walk 185 = .ok (.goto (-23), 3) := by decide +kernel
theorem dX9_walk_188 : decode cX9_walk 188 = .ok (.aload_n 0, 1) := by decide +kernel
theorem dX9_walk_189 : decode cX9_walk 189 = .ok (.iload_n 3, 1) := by decide +kernel
theorem dX9_walk_190 : decode cX9_walk 190 = .ok (.invokevirtual 269, 3) := by decide +kernel
theorem dX9_walk_193 : decode cX9_walk 193 = .ok (.istore 5, 2) := by decide +kernel
theorem dX9_walk_195 : decode cX9_walk 195 = .ok (.goto (-116), 3) := by decide +kernel
theorem dX9_walk_198 : decode cX9_walk 198 = .ok (.iload_n 2, 1) := by decide +kernel
theorem dX9_walk_199 : decode cX9_walk 199 = .ok (.ldc 114, 2) := by decide +kernel
theorem dX9_walk_201 : decode cX9_walk 201 = .ok (.if_icmp .ne 8, 3) := by decide +kernel
theorem dX9_walk_204 : decode cX9_walk 204 = .ok (.iload 4, 2) := by decide +kernel
theorem dX9_walk_206 : decode cX9_walk 206 = .ok (.goto 27, 3) := by decide +kernel
theorem dX9_walk_209 : decode cX9_walk 209 = .ok (.iload_n 2, 1) := by decide +kernel
theorem dX9_walk_210 : decode cX9_walk 210 = .ok (.i2l, 1) := by decide +kernel
theorem dX9_walk_211 : decode cX9_walk 211 = .ok (.lconst 0, 1) := by decide +kernel
theorem dX9_walk_212 : decode cX9_walk 212 = .ok (.iload_n 3, 1) := by decide +kernel
theorem dX9_walk_213 : decode cX9_walk 213 = .ok (.iconst 1, 1) := by decide +kernel
theorem dX9_walk_214 : decode cX9_walk 214 = .ok (.isub, 1) := by decide +kernel
theorem dX9_walk_215 : decode cX9_walk 215 = .ok (.i2l, 1) := by decide +kernel
theorem dX9_walk_216 : decode cX9_walk 216 = .ok (.invokestatic 104, 3) := by decide +kernel
theorem dX9_walk_219 : decode cX9_walk 219 = .ok (.ifCond .eq 12, 3) := by decide +kernel
theorem dX9_walk_222 : decode cX9_walk 222 = .ok (.aload_n 0, 1) := by decide +kernel
theorem dX9_walk_223 : decode cX9_walk 223 = .ok (.getfield 92, 3) := by decide +kernel
theorem dX9_walk_226 : decode cX9_walk 226 = .ok (.iload_n 2, 1) := by decide +kernel
theorem dX9_walk_227 : decode cX9_walk 227 = .ok (.iaload, 1) := by decide +kernel
theorem dX9_walk_228 : decode cX9_walk 228 = .ok (.goto 5, 3) := by decide +kernel
theorem dX9_walk_231 : decode cX9_walk 231 = .ok (.ldc 114, 2) := by decide +kernel
theorem dX9_walk_233 : decode cX9_walk 233 = .ok (.ireturn, 1) := by decide +kernel
theorem dX9_kindOf_0 : decode cX9_kindOf 0 = .ok (.aload_n 0, 1) := by decide +kernel
theorem dX9_kindOf_1 : decode cX9_kindOf 1 = .ok (.iload_n 1, 1) := by decide +kernel
theorem dX9_kindOf_2 : decode cX9_kindOf 2 = .ok (.invokevirtual 122, 3) := by decide +kernel
theorem dX9_kindOf_5 : decode cX9_kindOf 5 = .ok (.ifCond .ne 7, 3) := by decide +kernel
theorem dX9_kindOf_8 : decode cX9_kindOf 8 = .ok (.iconst 3, 1) := by decide +kernel
theorem dX9_kindOf_9 : decode cX9_kindOf 9 = .ok (.goto 30, 3) := by decide +kernel
theorem dX9_kindOf_12 : decode cX9_kindOf 12 = .ok (.aload_n 0, 1) := by decide +kernel
theorem dX9_kindOf_13 : decode cX9_kindOf 13 = .ok (.getfield 26, 3) := by decide +kernel
theorem dX9_kindOf_16 : decode cX9_kindOf 16 = .ok (.iload_n 1, 1) := by decide +kernel
theorem dX9_kindOf_17 : decode cX9_kindOf 17 = .ok (.iaload, 1) := by decide +kernel
theorem dX9_kindOf_18 : decode cX9_kindOf 18 = .ok (.ifCond .le 7, 3) := by decide +kernel
theorem dX9_kindOf_21 : decode cX9_kindOf 21 = .ok (.iconst 0, 1) := by decide +kernel
theorem dX9_kindOf_22 : decode cX9_kindOf 22 = .ok (.goto 17, 3) := by decide +kernel
theorem dX9_kindOf_25 : decode cX9_kindOf 25 = .ok (.aload_n 0, 1) := by decide +kernel
theorem dX9_kindOf_26 : decode cX9_kindOf 26 = .ok (.getfield 35, 3) := by decide +kernel
theorem dX9_kindOf_29 : decode cX9_kindOf 29 = .ok (.iload_n 1, 1) := by decide +kernel
theorem dX9_kindOf_30 : decode cX9_kindOf 30 = .ok (.iaload, 1) := by decide +kernel
theorem dX9_kindOf_31 : decode cX9_kindOf 31 = .ok (.ifCond .le 7, 3) := by decide +kernel
theorem dX9_kindOf_34 : decode cX9_kindOf 34 = .ok (.iconst 2, 1) := by decide +kernel
theorem dX9_kindOf_35 : decode cX9_kindOf 35 = .ok (.goto 4, 3) := by decide +kernel
theorem dX9_kindOf_38 : decode cX9_kindOf 38 = .ok (.iconst 1, 1) := by decide +kernel
theorem dX9_kindOf_39 : decode cX9_kindOf 39 = .ok (.ireturn, 1) := by decide +kernel
theorem dX9_kind_0 : decode cX9_kind 0 = .ok (.aload_n 0, 1) := by decide +kernel
theorem dX9_kind_1 : decode cX9_kind 1 = .ok (.iconst 0, 1) := by decide +kernel
theorem dX9_kind_2 : decode cX9_kind 2 = .ok (.putfield 1, 3) := by decide +kernel
theorem dX9_kind_5 : decode cX9_kind 5 = .ok (.aload_n 0, 1) := by decide +kernel
theorem dX9_kind_6 : decode cX9_kind 6 = .ok (.iload_n 1, 1) := by decide +kernel
theorem dX9_kind_7 : decode cX9_kind 7 = .ok (.invokevirtual 115, 3) := by decide +kernel
theorem dX9_kind_10 : decode cX9_kind 10 = .ok (.ifCond .eq 11, 3) := by decide +kernel
theorem dX9_kind_13 : decode cX9_kind 13 = .ok (.aload_n 0, 1) := by decide +kernel
theorem dX9_kind_14 : decode cX9_kind 14 = .ok (.iload_n 1, 1) := by decide +kernel
theorem dX9_kind_15 : decode cX9_kind 15 = .ok (.invokevirtual 272, 3) := by decide +kernel
theorem dX9_kind_18 : decode cX9_kind 18 = .ok (.goto 5, 3) := by decide +kernel
theorem dX9_kind_21 : decode cX9_kind 21 = .ok (.ldc 112, 2) := by decide +kernel
theorem dX9_kind_23 : decode cX9_kind 23 = .ok (.ireturn, 1) := by decide +kernel
theorem dX9_as_0 : decode cX9_as 0 = .ok (.aload_n 0, 1) := by decide +kernel
theorem dX9_as_1 : decode cX9_as 1 = .ok (.iconst 0, 1) := by decide +kernel
theorem dX9_as_2 : decode cX9_as 2 = .ok (.putfield 1, 3) := by decide +kernel
theorem dX9_as_5 : decode cX9_as 5 = .ok (.aload_n 0, 1) := by decide +kernel
theorem dX9_as_6 : decode cX9_as 6 = .ok (.iload_n 1, 1) := by decide +kernel
theorem dX9_as_7 : decode cX9_as 7 = .ok (.invokevirtual 115, 3) := by decide +kernel
theorem dX9_as_10 : decode cX9_as 10 = .ok (.ifCond .eq 15, 3) := by decide +kernel
theorem dX9_as_13 : decode cX9_as 13 = .ok (.iload_n 2, 1) := by decide +kernel
theorem dX9_as_14 : decode cX9_as 14 = .ok (.i2l, 1) := by decide +kernel
theorem dX9_as_15 : decode cX9_as 15 = .ok (.lconst 0, 1) := by decide +kernel
theorem dX9_as_16 : decode cX9_as 16 = .ok (.ldc2_w 110, 3) := by decide +kernel
theorem dX9_as_19 : decode cX9_as 19 = .ok (.invokestatic 104, 3) := by decide +kernel
theorem dX9_as_22 : decode cX9_as 22 = .ok (.ifCond .ne 6, 3) := by decide +kernel
theorem dX9_as_25 : decode cX9_as 25 = .ok (.ldc 112, 2) := by decide +kernel
theorem dX9_as_27 : decode cX9_as 27 = .ok (.ireturn, 1) := by decide +kernel
theorem dX9_as_28 : decode cX9_as 28 = .ok (.aload_n 0, 1) := by decide +kernel
theorem dX9_as_29 : decode cX9_as 29 = .ok (.iload_n 1, 1) := by decide +kernel
theorem dX9_as_30 : decode cX9_as 30 = .ok (.invokevirtual 272, 3) := by decide +kernel
theorem dX9_as_33 : decode cX9_as 33 = .ok (.istore_n 3, 1) := by decide +kernel
theorem dX9_as_34 : decode cX9_as 34 = .ok (.iload_n 2, 1) := by decide +kernel
theorem dX9_as_35 : decode cX9_as 35 = .ok (.ifCond .eq 18, 3) := by decide +kernel
theorem dX9_as_38 : decode cX9_as 38 = .ok (.iload_n 3, 1) := by decide +kernel
theorem dX9_as_39 : decode cX9_as 39 = .ok (.iload_n 2, 1) := by decide +kernel
theorem dX9_as_40 : decode cX9_as 40 = .ok (.if_icmp .eq 13, 3) := by decide +kernel
theorem dX9_as_43 : decode cX9_as 43 = .ok (.iload_n 2, 1) := by decide +kernel
theorem dX9_as_44 : decode cX9_as 44 = .ok (.iconst 1, 1) := by decide +kernel
theorem dX9_as_45 : decode cX9_as 45 = .ok (.if_icmp .ne 17, 3) := by decide +kernel
theorem dX9_as_48 : decode cX9_as 48 = .ok (.iload_n 3, 1) := by decide +kernel
theorem dX9_as_49 : decode cX9_as 49 = .ok (.iconst 2, 1) := by decide +kernel
theorem dX9_as_50 : decode cX9_as 50 = .ok (.if_icmp .ne 12, 3) := by decide +kernel
theorem dX9_as_53 : decode cX9_as 53 = .ok (.aload_n 0, 1) := by decide +kernel
theorem dX9_as_54 : decode cX9_as 54 = .ok (.getfield 19, 3) := by decide +kernel
theorem dX9_as_57 : decode cX9_as 57 = .ok (.iload_n 1, 1) := by decide +kernel
theorem dX9_as_58 : decode cX9_as 58 = .ok (.iaload, 1) := by decide +kernel
theorem dX9_as_59 : decode cX9_as 59 = .ok (.goto 6, 3) := by decide +kernel
theorem dX9_as_62 : decode cX9_as 62 = .ok (.ldc_w 275, 3) := by decide +kernel
theorem dX9_as_65 : decode cX9_as 65 = .ok (.ireturn, 1) := by decide +kernel
theorem dX9_began_0 : decode cX9_began 0 = .ok (.aload_n 0, 1) := by decide +kernel
theorem dX9_began_1 : decode cX9_began 1 = .ok (.getfield 276, 3) := by decide +kernel
theorem dX9_began_4 : decode cX9_began 4 = .ok (.bipush 16, 2) := by decide +kernel
theorem dX9_began_6 : decode cX9_began 6 = .ok (.if_icmp .ge 23, 3) := by decide +kernel
theorem dX9_began_9 : decode cX9_began 9 = .ok (.aload_n 0, 1) := by decide +kernel
theorem dX9_began_10 : decode cX9_began 10 = .ok (.getfield 95, 3) := by decide +kernel
theorem dX9_began_13 : decode cX9_began 13 = .ok (.aload_n 0, 1) := by decide +kernel
theorem dX9_began_14 : decode cX9_began 14 = .ok (.getfield 276, 3) := by decide +kernel
theorem dX9_began_17 : decode cX9_began 17 = .ok (.iload_n 1, 1) := by decide +kernel
theorem dX9_began_18 : decode cX9_began 18 = .ok (.iastore, 1) := by decide +kernel
theorem dX9_began_19 : decode cX9_began 19 = .ok (.aload_n 0, 1) := by decide +kernel
theorem dX9_began_20 : decode cX9_began 20 = .ok (.dup, 1) := by decide +kernel
theorem dX9_began_21 : decode cX9_began 21 = .ok (.getfield 276, 3) := by decide +kernel
theorem dX9_began_24 : decode cX9_began 24 = .ok (.iconst 1, 1) := by decide +kernel
theorem dX9_began_25 : decode cX9_began 25 = .ok (.iadd, 1) := by decide +kernel
theorem dX9_began_26 : decode cX9_began 26 = .ok (.putfield 276, 3) := by decide +kernel
theorem dX9_began_29 : decode cX9_began 29 = .ok (.return_, 1) := by decide +kernel
theorem dX9_bareWorth_0 : decode cX9_bareWorth 0 = .ok (.aload_n 0, 1) := by decide +kernel
theorem dX9_bareWorth_1 : decode cX9_bareWorth 1 = .ok (.bipush 13, 2) := by decide +kernel
theorem dX9_bareWorth_3 : decode cX9_bareWorth 3 = .ok (.invokevirtual 279, 3) := by decide +kernel
theorem dX9_bareWorth_6 : decode cX9_bareWorth 6 = .ok (.aload_n 0, 1) := by decide +kernel
theorem dX9_bareWorth_7 : decode cX9_bareWorth 7 = .ok (.getfield 19, 3) := by decide +kernel
theorem dX9_bareWorth_10 : decode cX9_bareWorth 10 = .ok (.iload_n 1, 1) := by decide +kernel
theorem dX9_bareWorth_11 : decode cX9_bareWorth 11 = .ok (.iaload, 1) := by decide +kernel
theorem dX9_bareWorth_12 : decode cX9_bareWorth 12 = .ok (.ireturn, 1) := by decide +kernel
theorem dX9_marked_0 : decode cX9_marked 0 = .ok (.aload_n 0, 1) := by decide +kernel
theorem dX9_marked_1 : decode cX9_marked 1 = .ok (.iload_n 1, 1) := by decide +kernel
theorem dX9_marked_2 : decode cX9_marked 2 = .ok (.invokevirtual 272, 3) := by decide +kernel
theorem dX9_marked_5 : decode cX9_marked 5 = .ok (.istore_n 2, 1) := by decide +kernel
theorem dX9_marked_6 : decode cX9_marked 6 = .ok (.iload_n 2, 1) := by decide +kernel
theorem dX9_marked_7 : decode cX9_marked 7 = .ok (.iconst 2, 1) := by decide +kernel
theorem dX9_marked_8 : decode cX9_marked 8 = .ok (.if_icmp .ne 9, 3) := by decide +kernel
theorem dX9_marked_11 : decode cX9_marked 11 = .ok (.aload_n 0, 1) := by decide +kernel
theorem dX9_marked_12 : decode cX9_marked 12 = .ok (.bipush 21, 2) := by decide +kernel
theorem dX9_marked_14 : decode cX9_marked 14 = .ok (.invokevirtual 279, 3) := by decide +kernel
theorem dX9_marked_17 : decode cX9_marked 17 = .ok (.iload_n 2, 1) := by decide +kernel
theorem dX9_marked_18 : decode cX9_marked 18 = .ok (.iconst 3, 1) := by decide +kernel
theorem dX9_marked_19 : decode cX9_marked 19 = .ok (.if_icmp .ne 9, 3) := by decide +kernel
theorem dX9_marked_22 : decode cX9_marked 22 = .ok (.aload_n 0, 1) := by decide +kernel
theorem dX9_marked_23 : decode cX9_marked 23 = .ok (.bipush 22, 2) := by decide +kernel
theorem dX9_marked_25 : decode cX9_marked 25 = .ok (.invokevirtual 279, 3) := by decide +kernel
theorem dX9_marked_28 : decode cX9_marked 28 = .ok (.aload_n 0, 1) := by decide +kernel
theorem dX9_marked_29 : decode cX9_marked 29 = .ok (.bipush 20, 2) := by decide +kernel
theorem dX9_marked_31 : decode cX9_marked 31 = .ok (.invokevirtual 279, 3) := by decide +kernel
theorem dX9_marked_34 : decode cX9_marked 34 = .ok (.aload_n 0, 1) := by decide +kernel
theorem dX9_marked_35 : decode cX9_marked 35 = .ok (.getfield 23, 3) := by decide +kernel
theorem dX9_marked_38 : decode cX9_marked 38 = .ok (.iload_n 1, 1) := by decide +kernel
theorem dX9_marked_39 : decode cX9_marked 39 = .ok (.iaload, 1) := by decide +kernel
theorem dX9_marked_40 : decode cX9_marked 40 = .ok (.iload_n 2, 1) := by decide +kernel
theorem dX9_marked_41 : decode cX9_marked 41 = .ok (.iconst 2, 1) := by decide +kernel
theorem dX9_marked_42 : decode cX9_marked 42 = .ok (.if_icmp .ne 12, 3) := by decide +kernel
theorem dX9_marked_45 : decode cX9_marked 45 = .ok (.aload_n 0, 1) := by decide +kernel
theorem dX9_marked_46 : decode cX9_marked 46 = .ok (.getfield 35, 3) := by decide +kernel
theorem dX9_marked_49 : decode cX9_marked 49 = .ok (.iload_n 1, 1) := by decide +kernel
theorem dX9_marked_50 : decode cX9_marked 50 = .ok (.iaload, 1) := by decide +kernel
theorem dX9_marked_51 : decode cX9_marked 51 = .ok (.goto 17, 3) := by decide +kernel
theorem dX9_marked_54 : decode cX9_marked 54 = .ok (.iload_n 2, 1) := by decide +kernel
theorem dX9_marked_55 : decode cX9_marked 55 = .ok (.iconst 3, 1) := by decide +kernel
theorem dX9_marked_56 : decode cX9_marked 56 = .ok (.if_icmp .ne 11, 3) := by decide +kernel
theorem dX9_marked_59 : decode cX9_marked 59 = .ok (.aload_n 0, 1) := by decide +kernel
theorem dX9_marked_60 : decode cX9_marked 60 = .ok (.iload_n 1, 1) := by decide +kernel
theorem dX9_marked_61 : decode cX9_marked 61 = .ok (.invokevirtual 282, 3) := by decide +kernel
theorem dX9_marked_64 : decode cX9_marked 64 = .ok (.goto 4, 3) := by decide +kernel
theorem dX9_marked_67 : decode cX9_marked 67 = .ok (.iconst 0, 1) := by decide +kernel
theorem dX9_marked_68 : decode cX9_marked 68 = .ok (.iadd, 1) := by decide +kernel
theorem dX9_marked_69 : decode cX9_marked 69 = .ok (.ireturn, 1) := by decide +kernel
theorem dX9_worth_0 : decode cX9_worth 0 = .ok (.aload_n 0, 1) := by decide +kernel
theorem dX9_worth_1 : decode cX9_worth 1 = .ok (.iload_n 1, 1) := by decide +kernel
theorem dX9_worth_2 : decode cX9_worth 2 = .ok (.invokevirtual 272, 3) := by decide +kernel
theorem dX9_worth_5 : decode cX9_worth 5 = .ok (.istore_n 2, 1) := by decide +kernel
theorem dX9_worth_6 : decode cX9_worth 6 = .ok (.iload_n 2, 1) := by decide +kernel
theorem dX9_worth_7 : decode cX9_worth 7 = .ok (.iconst 3, 1) := by decide +kernel
theorem dX9_worth_8 : decode cX9_worth 8 = .ok (.if_icmp .ne 9, 3) := by decide +kernel
theorem dX9_worth_11 : decode cX9_worth 11 = .ok (.aload_n 0, 1) := by decide +kernel
theorem dX9_worth_12 : decode cX9_worth 12 = .ok (.iload_n 1, 1) := by decide +kernel
theorem dX9_worth_13 : decode cX9_worth 13 = .ok (.invokevirtual 282, 3) := by decide +kernel
theorem dX9_worth_16 : decode cX9_worth 16 = .ok (.ireturn, 1) := by decide +kernel
theorem dX9_worth_17 : decode cX9_worth 17 = .ok (.iload_n 2, 1) := by decide +kernel
theorem dX9_worth_18 : decode cX9_worth 18 = .ok (.iconst 2, 1) := by decide +kernel
theorem dX9_worth_19 : decode cX9_worth 19 = .ok (.if_icmp .ne 9, 3) := by decide +kernel
theorem dX9_worth_22 : decode cX9_worth 22 = .ok (.aload_n 0, 1) := by decide +kernel
theorem dX9_worth_23 : decode cX9_worth 23 = .ok (.bipush 12, 2) := by decide +kernel
theorem dX9_worth_25 : decode cX9_worth 25 = .ok (.invokevirtual 279, 3) := by decide +kernel
theorem dX9_worth_28 : decode cX9_worth 28 = .ok (.iload_n 2, 1) := by decide +kernel
theorem dX9_worth_29 : decode cX9_worth 29 = .ok (.iconst 2, 1) := by decide +kernel
theorem dX9_worth_30 : decode cX9_worth 30 = .ok (.if_icmp .eq 8, 3) := by decide +kernel
theorem dX9_worth_33 : decode cX9_worth 33 = .ok (.iload_n 2, 1) := by decide +kernel
theorem dX9_worth_34 : decode cX9_worth 34 = .ok (.iconst 1, 1) := by decide +kernel
theorem dX9_worth_35 : decode cX9_worth 35 = .ok (.if_icmp .ne 9, 3) := by decide +kernel
theorem dX9_worth_38 : decode cX9_worth 38 = .ok (.aload_n 0, 1) := by decide +kernel
theorem dX9_worth_39 : decode cX9_worth 39 = .ok (.bipush 11, 2) := by decide +kernel
theorem dX9_worth_41 : decode cX9_worth 41 = .ok (.invokevirtual 279, 3) := by decide +kernel
theorem dX9_worth_44 : decode cX9_worth 44 = .ok (.aload_n 0, 1) := by decide +kernel
theorem dX9_worth_45 : decode cX9_worth 45 = .ok (.bipush 10, 2) := by decide +kernel
theorem dX9_worth_47 : decode cX9_worth 47 = .ok (.invokevirtual 279, 3) := by decide +kernel
theorem dX9_worth_50 : decode cX9_worth 50 = .ok (.aload_n 0, 1) := by decide +kernel
theorem dX9_worth_51 : decode cX9_worth 51 = .ok (.iload_n 1, 1) := by decide +kernel
theorem dX9_worth_52 : decode cX9_worth 52 = .ok (.invokevirtual 122, 3) := by decide +kernel
theorem dX9_worth_55 : decode cX9_worth 55 = .ok (.iload_n 2, 1) := by decide +kernel
theorem dX9_worth_56 : decode cX9_worth 56 = .ok (.iconst 2, 1) := by decide +kernel
theorem dX9_worth_57 : decode cX9_worth 57 = .ok (.if_icmp .eq 8, 3) := by decide +kernel
theorem dX9_worth_60 : decode cX9_worth 60 = .ok (.iload_n 2, 1) := by decide +kernel
theorem dX9_worth_61 : decode cX9_worth 61 = .ok (.iconst 1, 1) := by decide +kernel
theorem dX9_worth_62 : decode cX9_worth 62 = .ok (.if_icmp .ne 9, 3) := by decide +kernel
theorem dX9_worth_65 : decode cX9_worth 65 = .ok (.sipush 1000, 3) := by decide +kernel
theorem dX9_worth_68 : decode cX9_worth 68 = .ok (.goto 4, 3) := by decide +kernel
theorem dX9_worth_71 : decode cX9_worth 71 = .ok (.iconst 0, 1) := by decide +kernel
theorem dX9_worth_72 : decode cX9_worth 72 = .ok (.iadd, 1) := by decide +kernel
theorem dX9_worth_73 : decode cX9_worth 73 = .ok (.istore_n 3, 1) := by decide +kernel
theorem dX9_worth_74 : decode cX9_worth 74 = .ok (.iload_n 2, 1) := by decide +kernel
theorem dX9_worth_75 : decode cX9_worth 75 = .ok (.iconst 2, 1) := by decide +kernel
theorem dX9_worth_76 : decode cX9_worth 76 = .ok (.if_icmp .ne 13, 3) := by decide +kernel
theorem dX9_worth_79 : decode cX9_worth 79 = .ok (.iload_n 3, 1) := by decide +kernel
theorem dX9_worth_80 : decode cX9_worth 80 = .ok (.aload_n 0, 1) := by decide +kernel
theorem dX9_worth_81 : decode cX9_worth 81 = .ok (.iload_n 1, 1) := by decide +kernel
theorem dX9_worth_82 : decode cX9_worth 82 = .ok (.invokevirtual 285, 3) := by decide +kernel
theorem dX9_worth_85 : decode cX9_worth 85 = .ok (.iadd, 1) := by decide +kernel
theorem dX9_worth_86 : decode cX9_worth 86 = .ok (.goto 4, 3) := by decide +kernel
theorem dX9_worth_89 : decode cX9_worth 89 = .ok (.iload_n 3, 1) := by decide +kernel
theorem dX9_worth_90 : decode cX9_worth 90 = .ok (.ireturn, 1) := by decide +kernel
theorem dX9_ask_0 : decode cX9_ask 0 = .ok (.aload_n 0, 1) := by decide +kernel
theorem dX9_ask_1 : decode cX9_ask 1 = .ok (.iconst 0, 1) := by decide +kernel
theorem dX9_ask_2 : decode cX9_ask 2 = .ok (.putfield 1, 3) := by decide +kernel
theorem dX9_ask_5 : decode cX9_ask 5 = .ok (.aload_n 0, 1) := by decide +kernel
theorem dX9_ask_6 : decode cX9_ask 6 = .ok (.iload_n 1, 1) := by decide +kernel
theorem dX9_ask_7 : decode cX9_ask 7 = .ok (.invokevirtual 115, 3) := by decide +kernel
theorem dX9_ask_10 : decode cX9_ask 10 = .ok (.ifCond .eq 13, 3) := by decide +kernel
theorem dX9_ask_13 : decode cX9_ask 13 = .ok (.iload_n 2, 1) := by decide +kernel
theorem dX9_ask_14 : decode cX9_ask 14 = .ok (.i2l, 1) := by decide +kernel
theorem dX9_ask_15 : decode cX9_ask 15 = .ok (.lconst 0, 1) := by decide +kernel
theorem dX9_ask_16 : decode cX9_ask 16 = .ok (.lconst 1, 1) := by decide +kernel
theorem dX9_ask_17 : decode cX9_ask 17 = .ok (.invokestatic 104, 3) := by decide +kernel
theorem dX9_ask_20 : decode cX9_ask 20 = .ok (.ifCond .ne 6, 3) := by decide +kernel
theorem dX9_ask_23 : decode cX9_ask 23 = .ok (.ldc 112, 2) := by decide +kernel
theorem dX9_ask_25 : decode cX9_ask 25 = .ok (.ireturn, 1) := by decide +kernel
theorem dX9_ask_26 : decode cX9_ask 26 = .ok (.aload_n 0, 1) := by decide +kernel
theorem dX9_ask_27 : decode cX9_ask 27 = .ok (.iconst 0, 1) := by decide +kernel
theorem dX9_ask_28 : decode cX9_ask 28 = .ok (.putfield 276, 3) := by decide +kernel
theorem dX9_ask_31 : decode cX9_ask 31 = .ok (.iload_n 2, 1) := by decide +kernel
theorem dX9_ask_32 : decode cX9_ask 32 = .ok (.ifCond .ne 11, 3) := by decide +kernel
theorem dX9_ask_35 : decode cX9_ask 35 = .ok (.aload_n 0, 1) := by decide +kernel
theorem dX9_ask_36 : decode cX9_ask 36 = .ok (.iload_n 1, 1) := by decide +kernel
theorem dX9_ask_37 : decode cX9_ask 37 = .ok (.invokevirtual 288, 3) := by decide +kernel
theorem dX9_ask_40 : decode cX9_ask 40 = .ok (.goto 8, 3) := by decide +kernel
theorem dX9_ask_43 : decode cX9_ask 43 = .ok (.aload_n 0, 1) := by decide +kernel
theorem dX9_ask_44 : decode cX9_ask 44 = .ok (.iload_n 1, 1) := by decide +kernel
theorem dX9_ask_45 : decode cX9_ask 45 = .ok (.invokevirtual 285, 3) := by decide +kernel
theorem dX9_ask_48 : decode cX9_ask 48 = .ok (.ireturn, 1) := by decide +kernel
theorem dX9_trace_0 : decode cX9_trace 0 = .ok (.aload_n 0, 1) := by decide +kernel
theorem dX9_trace_1 : decode cX9_trace 1 = .ok (.iconst 0, 1) := by decide +kernel
theorem dX9_trace_2 : decode cX9_trace 2 = .ok (.putfield 1, 3) := by decide +kernel
theorem dX9_trace_5 : decode cX9_trace 5 = .ok (.iload_n 1, 1) := by decide +kernel
theorem dX9_trace_6 : decode cX9_trace 6 = .ok (.i2l, 1) := by decide +kernel
theorem dX9_trace_7 : decode cX9_trace 7 = .ok (.lconst 0, 1) := by decide +kernel
theorem dX9_trace_8 : decode cX9_trace 8 = .ok (.aload_n 0, 1) := by decide +kernel
theorem dX9_trace_9 : decode cX9_trace 9 = .ok (.getfield 276, 3) := by decide +kernel
theorem dX9_trace_12 : decode cX9_trace 12 = .ok (.iconst 1, 1) := by decide +kernel
theorem dX9_trace_13 : decode cX9_trace 13 = .ok (.isub, 1) := by decide +kernel
theorem dX9_trace_14 : decode cX9_trace 14 = .ok (.i2l, 1) := by decide +kernel
theorem dX9_trace_15 : decode cX9_trace 15 = .ok (.invokestatic 104, 3) := by decide +kernel
theorem dX9_trace_18 : decode cX9_trace 18 = .ok (.ifCond .eq 12, 3) := by decide +kernel
theorem dX9_trace_21 : decode cX9_trace 21 = .ok (.aload_n 0, 1) := by decide +kernel
theorem dX9_trace_22 : decode cX9_trace 22 = .ok (.getfield 95, 3) := by decide +kernel
theorem dX9_trace_25 : decode cX9_trace 25 = .ok (.iload_n 1, 1) := by decide +kernel
theorem dX9_trace_26 : decode cX9_trace 26 = .ok (.iaload, 1) := by decide +kernel
theorem dX9_trace_27 : decode cX9_trace 27 = .ok (.goto 5, 3) := by decide +kernel
theorem dX9_trace_30 : decode cX9_trace 30 = .ok (.ldc 114, 2) := by decide +kernel
theorem dX9_trace_32 : decode cX9_trace 32 = .ok (.ireturn, 1) := by decide +kernel
theorem dX9_count_0 : decode cX9_count 0 = .ok (.aload_n 0, 1) := by decide +kernel
theorem dX9_count_1 : decode cX9_count 1 = .ok (.iconst 0, 1) := by decide +kernel
theorem dX9_count_2 : decode cX9_count 2 = .ok (.putfield 1, 3) := by decide +kernel
theorem dX9_count_5 : decode cX9_count 5 = .ok (.iload_n 1, 1) := by decide +kernel
theorem dX9_count_6 : decode cX9_count 6 = .ok (.tableswitch 127 0 9 #[54, 59, 64, 92, 97, 102, 107, 112, 117, 122], 54) := by decide +kernel
theorem dX9_count_60 : decode cX9_count 60 = .ok (.aload_n 0, 1) := by decide +kernel
theorem dX9_count_61 : decode cX9_count 61 = .ok (.getfield 101, 3) := by decide +kernel
theorem dX9_count_64 : decode cX9_count 64 = .ok (.ireturn, 1) := by decide +kernel
theorem dX9_count_65 : decode cX9_count 65 = .ok (.aload_n 0, 1) := by decide +kernel
theorem dX9_count_66 : decode cX9_count 66 = .ok (.getfield 98, 3) := by decide +kernel
theorem dX9_count_69 : decode cX9_count 69 = .ok (.ireturn, 1) := by decide +kernel
theorem dX9_count_70 : decode cX9_count 70 = .ok (.iconst 0, 1) := by decide +kernel
theorem dX9_count_71 : decode cX9_count 71 = .ok (.istore_n 2, 1) := by decide +kernel
theorem dX9_count_72 : decode cX9_count 72 = .ok (.iconst 0, 1) := by decide +kernel
theorem dX9_count_73 : decode cX9_count 73 = .ok (.istore_n 3, 1) := by decide +kernel
theorem dX9_count_74 : decode cX9_count 74 = .ok (.iload_n 3, 1) := by decide +kernel
theorem dX9_count_75 : decode cX9_count 75 = .ok (.aload_n 0, 1) := by decide +kernel
theorem dX9_count_76 : decode cX9_count 76 = .ok (.getfield 101, 3) := by decide +kernel
theorem dX9_count_79 : decode cX9_count 79 = .ok (.if_icmp .ge 17, 3) := by decide +kernel
theorem dX9_count_82 : decode cX9_count 82 = .ok (.iload_n 2, 1) := by decide +kernel
theorem dX9_count_83 : decode cX9_count 83 = .ok (.aload_n 0, 1) := by decide +kernel
theorem dX9_count_84 : decode cX9_count 84 = .ok (.iload_n 3, 1) := by decide +kernel
theorem dX9_count_85 : decode cX9_count 85 = .ok (.invokevirtual 122, 3) := by decide +kernel
theorem dX9_count_88 : decode cX9_count 88 = .ok (.iadd, 1) := by decide +kernel
theorem dX9_count_89 : decode cX9_count 89 = .ok (.istore_n 2, 1) := by decide +kernel
theorem dX9_count_90 : decode cX9_count 90 = .ok (.iinc 3 1, 3) := by decide +kernel
theorem dX9_count_93 : decode cX9_count 93 = .ok (.goto (-19), 3) := by decide +kernel
theorem dX9_count_96 : decode cX9_count 96 = .ok (.iload_n 2, 1) := by decide +kernel
theorem dX9_count_97 : decode cX9_count 97 = .ok (.ireturn, 1) := by decide +kernel
theorem dX9_count_98 : decode cX9_count 98 = .ok (.aload_n 0, 1) := by decide +kernel
theorem dX9_count_99 : decode cX9_count 99 = .ok (.getfield 166, 3) := by decide +kernel
theorem dX9_count_102 : decode cX9_count 102 = .ok (.ireturn, 1) := by decide +kernel
theorem dX9_count_103 : decode cX9_count 103 = .ok (.aload_n 0, 1) := by decide +kernel
theorem dX9_count_104 : decode cX9_count 104 = .ok (.getfield 130, 3) := by decide +kernel
theorem dX9_count_107 : decode cX9_count 107 = .ok (.ireturn, 1) := by decide +kernel
theorem dX9_count_108 : decode cX9_count 108 = .ok (.aload_n 0, 1) := by decide +kernel
theorem dX9_count_109 : decode cX9_count 109 = .ok (.getfield 138, 3) := by decide +kernel
theorem dX9_count_112 : decode cX9_count 112 = .ok (.ireturn, 1) := by decide +kernel
theorem dX9_count_113 : decode cX9_count 113 = .ok (.aload_n 0, 1) := by decide +kernel
theorem dX9_count_114 : decode cX9_count 114 = .ok (.getfield 141, 3) := by decide +kernel
theorem dX9_count_117 : decode cX9_count 117 = .ok (.ireturn, 1) := by decide +kernel
theorem dX9_count_118 : decode cX9_count 118 = .ok (.aload_n 0, 1) := by decide +kernel
theorem dX9_count_119 : decode cX9_count 119 = .ok (.getfield 163, 3) := by decide +kernel
theorem dX9_count_122 : decode cX9_count 122 = .ok (.ireturn, 1) := by decide +kernel
theorem dX9_count_123 : decode cX9_count 123 = .ok (.aload_n 0, 1) := by decide +kernel
theorem dX9_count_124 : decode cX9_count 124 = .ok (.getfield 144, 3) := by decide +kernel
theorem dX9_count_127 : decode cX9_count 127 = .ok (.ireturn, 1) := by decide +kernel
theorem dX9_count_128 : decode cX9_count 128 = .ok (.aload_n 0, 1) := by decide +kernel
theorem dX9_count_129 : decode cX9_count 129 = .ok (.getfield 169, 3) := by decide +kernel
theorem dX9_count_132 : decode cX9_count 132 = .ok (.ireturn, 1) := by decide +kernel
theorem dX9_count_133 : decode cX9_count 133 = .ok (.ldc 112, 2) := by decide +kernel
theorem dX9_count_135 : decode cX9_count 135 = .ok (.ireturn, 1) := by decide +kernel
theorem dJ6_bitCount_0f7a4_0 : decode cJ6_bitCount_0f7a4 0 = .ok (.iload_n 0, 1) := by decide +kernel
theorem dJ6_bitCount_0f7a4_1 : decode cJ6_bitCount_0f7a4 1 = .ok (.iload_n 0, 1) := by decide +kernel
theorem dJ6_bitCount_0f7a4_2 : decode cJ6_bitCount_0f7a4 2 = .ok (.iconst 1, 1) := by decide +kernel
theorem dJ6_bitCount_0f7a4_3 : decode cJ6_bitCount_0f7a4 3 = .ok (.iushr, 1) := by decide +kernel
theorem dJ6_bitCount_0f7a4_4 : decode cJ6_bitCount_0f7a4 4 = .ok (.ldc_w 265, 3) := by decide +kernel
theorem dJ6_bitCount_0f7a4_7 : decode cJ6_bitCount_0f7a4 7 = .ok (.iand, 1) := by decide +kernel
theorem dJ6_bitCount_0f7a4_8 : decode cJ6_bitCount_0f7a4 8 = .ok (.isub, 1) := by decide +kernel
theorem dJ6_bitCount_0f7a4_9 : decode cJ6_bitCount_0f7a4 9 = .ok (.istore_n 0, 1) := by decide +kernel
theorem dJ6_bitCount_0f7a4_10 : decode cJ6_bitCount_0f7a4 10 = .ok (.iload_n 0, 1) := by decide +kernel
theorem dJ6_bitCount_0f7a4_11 : decode cJ6_bitCount_0f7a4 11 = .ok (.ldc_w 266, 3) := by decide +kernel
theorem dJ6_bitCount_0f7a4_14 : decode cJ6_bitCount_0f7a4 14 = .ok (.iand, 1) := by decide +kernel
theorem dJ6_bitCount_0f7a4_15 : decode cJ6_bitCount_0f7a4 15 = .ok (.iload_n 0, 1) := by decide +kernel
theorem dJ6_bitCount_0f7a4_16 : decode cJ6_bitCount_0f7a4 16 = .ok (.iconst 2, 1) := by decide +kernel
theorem dJ6_bitCount_0f7a4_17 : decode cJ6_bitCount_0f7a4 17 = .ok (.iushr, 1) := by decide +kernel
theorem dJ6_bitCount_0f7a4_18 : decode cJ6_bitCount_0f7a4 18 = .ok (.ldc_w 266, 3) := by decide +kernel
theorem dJ6_bitCount_0f7a4_21 : decode cJ6_bitCount_0f7a4 21 = .ok (.iand, 1) := by decide +kernel
theorem dJ6_bitCount_0f7a4_22 : decode cJ6_bitCount_0f7a4 22 = .ok (.iadd, 1) := by decide +kernel
theorem dJ6_bitCount_0f7a4_23 : decode cJ6_bitCount_0f7a4 23 = .ok (.istore_n 0, 1) := by decide +kernel
theorem dJ6_bitCount_0f7a4_24 : decode cJ6_bitCount_0f7a4 24 = .ok (.iload_n 0, 1) := by decide +kernel
theorem dJ6_bitCount_0f7a4_25 : decode cJ6_bitCount_0f7a4 25 = .ok (.iload_n 0, 1) := by decide +kernel
theorem dJ6_bitCount_0f7a4_26 : decode cJ6_bitCount_0f7a4 26 = .ok (.iconst 4, 1) := by decide +kernel
theorem dJ6_bitCount_0f7a4_27 : decode cJ6_bitCount_0f7a4 27 = .ok (.iushr, 1) := by decide +kernel
theorem dJ6_bitCount_0f7a4_28 : decode cJ6_bitCount_0f7a4 28 = .ok (.iadd, 1) := by decide +kernel
theorem dJ6_bitCount_0f7a4_29 : decode cJ6_bitCount_0f7a4 29 = .ok (.ldc_w 267, 3) := by decide +kernel
theorem dJ6_bitCount_0f7a4_32 : decode cJ6_bitCount_0f7a4 32 = .ok (.iand, 1) := by decide +kernel
theorem dJ6_bitCount_0f7a4_33 : decode cJ6_bitCount_0f7a4 33 = .ok (.istore_n 0, 1) := by decide +kernel
theorem dJ6_bitCount_0f7a4_34 : decode cJ6_bitCount_0f7a4 34 = .ok (.iload_n 0, 1) := by decide +kernel
theorem dJ6_bitCount_0f7a4_35 : decode cJ6_bitCount_0f7a4 35 = .ok (.iload_n 0, 1) := by decide +kernel
theorem dJ6_bitCount_0f7a4_36 : decode cJ6_bitCount_0f7a4 36 = .ok (.bipush 8, 2) := by decide +kernel
theorem dJ6_bitCount_0f7a4_38 : decode cJ6_bitCount_0f7a4 38 = .ok (.iushr, 1) := by decide +kernel
theorem dJ6_bitCount_0f7a4_39 : decode cJ6_bitCount_0f7a4 39 = .ok (.iadd, 1) := by decide +kernel
theorem dJ6_bitCount_0f7a4_40 : decode cJ6_bitCount_0f7a4 40 = .ok (.istore_n 0, 1) := by decide +kernel
theorem dJ6_bitCount_0f7a4_41 : decode cJ6_bitCount_0f7a4 41 = .ok (.iload_n 0, 1) := by decide +kernel
theorem dJ6_bitCount_0f7a4_42 : decode cJ6_bitCount_0f7a4 42 = .ok (.iload_n 0, 1) := by decide +kernel
theorem dJ6_bitCount_0f7a4_43 : decode cJ6_bitCount_0f7a4 43 = .ok (.bipush 16, 2) := by decide +kernel
theorem dJ6_bitCount_0f7a4_45 : decode cJ6_bitCount_0f7a4 45 = .ok (.iushr, 1) := by decide +kernel
theorem dJ6_bitCount_0f7a4_46 : decode cJ6_bitCount_0f7a4 46 = .ok (.iadd, 1) := by decide +kernel
theorem dJ6_bitCount_0f7a4_47 : decode cJ6_bitCount_0f7a4 47 = .ok (.istore_n 0, 1) := by decide +kernel
theorem dJ6_bitCount_0f7a4_48 : decode cJ6_bitCount_0f7a4 48 = .ok (.iload_n 0, 1) := by decide +kernel
theorem dJ6_bitCount_0f7a4_49 : decode cJ6_bitCount_0f7a4 49 = .ok (.bipush 63, 2) := by decide +kernel
theorem dJ6_bitCount_0f7a4_51 : decode cJ6_bitCount_0f7a4 51 = .ok (.iand, 1) := by decide +kernel
theorem dJ6_bitCount_0f7a4_52 : decode cJ6_bitCount_0f7a4 52 = .ok (.ireturn, 1) := by decide +kernel
theorem dJ9_max_7cf53_0 : decode cJ9_max_7cf53 0 = .ok (.iload_n 0, 1) := by decide +kernel
theorem dJ9_max_7cf53_1 : decode cJ9_max_7cf53 1 = .ok (.iload_n 1, 1) := by decide +kernel
theorem dJ9_max_7cf53_2 : decode cJ9_max_7cf53 2 = .ok (.if_icmp .lt 7, 3) := by decide +kernel
theorem dJ9_max_7cf53_5 : decode cJ9_max_7cf53 5 = .ok (.iload_n 0, 1) := by decide +kernel
theorem dJ9_max_7cf53_6 : decode cJ9_max_7cf53 6 = .ok (.goto 4, 3) := by decide +kernel
theorem dJ9_max_7cf53_9 : decode cJ9_max_7cf53 9 = .ok (.iload_n 1, 1) := by decide +kernel
theorem dJ9_max_7cf53_10 : decode cJ9_max_7cf53 10 = .ok (.ireturn, 1) := by decide +kernel
theorem dJ9_min_7cf53_0 : decode cJ9_min_7cf53 0 = .ok (.iload_n 0, 1) := by decide +kernel
theorem dJ9_min_7cf53_1 : decode cJ9_min_7cf53 1 = .ok (.iload_n 1, 1) := by decide +kernel
theorem dJ9_min_7cf53_2 : decode cJ9_min_7cf53 2 = .ok (.if_icmp .gt 7, 3) := by decide +kernel
theorem dJ9_min_7cf53_5 : decode cJ9_min_7cf53 5 = .ok (.iload_n 0, 1) := by decide +kernel
theorem dJ9_min_7cf53_6 : decode cJ9_min_7cf53 6 = .ok (.goto 4, 3) := by decide +kernel
theorem dJ9_min_7cf53_9 : decode cJ9_min_7cf53 9 = .ok (.iload_n 1, 1) := by decide +kernel
theorem dJ9_min_7cf53_10 : decode cJ9_min_7cf53 10 = .ok (.ireturn, 1) := by decide +kernel
theorem dJ0_length_8abf5_0 : decode cJ0_length_8abf5 0 = .ok (.aload_n 0, 1) := by decide +kernel
theorem dJ0_length_8abf5_1 : decode cJ0_length_8abf5 1 = .ok (.getfield 9, 3) := by decide +kernel
theorem dJ0_length_8abf5_4 : decode cJ0_length_8abf5 4 = .ok (.arraylength, 1) := by decide +kernel
theorem dJ0_length_8abf5_5 : decode cJ0_length_8abf5 5 = .ok (.aload_n 0, 1) := by decide +kernel
theorem dJ0_length_8abf5_6 : decode cJ0_length_8abf5 6 = .ok (.invokevirtual 335, 3) := by decide +kernel
theorem dJ0_length_8abf5_9 : decode cJ0_length_8abf5 9 = .ok (.ishr, 1) := by decide +kernel
theorem dJ0_length_8abf5_10 : decode cJ0_length_8abf5 10 = .ok (.ireturn, 1) := by decide +kernel
theorem dJ0_charAt_5068e_0 : decode cJ0_charAt_5068e 0 = .ok (.aload_n 0, 1) := by decide +kernel
theorem dJ0_charAt_5068e_1 : decode cJ0_charAt_5068e 1 = .ok (.invokevirtual 492, 3) := by decide +kernel
theorem dJ0_charAt_5068e_4 : decode cJ0_charAt_5068e 4 = .ok (.ifCond .eq 12, 3) := by decide +kernel
theorem dJ0_charAt_5068e_7 : decode cJ0_charAt_5068e 7 = .ok (.aload_n 0, 1) := by decide +kernel
theorem dJ0_charAt_5068e_8 : decode cJ0_charAt_5068e 8 = .ok (.getfield 9, 3) := by decide +kernel
theorem dJ0_charAt_5068e_11 : decode cJ0_charAt_5068e 11 = .ok (.iload_n 1, 1) := by decide +kernel
theorem dJ0_charAt_5068e_12 : decode cJ0_charAt_5068e 12 = .ok (.invokestatic 495, 3) := by decide +kernel
theorem dJ0_charAt_5068e_15 : decode cJ0_charAt_5068e 15 = .ok (.ireturn, 1) := by decide +kernel
theorem dJ0_charAt_5068e_16 : decode cJ0_charAt_5068e 16 = .ok (.aload_n 0, 1) := by decide +kernel
theorem dJ0_charAt_5068e_17 : decode cJ0_charAt_5068e 17 = .ok (.getfield 9, 3) := by decide +kernel
theorem dJ0_charAt_5068e_20 : decode cJ0_charAt_5068e 20 = .ok (.iload_n 1, 1) := by decide +kernel
theorem dJ0_charAt_5068e_21 : decode cJ0_charAt_5068e 21 = .ok (.invokestatic 498, 3) := by decide +kernel
theorem dJ0_charAt_5068e_24 : decode cJ0_charAt_5068e 24 = .ok (.ireturn, 1) := by decide +kernel
theorem dJ0_coder_7d493_0 : decode cJ0_coder_7d493 0 = .ok (.getstatic 38, 3) := by decide +kernel
theorem dJ0_coder_7d493_3 : decode cJ0_coder_7d493 3 = .ok (.ifCond .eq 10, 3) := by decide +kernel
theorem dJ0_coder_7d493_6 : decode cJ0_coder_7d493 6 = .ok (.aload_n 0, 1) := by decide +kernel
theorem dJ0_coder_7d493_7 : decode cJ0_coder_7d493 7 = .ok (.getfield 15, 3) := by decide +kernel
theorem dJ0_coder_7d493_10 : decode cJ0_coder_7d493 10 = .ok (.goto 4, 3) := by decide +kernel
theorem dJ0_coder_7d493_13 : decode cJ0_coder_7d493 13 = .ok (.iconst 1, 1) := by decide +kernel
theorem dJ0_coder_7d493_14 : decode cJ0_coder_7d493 14 = .ok (.ireturn, 1) := by decide +kernel
theorem dJ0_isLatin1_aae02_0 : decode cJ0_isLatin1_aae02 0 = .ok (.getstatic 38, 3) := by decide +kernel
theorem dJ0_isLatin1_aae02_3 : decode cJ0_isLatin1_aae02 3 = .ok (.ifCond .eq 14, 3) := by decide +kernel
theorem dJ0_isLatin1_aae02_6 : decode cJ0_isLatin1_aae02 6 = .ok (.aload_n 0, 1) := by decide +kernel
theorem dJ0_isLatin1_aae02_7 : decode cJ0_isLatin1_aae02 7 = .ok (.getfield 15, 3) := by decide +kernel
theorem dJ0_isLatin1_aae02_10 : decode cJ0_isLatin1_aae02 10 = .ok (.ifCond .ne 7, 3) := by decide +kernel
theorem dJ0_isLatin1_aae02_13 : decode cJ0_isLatin1_aae02 13 = .ok (.iconst 1, 1) := by decide +kernel
theorem dJ0_isLatin1_aae02_14 : decode cJ0_isLatin1_aae02 14 = .ok (.goto 4, 3) := by decide +kernel
theorem dJ0_isLatin1_aae02_17 : decode cJ0_isLatin1_aae02 17 = .ok (.iconst 0, 1) := by decide +kernel
theorem dJ0_isLatin1_aae02_18 : decode cJ0_isLatin1_aae02 18 = .ok (.ireturn, 1) := by decide +kernel
theorem dJ0_checkIndex_df160_0 : decode cJ0_checkIndex_df160 0 = .ok (.iload_n 0, 1) := by decide +kernel
theorem dJ0_checkIndex_df160_1 : decode cJ0_checkIndex_df160 1 = .ok (.iload_n 1, 1) := by decide +kernel
theorem dJ0_checkIndex_df160_2 : decode cJ0_checkIndex_df160 2 = .ok (.getstatic 1053, 3) := by decide +kernel
theorem dJ0_checkIndex_df160_5 : decode cJ0_checkIndex_df160 5 = .ok (.invokestatic 1059, 3) := by decide +kernel
theorem dJ0_checkIndex_df160_8 : decode cJ0_checkIndex_df160 8 = .ok (.pop, 1) := by decide +kernel
theorem dJ0_checkIndex_df160_9 : decode cJ0_checkIndex_df160 9 = .ok (.return_, 1) := by decide +kernel
theorem dJ1_charAt_3b067_0 : decode cJ1_charAt_3b067 0 = .ok (.iload_n 1, 1) := by decide +kernel
theorem dJ1_charAt_3b067_1 : decode cJ1_charAt_3b067 1 = .ok (.aload_n 0, 1) := by decide +kernel
theorem dJ1_charAt_3b067_2 : decode cJ1_charAt_3b067 2 = .ok (.arraylength, 1) := by decide +kernel
theorem dJ1_charAt_3b067_3 : decode cJ1_charAt_3b067 3 = .ok (.invokestatic 9, 3) := by decide +kernel
theorem dJ1_charAt_3b067_6 : decode cJ1_charAt_3b067 6 = .ok (.aload_n 0, 1) := by decide +kernel
theorem dJ1_charAt_3b067_7 : decode cJ1_charAt_3b067 7 = .ok (.iload_n 1, 1) := by decide +kernel
theorem dJ1_charAt_3b067_8 : decode cJ1_charAt_3b067 8 = .ok (.baload, 1) := by decide +kernel
theorem dJ1_charAt_3b067_9 : decode cJ1_charAt_3b067 9 = .ok (.sipush 255, 3) := by decide +kernel
theorem dJ1_charAt_3b067_12 : decode cJ1_charAt_3b067 12 = .ok (.iand, 1) := by decide +kernel
theorem dJ1_charAt_3b067_13 : decode cJ1_charAt_3b067 13 = .ok (.i2c, 1) := by decide +kernel
theorem dJ1_charAt_3b067_14 : decode cJ1_charAt_3b067 14 = .ok (.ireturn, 1) := by decide +kernel
theorem dJ2_getChar_3b067_0 : decode cJ2_getChar_3b067 0 = .ok (.getstatic 44, 3) := by decide +kernel
theorem dJ2_getChar_3b067_3 : decode cJ2_getChar_3b067 3 = .ok (.ifCond .ne 25, 3) := by decide +kernel
theorem dJ2_getChar_3b067_6 : decode cJ2_getChar_3b067 6 = .ok (.iload_n 1, 1) := by decide +kernel
theorem dJ2_getChar_3b067_7 : decode cJ2_getChar_3b067 7 = .ok (.ifCond .lt 11, 3) := by decide +kernel
theorem dJ2_getChar_3b067_10 : decode cJ2_getChar_3b067 10 = .ok (.iload_n 1, 1) := by decide +kernel
theorem dJ2_getChar_3b067_11 : decode cJ2_getChar_3b067 11 = .ok (.aload_n 0, 1) := by decide +kernel
