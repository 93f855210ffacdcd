/-! rows that decode each instruction -/
theorem dX8_init_0 : decode cX8_init 0 = .ok (.aload_n 0, 1) := by decide +kernel
theorem dX8_init_1 : decode cX8_init 1 = .ok (.invokespecial 1, 3) := by decide +kernel
theorem dX8_init_4 : decode cX8_init 4 = .ok (.aload_n 0, 1) := by decide +kernel
theorem dX8_init_5 : decode cX8_init 5 = .ok (.bipush 8, 2) := by decide +kernel
theorem dX8_init_7 : decode cX8_init 7 = .ok (.newarray .int, 2) := by decide +kernel
theorem dX8_init_9 : decode cX8_init 9 = .ok (.putfield 7, 3) := by decide +kernel
theorem dX8_init_12 : decode cX8_init 12 = .ok (.aload_n 0, 1) := by decide +kernel
theorem dX8_init_13 : decode cX8_init 13 = .ok (.bipush 8, 2) := by decide +kernel
theorem dX8_init_15 : decode cX8_init 15 = .ok (.newarray .int, 2) := by decide +kernel
theorem dX8_init_17 : decode cX8_init 17 = .ok (.putfield 13, 3) := by decide +kernel
theorem dX8_init_20 : decode cX8_init 20 = .ok (.aload_n 0, 1) := by decide +kernel
theorem dX8_init_21 : decode cX8_init 21 = .ok (.bipush 8, 2) := by decide +kernel
theorem dX8_init_23 : decode cX8_init 23 = .ok (.newarray .int, 2) := by decide +kernel
theorem dX8_init_25 : decode cX8_init 25 = .ok (.putfield 16, 3) := by decide +kernel
theorem dX8_init_28 : decode cX8_init 28 = .ok (.aload_n 0, 1) := by decide +kernel
theorem dX8_init_29 : decode cX8_init 29 = .ok (.bipush 8, 2) := by decide +kernel
theorem dX8_init_31 : decode cX8_init 31 = .ok (.bipush 40, 2) := by decide +kernel
theorem dX8_init_33 : decode cX8_init 33 = .ok (.multianewarray 19 2, 4) := by decide +kernel
theorem dX8_init_37 : decode cX8_init 37 = .ok (.putfield 21, 3) := by decide +kernel
theorem dX8_init_40 : decode cX8_init 40 = .ok (.aload_n 0, 1) := by decide +kernel
theorem dX8_init_41 : decode cX8_init 41 = .ok (.bipush 40, 2) := by decide +kernel
theorem dX8_init_43 : decode cX8_init 43 = .ok (.newarray .long, 2) := by decide +kernel
theorem dX8_init_45 : decode cX8_init 45 = .ok (.putfield 24, 3) := by decide +kernel
theorem dX8_init_48 : decode cX8_init 48 = .ok (.aload_n 0, 1) := by decide +kernel
theorem dX8_init_49 : decode cX8_init 49 = .ok (.bipush 8, 2) := by decide +kernel
theorem dX8_init_51 : decode cX8_init 51 = .ok (.newarray .int, 2) := by decide +kernel
theorem dX8_init_53 : decode cX8_init 53 = .ok (.putfield 28, 3) := by decide +kernel
theorem dX8_init_56 : decode cX8_init 56 = .ok (.aload_n 0, 1) := by decide +kernel
theorem dX8_init_57 : decode cX8_init 57 = .ok (.sipush 250, 3) := by decide +kernel
theorem dX8_init_60 : decode cX8_init 60 = .ok (.newarray .int, 2) := by decide +kernel
theorem dX8_init_62 : decode cX8_init 62 = .ok (.putfield 31, 3) := by decide +kernel
theorem dX8_init_65 : decode cX8_init 65 = .ok (.aload_n 0, 1) := by decide +kernel
theorem dX8_init_66 : decode cX8_init 66 = .ok (.bipush 8, 2) := by decide +kernel
theorem dX8_init_68 : decode cX8_init 68 = .ok (.newarray .int, 2) := by decide +kernel
theorem dX8_init_70 : decode cX8_init 70 = .ok (.putfield 34, 3) := by decide +kernel
theorem dX8_init_73 : decode cX8_init 73 = .ok (.aload_n 0, 1) := by decide +kernel
theorem dX8_init_74 : decode cX8_init 74 = .ok (.iconst 3, 1) := by decide +kernel
theorem dX8_init_75 : decode cX8_init 75 = .ok (.putfield 37, 3) := by decide +kernel
theorem dX8_init_78 : decode cX8_init 78 = .ok (.aload_n 0, 1) := by decide +kernel
theorem dX8_init_79 : decode cX8_init 79 = .ok (.bipush 12, 2) := by decide +kernel
theorem dX8_init_81 : decode cX8_init 81 = .ok (.newarray .int, 2) := by decide +kernel
theorem dX8_init_83 : decode cX8_init 83 = .ok (.putfield 41, 3) := by decide +kernel
theorem dX8_init_86 : decode cX8_init 86 = .ok (.aload_n 0, 1) := by decide +kernel
theorem dX8_init_87 : decode cX8_init 87 = .ok (.bipush 12, 2) := by decide +kernel
theorem dX8_init_89 : decode cX8_init 89 = .ok (.newarray .int, 2) := by decide +kernel
theorem dX8_init_91 : decode cX8_init 91 = .ok (.putfield 44, 3) := by decide +kernel
theorem dX8_init_94 : decode cX8_init 94 = .ok (.aload_n 0, 1) := by decide +kernel
theorem dX8_init_95 : decode cX8_init 95 = .ok (.bipush 12, 2) := by decide +kernel
theorem dX8_init_97 : decode cX8_init 97 = .ok (.newarray .int, 2) := by decide +kernel
theorem dX8_init_99 : decode cX8_init 99 = .ok (.putfield 47, 3) := by decide +kernel
theorem dX8_init_102 : decode cX8_init 102 = .ok (.aload_n 0, 1) := by decide +kernel
theorem dX8_init_103 : decode cX8_init 103 = .ok (.bipush 12, 2) := by decide +kernel
theorem dX8_init_105 : decode cX8_init 105 = .ok (.newarray .int, 2) := by decide +kernel
theorem dX8_init_107 : decode cX8_init 107 = .ok (.putfield 50, 3) := by decide +kernel
theorem dX8_init_110 : decode cX8_init 110 = .ok (.aload_n 0, 1) := by decide +kernel
theorem dX8_init_111 : decode cX8_init 111 = .ok (.bipush 8, 2) := by decide +kernel
theorem dX8_init_113 : decode cX8_init 113 = .ok (.putfield 53, 3) := by decide +kernel
theorem dX8_init_116 : decode cX8_init 116 = .ok (.aload_n 0, 1) := by decide +kernel
theorem dX8_init_117 : decode cX8_init 117 = .ok (.iconst 4, 1) := by decide +kernel
theorem dX8_init_118 : decode cX8_init 118 = .ok (.putfield 56, 3) := by decide +kernel
theorem dX8_init_121 : decode cX8_init 121 = .ok (.aload_n 0, 1) := by decide +kernel
theorem dX8_init_122 : decode cX8_init 122 = .ok (.sipush 300, 3) := by decide +kernel
theorem dX8_init_125 : decode cX8_init 125 = .ok (.putfield 59, 3) := by decide +kernel
theorem dX8_init_128 : decode cX8_init 128 = .ok (.aload_n 0, 1) := by decide +kernel
theorem dX8_init_129 : decode cX8_init 129 = .ok (.bipush 16, 2) := by decide +kernel
theorem dX8_init_131 : decode cX8_init 131 = .ok (.newarray .int, 2) := by decide +kernel
theorem dX8_init_133 : decode cX8_init 133 = .ok (.putfield 62, 3) := by decide +kernel
theorem dX8_init_136 : decode cX8_init 136 = .ok (.aload_n 0, 1) := by decide +kernel
theorem dX8_init_137 : decode cX8_init 137 = .ok (.bipush 16, 2) := by decide +kernel
theorem dX8_init_139 : decode cX8_init 139 = .ok (.newarray .int, 2) := by decide +kernel
theorem dX8_init_141 : decode cX8_init 141 = .ok (.putfield 65, 3) := by decide +kernel
theorem dX8_init_144 : decode cX8_init 144 = .ok (.aload_n 0, 1) := by decide +kernel
theorem dX8_init_145 : decode cX8_init 145 = .ok (.bipush 16, 2) := by decide +kernel
theorem dX8_init_147 : decode cX8_init 147 = .ok (.newarray .int, 2) := by decide +kernel
theorem dX8_init_149 : decode cX8_init 149 = .ok (.putfield 68, 3) := by decide +kernel
theorem dX8_init_152 : decode cX8_init 152 = .ok (.aload_n 0, 1) := by decide +kernel
theorem dX8_init_153 : decode cX8_init 153 = .ok (.iconst 1, 1) := by decide +kernel
theorem dX8_init_154 : decode cX8_init 154 = .ok (.putfield 71, 3) := by decide +kernel
theorem dX8_init_157 : decode cX8_init 157 = .ok (.aload_n 0, 1) := by decide +kernel
theorem dX8_init_158 : decode cX8_init 158 = .ok (.iconst 3, 1) := by decide +kernel
theorem dX8_init_159 : decode cX8_init 159 = .ok (.newarray .int, 2) := by decide +kernel
theorem dX8_init_161 : decode cX8_init 161 = .ok (.putfield 74, 3) := by decide +kernel
theorem dX8_init_164 : decode cX8_init 164 = .ok (.aload_n 0, 1) := by decide +kernel
theorem dX8_init_165 : decode cX8_init 165 = .ok (.bipush 12, 2) := by decide +kernel
theorem dX8_init_167 : decode cX8_init 167 = .ok (.newarray .int, 2) := by decide +kernel
theorem dX8_init_169 : decode cX8_init 169 = .ok (.putfield 77, 3) := by decide +kernel
theorem dX8_init_172 : decode cX8_init 172 = .ok (.aload_n 0, 1) := by decide +kernel
theorem dX8_init_173 : decode cX8_init 173 = .ok (.bipush 12, 2) := by decide +kernel
theorem dX8_init_175 : decode cX8_init 175 = .ok (.newarray .int, 2) := by decide +kernel
theorem dX8_init_177 : decode cX8_init 177 = .ok (.putfield 80, 3) := by decide +kernel
theorem dX8_init_180 : decode cX8_init 180 = .ok (.aload_n 0, 1) := by decide +kernel
theorem dX8_init_181 : decode cX8_init 181 = .ok (.sipush 1000, 3) := by decide +kernel
theorem dX8_init_184 : decode cX8_init 184 = .ok (.newarray .int, 2) := by decide +kernel
theorem dX8_init_186 : decode cX8_init 186 = .ok (.putfield 83, 3) := by decide +kernel
theorem dX8_init_189 : decode cX8_init 189 = .ok (.aload_n 0, 1) := by decide +kernel
theorem dX8_init_190 : decode cX8_init 190 = .ok (.sipush 1000, 3) := by decide +kernel
theorem dX8_init_193 : decode cX8_init 193 = .ok (.newarray .int, 2) := by decide +kernel
theorem dX8_init_195 : decode cX8_init 195 = .ok (.putfield 86, 3) := by decide +kernel
theorem dX8_init_198 : decode cX8_init 198 = .ok (.aload_n 0, 1) := by decide +kernel
theorem dX8_init_199 : decode cX8_init 199 = .ok (.sipush 1000, 3) := by decide +kernel
theorem dX8_init_202 : decode cX8_init 202 = .ok (.newarray .int, 2) := by decide +kernel
theorem dX8_init_204 : decode cX8_init 204 = .ok (.putfield 89, 3) := by decide +kernel
theorem dX8_init_207 : decode cX8_init 207 = .ok (.aload_n 0, 1) := by decide +kernel
theorem dX8_init_208 : decode cX8_init 208 = .ok (.sipush 1000, 3) := by decide +kernel
theorem dX8_init_211 : decode cX8_init 211 = .ok (.newarray .int, 2) := by decide +kernel
theorem dX8_init_213 : decode cX8_init 213 = .ok (.putfield 92, 3) := by decide +kernel
theorem dX8_init_216 : decode cX8_init 216 = .ok (.return_, 1) := by decide +kernel
theorem dX8_refuse_0 : decode cX8_refuse 0 = .ok (.aload_n 0, 1) := by decide +kernel
theorem dX8_refuse_1 : decode cX8_refuse 1 = .ok (.getfield 34, 3) := by decide +kernel
theorem dX8_refuse_4 : decode cX8_refuse 4 = .ok (.iload_n 1, 1) := by decide +kernel
theorem dX8_refuse_5 : decode cX8_refuse 5 = .ok (.ineg, 1) := by decide +kernel
theorem dX8_refuse_6 : decode cX8_refuse 6 = .ok (.dup2, 1) := by decide +kernel
theorem dX8_refuse_7 : decode cX8_refuse 7 = .ok (.iaload, 1) := by decide +kernel
theorem dX8_refuse_8 : decode cX8_refuse 8 = .ok (.iconst 1, 1) := by decide +kernel
theorem dX8_refuse_9 : decode cX8_refuse 9 = .ok (.iadd, 1) := by decide +kernel
theorem dX8_refuse_10 : decode cX8_refuse 10 = .ok (.iastore, 1) := by decide +kernel
theorem dX8_refuse_11 : decode cX8_refuse 11 = .ok (.iload_n 1, 1) := by decide +kernel
theorem dX8_refuse_12 : decode cX8_refuse 12 = .ok (.ireturn, 1) := by decide +kernel
theorem dX8_in_0 : decode cX8_in 0 = .ok (.lload_n 0, 1) := by decide +kernel
theorem dX8_in_1 : decode cX8_in 1 = .ok (.lload_n 2, 1) := by decide +kernel
theorem dX8_in_2 : decode cX8_in 2 = .ok (.lcmp, 1) := by decide +kernel
theorem dX8_in_3 : decode cX8_in 3 = .ok (.ifCond .lt 14, 3) := by decide +kernel
theorem dX8_in_6 : decode cX8_in 6 = .ok (.lload_n 0, 1) := by decide +kernel
theorem dX8_in_7 : decode cX8_in 7 = .ok (.lload 4, 2) := by decide +kernel
theorem dX8_in_9 : decode cX8_in 9 = .ok (.lcmp, 1) := by decide +kernel
theorem dX8_in_10 : decode cX8_in 10 = .ok (.ifCond .gt 7, 3) := by decide +kernel
theorem dX8_in_13 : decode cX8_in 13 = .ok (.iconst 1, 1) := by decide +kernel
theorem dX8_in_14 : decode cX8_in 14 = .ok (.goto 4, 3) := by decide +kernel
theorem dX8_in_17 : decode cX8_in 17 = .ok (.iconst 0, 1) := by decide +kernel
theorem dX8_in_18 : decode cX8_in 18 = .ok (.ireturn, 1) := by decide +kernel
theorem dX8_isPupil_0 : decode cX8_isPupil 0 = .ok (.lload_n 1, 1) := by decide +kernel
theorem dX8_isPupil_1 : decode cX8_isPupil 1 = .ok (.lconst 0, 1) := by decide +kernel
theorem dX8_isPupil_2 : decode cX8_isPupil 2 = .ok (.aload_n 0, 1) := by decide +kernel
theorem dX8_isPupil_3 : decode cX8_isPupil 3 = .ok (.getfield 95, 3) := by decide +kernel
theorem dX8_isPupil_6 : decode cX8_isPupil 6 = .ok (.iconst 1, 1) := by decide +kernel
theorem dX8_isPupil_7 : decode cX8_isPupil 7 = .ok (.isub, 1) := by decide +kernel
theorem dX8_isPupil_8 : decode cX8_isPupil 8 = .ok (.i2l, 1) := by decide +kernel
theorem dX8_isPupil_9 : decode cX8_isPupil 9 = .ok (.invokestatic 98, 3) := by decide +kernel
theorem dX8_isPupil_12 : decode cX8_isPupil 12 = .ok (.ireturn, 1) := by decide +kernel
theorem dX8_isDesk_0 : decode cX8_isDesk 0 = .ok (.iload_n 1, 1) := by decide +kernel
theorem dX8_isDesk_1 : decode cX8_isDesk 1 = .ok (.i2l, 1) := by decide +kernel
theorem dX8_isDesk_2 : decode cX8_isDesk 2 = .ok (.lconst 0, 1) := by decide +kernel
theorem dX8_isDesk_3 : decode cX8_isDesk 3 = .ok (.iconst 4, 1) := by decide +kernel
theorem dX8_isDesk_4 : decode cX8_isDesk 4 = .ok (.aload_n 0, 1) := by decide +kernel
theorem dX8_isDesk_5 : decode cX8_isDesk 5 = .ok (.getfield 37, 3) := by decide +kernel
theorem dX8_isDesk_8 : decode cX8_isDesk 8 = .ok (.imul, 1) := by decide +kernel
theorem dX8_isDesk_9 : decode cX8_isDesk 9 = .ok (.iconst 1, 1) := by decide +kernel
theorem dX8_isDesk_10 : decode cX8_isDesk 10 = .ok (.isub, 1) := by decide +kernel
theorem dX8_isDesk_11 : decode cX8_isDesk 11 = .ok (.i2l, 1) := by decide +kernel
theorem dX8_isDesk_12 : decode cX8_isDesk 12 = .ok (.invokestatic 98, 3) := by decide +kernel
theorem dX8_isDesk_15 : decode cX8_isDesk 15 = .ok (.ireturn, 1) := by decide +kernel
theorem dX8_areTwo_0 : decode cX8_areTwo 0 = .ok (.aload_n 0, 1) := by decide +kernel
theorem dX8_areTwo_1 : decode cX8_areTwo 1 = .ok (.iload_n 1, 1) := by decide +kernel
theorem dX8_areTwo_2 : decode cX8_areTwo 2 = .ok (.i2l, 1) := by decide +kernel
theorem dX8_areTwo_3 : decode cX8_areTwo 3 = .ok (.invokevirtual 102, 3) := by decide +kernel
theorem dX8_areTwo_6 : decode cX8_areTwo 6 = .ok (.ifCond .eq 21, 3) := by decide +kernel
theorem dX8_areTwo_9 : decode cX8_areTwo 9 = .ok (.aload_n 0, 1) := by decide +kernel
theorem dX8_areTwo_10 : decode cX8_areTwo 10 = .ok (.iload_n 2, 1) := by decide +kernel
theorem dX8_areTwo_11 : decode cX8_areTwo 11 = .ok (.i2l, 1) := by decide +kernel
theorem dX8_areTwo_12 : decode cX8_areTwo 12 = .ok (.invokevirtual 102, 3) := by decide +kernel
theorem dX8_areTwo_15 : decode cX8_areTwo 15 = .ok (.ifCond .eq 12, 3) := by decide +kernel
theorem dX8_areTwo_18 : decode cX8_areTwo 18 = .ok (.iload_n 1, 1) := by decide +kernel
theorem dX8_areTwo_19 : decode cX8_areTwo 19 = .ok (.iload_n 2, 1) := by decide +kernel
theorem dX8_areTwo_20 : decode cX8_areTwo 20 = .ok (.if_icmp .eq 7, 3) := by decide +kernel
theorem dX8_areTwo_23 : decode cX8_areTwo 23 = .ok (.iconst 1, 1) := by decide +kernel
theorem dX8_areTwo_24 : decode cX8_areTwo 24 = .ok (.goto 4, 3) := by decide +kernel
theorem dX8_areTwo_27 : decode cX8_areTwo 27 = .ok (.iconst 0, 1) := by decide +kernel
theorem dX8_areTwo_28 : decode cX8_areTwo 28 = .ok (.ireturn, 1) := by decide +kernel
theorem dX8_has_0 : decode cX8_has 0 = .ok (.iload_n 0, 1) := by decide +kernel
theorem dX8_has_1 : decode cX8_has 1 = .ok (.iload_n 1, 1) := by decide +kernel
theorem dX8_has_2 : decode cX8_has 2 = .ok (.ishr, 1) := by decide +kernel
theorem dX8_has_3 : decode cX8_has 3 = .ok (.iconst 1, 1) := by decide +kernel
theorem dX8_has_4 : decode cX8_has 4 = .ok (.iand, 1) := by decide +kernel
theorem dX8_has_5 : decode cX8_has 5 = .ok (.ifCond .eq 7, 3) := by decide +kernel
theorem dX8_has_8 : decode cX8_has 8 = .ok (.iconst 1, 1) := by decide +kernel
theorem dX8_has_9 : decode cX8_has 9 = .ok (.goto 4, 3) := by decide +kernel
theorem dX8_has_12 : decode cX8_has 12 = .ok (.iconst 0, 1) := by decide +kernel
theorem dX8_has_13 : decode cX8_has 13 = .ok (.ireturn, 1) := by decide +kernel
theorem dX8_bits_0 : decode cX8_bits 0 = .ok (.iconst 0, 1) := by decide +kernel
theorem dX8_bits_1 : decode cX8_bits 1 = .ok (.istore_n 1, 1) := by decide +kernel
theorem dX8_bits_2 : decode cX8_bits 2 = .ok (.iload_n 0, 1) := by decide +kernel
theorem dX8_bits_3 : decode cX8_bits 3 = .ok (.istore_n 2, 1) := by decide +kernel
theorem dX8_bits_4 : decode cX8_bits 4 = .ok (.iload_n 2, 1) := by decide +kernel
theorem dX8_bits_5 : decode cX8_bits 5 = .ok (.ifCond .eq 15, 3) := by decide +kernel
theorem dX8_bits_8 : decode cX8_bits 8 = .ok (.iinc 1 1, 3) := by decide +kernel
theorem dX8_bits_11 : decode cX8_bits 11 = .ok (.iload_n 2, 1) := by decide +kernel
theorem dX8_bits_12 : decode cX8_bits 12 = .ok (.iload_n 2, 1) := by decide +kernel
theorem dX8_bits_13 : decode cX8_bits 13 = .ok (.iconst 1, 1) := by decide +kernel
theorem dX8_bits_14 : decode cX8_bits 14 = .ok (.isub, 1) := by decide +kernel
theorem dX8_bits_15 : decode cX8_bits 15 = .ok (.iand, 1) := by decide +kernel
theorem dX8_bits_16 : decode cX8_bits 16 = .ok (.istore_n 2, 1) := by decide +kernel
theorem dX8_bits_17 : decode cX8_bits 17 = .ok (.goto (-13), 3) := by decide +kernel
theorem dX8_bits_20 : decode cX8_bits 20 = .ok (.iload_n 1, 1) := by decide +kernel
theorem dX8_bits_21 : decode cX8_bits 21 = .ok (.ireturn, 1) := by decide +kernel
theorem dX8_sitting_0 : decode cX8_sitting 0 = .ok (.iconst 0, 1) := by decide +kernel
theorem dX8_sitting_1 : decode cX8_sitting 1 = .ok (.istore_n 2, 1) := by decide +kernel
theorem dX8_sitting_2 : decode cX8_sitting 2 = .ok (.iload_n 2, 1) := by decide +kernel
theorem dX8_sitting_3 : decode cX8_sitting 3 = .ok (.aload_n 0, 1) := by decide +kernel
theorem dX8_sitting_4 : decode cX8_sitting 4 = .ok (.getfield 95, 3) := by decide +kernel
theorem dX8_sitting_7 : decode cX8_sitting 7 = .ok (.if_icmp .ge 21, 3) := by decide +kernel
theorem dX8_sitting_10 : decode cX8_sitting 10 = .ok (.aload_n 0, 1) := by decide +kernel
theorem dX8_sitting_11 : decode cX8_sitting 11 = .ok (.getfield 44, 3) := by decide +kernel
theorem dX8_sitting_14 : decode cX8_sitting 14 = .ok (.iload_n 2, 1) := by decide +kernel
theorem dX8_sitting_15 : decode cX8_sitting 15 = .ok (.iaload, 1) := by decide +kernel
theorem dX8_sitting_16 : decode cX8_sitting 16 = .ok (.iload_n 1, 1) := by decide +kernel
theorem dX8_sitting_17 : decode cX8_sitting 17 = .ok (.if_icmp .ne 5, 3) := by decide +kernel
theorem dX8_sitting_20 : decode cX8_sitting 20 = .ok (.iload_n 2, 1) := by decide +kernel
theorem dX8_sitting_21 : decode cX8_sitting 21 = .ok (.ireturn, 1) := by decide +kernel
theorem dX8_sitting_22 : decode cX8_sitting 22 = .ok (.iinc 2 1, 3) := by decide +kernel
theorem dX8_sitting_25 : decode cX8_sitting 25 = .ok (.goto (-23), 3) := by decide +kernel
theorem dX8_sitting_28 : decode cX8_sitting 28 = .ok (.iconst (-1), 1) := by decide +kernel
theorem dX8_sitting_29 : decode cX8_sitting 29 = .ok (.ireturn, 1) := by decide +kernel
theorem dX8_row_0 : decode cX8_row 0 = .ok (.iload_n 1, 1) := by decide +kernel
theorem dX8_row_1 : decode cX8_row 1 = .ok (.i2l, 1) := by decide +kernel
theorem dX8_row_2 : decode cX8_row 2 = .ok (.lconst 0, 1) := by decide +kernel
theorem dX8_row_3 : decode cX8_row 3 = .ok (.ldc2_w 106, 3) := by decide +kernel
theorem dX8_row_6 : decode cX8_row 6 = .ok (.invokestatic 98, 3) := by decide +kernel
theorem dX8_row_9 : decode cX8_row 9 = .ok (.ifCond .eq 27, 3) := by decide +kernel
theorem dX8_row_12 : decode cX8_row 12 = .ok (.iload_n 2, 1) := by decide +kernel
theorem dX8_row_13 : decode cX8_row 13 = .ok (.i2l, 1) := by decide +kernel
theorem dX8_row_14 : decode cX8_row 14 = .ok (.lconst 0, 1) := by decide +kernel
theorem dX8_row_15 : decode cX8_row 15 = .ok (.ldc2_w 108, 3) := by decide +kernel
theorem dX8_row_18 : decode cX8_row 18 = .ok (.invokestatic 98, 3) := by decide +kernel
theorem dX8_row_21 : decode cX8_row 21 = .ok (.ifCond .eq 15, 3) := by decide +kernel
theorem dX8_row_24 : decode cX8_row 24 = .ok (.iload_n 3, 1) := by decide +kernel
theorem dX8_row_25 : decode cX8_row 25 = .ok (.i2l, 1) := by decide +kernel
theorem dX8_row_26 : decode cX8_row 26 = .ok (.lconst 0, 1) := by decide +kernel
theorem dX8_row_27 : decode cX8_row 27 = .ok (.ldc2_w 110, 3) := by decide +kernel
theorem dX8_row_30 : decode cX8_row 30 = .ok (.invokestatic 98, 3) := by decide +kernel
theorem dX8_row_33 : decode cX8_row 33 = .ok (.ifCond .ne 10, 3) := by decide +kernel
theorem dX8_row_36 : decode cX8_row 36 = .ok (.aload_n 0, 1) := by decide +kernel
theorem dX8_row_37 : decode cX8_row 37 = .ok (.bipush (-2), 2) := by decide +kernel
theorem dX8_row_39 : decode cX8_row 39 = .ok (.invokevirtual 112, 3) := by decide +kernel
theorem dX8_row_42 : decode cX8_row 42 = .ok (.ireturn, 1) := by decide +kernel
theorem dX8_row_43 : decode cX8_row 43 = .ok (.aload_n 0, 1) := by decide +kernel
theorem dX8_row_44 : decode cX8_row 44 = .ok (.getfield 7, 3) := by decide +kernel
theorem dX8_row_47 : decode cX8_row 47 = .ok (.iload_n 1, 1) := by decide +kernel
theorem dX8_row_48 : decode cX8_row 48 = .ok (.iconst 1, 1) := by decide +kernel
theorem dX8_row_49 : decode cX8_row 49 = .ok (.iastore, 1) := by decide +kernel
theorem dX8_row_50 : decode cX8_row 50 = .ok (.aload_n 0, 1) := by decide +kernel
theorem dX8_row_51 : decode cX8_row 51 = .ok (.getfield 13, 3) := by decide +kernel
theorem dX8_row_54 : decode cX8_row 54 = .ok (.iload_n 1, 1) := by decide +kernel
theorem dX8_row_55 : decode cX8_row 55 = .ok (.iload_n 2, 1) := by decide +kernel
theorem dX8_row_56 : decode cX8_row 56 = .ok (.iastore, 1) := by decide +kernel
theorem dX8_row_57 : decode cX8_row 57 = .ok (.aload_n 0, 1) := by decide +kernel
theorem dX8_row_58 : decode cX8_row 58 = .ok (.getfield 16, 3) := by decide +kernel
theorem dX8_row_61 : decode cX8_row 61 = .ok (.iload_n 1, 1) := by decide +kernel
theorem dX8_row_62 : decode cX8_row 62 = .ok (.iload_n 3, 1) := by decide +kernel
theorem dX8_row_63 : decode cX8_row 63 = .ok (.iastore, 1) := by decide +kernel
theorem dX8_row_64 : decode cX8_row 64 = .ok (.iconst 0, 1) := by decide +kernel
theorem dX8_row_65 : decode cX8_row 65 = .ok (.istore 4, 2) := by decide +kernel
theorem dX8_row_67 : decode cX8_row 67 = .ok (.iload 4, 2) := by decide +kernel
theorem dX8_row_69 : decode cX8_row 69 = .ok (.bipush 40, 2) := by decide +kernel
theorem dX8_row_71 : decode cX8_row 71 = .ok (.if_icmp .ge 19, 3) := by decide +kernel
theorem dX8_row_74 : decode cX8_row 74 = .ok (.aload_n 0, 1) := by decide +kernel
theorem dX8_row_75 : decode cX8_row 75 = .ok (.getfield 21, 3) := by decide +kernel
theorem dX8_row_78 : decode cX8_row 78 = .ok (.iload_n 1, 1) := by decide +kernel
theorem dX8_row_79 : decode cX8_row 79 = .ok (.aaload, 1) := by decide +kernel
theorem dX8_row_80 : decode cX8_row 80 = .ok (.iload 4, 2) := by decide +kernel
theorem dX8_row_82 : decode cX8_row 82 = .ok (.lconst 0, 1) := by decide +kernel
theorem dX8_row_83 : decode cX8_row 83 = .ok (.lastore, 1) := by decide +kernel
theorem dX8_row_84 : decode cX8_row 84 = .ok (.iinc 4 1, 3) := by decide +kernel
theorem dX8_row_87 : decode cX8_row 87 = .ok (.goto (-20), 3) := by decide +kernel
theorem dX8_row_90 : decode cX8_row 90 = .ok (.iconst 1, 1) := by decide +kernel
theorem dX8_row_91 : decode cX8_row 91 = .ok (.ireturn, 1) := by decide +kernel
theorem dX8_fit_0 : decode cX8_fit 0 = .ok (.iload_n 0, 1) := by decide +kernel
theorem dX8_fit_1 : decode cX8_fit 1 = .ok (.tableswitch 47 0 3 #[31, 36, 41, 45], 31) := by decide +kernel
theorem dX8_fit_32 : decode cX8_fit 32 = .ok (.lload_n 1, 1) := by decide +kernel
theorem dX8_fit_33 : decode cX8_fit 33 = .ok (.l2i, 1) := by decide +kernel
theorem dX8_fit_34 : decode cX8_fit 34 = .ok (.i2b, 1) := by decide +kernel
theorem dX8_fit_35 : decode cX8_fit 35 = .ok (.i2l, 1) := by decide +kernel
theorem dX8_fit_36 : decode cX8_fit 36 = .ok (.lreturn, 1) := by decide +kernel
theorem dX8_fit_37 : decode cX8_fit 37 = .ok (.lload_n 1, 1) := by decide +kernel
theorem dX8_fit_38 : decode cX8_fit 38 = .ok (.l2i, 1) := by decide +kernel
theorem dX8_fit_39 : decode cX8_fit 39 = .ok (.i2s, 1) := by decide +kernel
theorem dX8_fit_40 : decode cX8_fit 40 = .ok (.i2l, 1) := by decide +kernel
theorem dX8_fit_41 : decode cX8_fit 41 = .ok (.lreturn, 1) := by decide +kernel
theorem dX8_fit_42 : decode cX8_fit 42 = .ok (.lload_n 1, 1) := by decide +kernel
theorem dX8_fit_43 : decode cX8_fit 43 = .ok (.l2i, 1) := by decide +kernel
theorem dX8_fit_44 : decode cX8_fit 44 = .ok (.i2l, 1) := by decide +kernel
theorem dX8_fit_45 : decode cX8_fit 45 = .ok (.lreturn, 1) := by decide +kernel
theorem dX8_fit_46 : decode cX8_fit 46 = .ok (.lload_n 1, 1) := by decide +kernel
theorem dX8_fit_47 : decode cX8_fit 47 = .ok (.lreturn, 1) := by decide +kernel
theorem dX8_fit_48 : decode cX8_fit 48 = .ok (.lload_n 1, 1) := by decide +kernel
theorem dX8_fit_49 : decode cX8_fit 49 = .ok (.lconst 0, 1) := by decide +kernel
theorem dX8_fit_50 : decode cX8_fit 50 = .ok (.lcmp, 1) := by decide +kernel
theorem dX8_fit_51 : decode cX8_fit 51 = .ok (.ifCond .eq 7, 3) := by decide +kernel
theorem dX8_fit_54 : decode cX8_fit 54 = .ok (.lconst 1, 1) := by decide +kernel
theorem dX8_fit_55 : decode cX8_fit 55 = .ok (.goto 4, 3) := by decide +kernel
theorem dX8_fit_58 : decode cX8_fit 58 = .ok (.lconst 0, 1) := by decide +kernel
theorem dX8_fit_59 : decode cX8_fit 59 = .ok (.lreturn, 1) := by decide +kernel
theorem dX8_noRow_0 : decode cX8_noRow 0 = .ok (.iload_n 1, 1) := by decide +kernel
theorem dX8_noRow_1 : decode cX8_noRow 1 = .ok (.i2l, 1) := by decide +kernel
theorem dX8_noRow_2 : decode cX8_noRow 2 = .ok (.lconst 0, 1) := by decide +kernel
theorem dX8_noRow_3 : decode cX8_noRow 3 = .ok (.ldc2_w 106, 3) := by decide +kernel
theorem dX8_noRow_6 : decode cX8_noRow 6 = .ok (.invokestatic 98, 3) := by decide +kernel
theorem dX8_noRow_9 : decode cX8_noRow 9 = .ok (.ifCond .ne 10, 3) := by decide +kernel
theorem dX8_noRow_12 : decode cX8_noRow 12 = .ok (.aload_n 0, 1) := by decide +kernel
theorem dX8_noRow_13 : decode cX8_noRow 13 = .ok (.bipush (-2), 2) := by decide +kernel
theorem dX8_noRow_15 : decode cX8_noRow 15 = .ok (.invokevirtual 112, 3) := by decide +kernel
theorem dX8_noRow_18 : decode cX8_noRow 18 = .ok (.ireturn, 1) := by decide +kernel
theorem dX8_noRow_19 : decode cX8_noRow 19 = .ok (.aload_n 0, 1) := by decide +kernel
theorem dX8_noRow_20 : decode cX8_noRow 20 = .ok (.getfield 7, 3) := by decide +kernel
theorem dX8_noRow_23 : decode cX8_noRow 23 = .ok (.iload_n 1, 1) := by decide +kernel
theorem dX8_noRow_24 : decode cX8_noRow 24 = .ok (.iaload, 1) := by decide +kernel
theorem dX8_noRow_25 : decode cX8_noRow 25 = .ok (.iconst 2, 1) := by decide +kernel
theorem dX8_noRow_26 : decode cX8_noRow 26 = .ok (.if_icmp .ne 10, 3) := by decide +kernel
theorem dX8_noRow_29 : decode cX8_noRow 29 = .ok (.aload_n 0, 1) := by decide +kernel
theorem dX8_noRow_30 : decode cX8_noRow 30 = .ok (.bipush (-3), 2) := by decide +kernel
theorem dX8_noRow_32 : decode cX8_noRow 32 = .ok (.invokevirtual 112, 3) := by decide +kernel
theorem dX8_noRow_35 : decode cX8_noRow 35 = .ok (.ireturn, 1) := by decide +kernel
theorem dX8_noRow_36 : decode cX8_noRow 36 = .ok (.aload_n 0, 1) := by decide +kernel
theorem dX8_noRow_37 : decode cX8_noRow 37 = .ok (.getfield 7, 3) := by decide +kernel
theorem dX8_noRow_40 : decode cX8_noRow 40 = .ok (.iload_n 1, 1) := by decide +kernel
theorem dX8_noRow_41 : decode cX8_noRow 41 = .ok (.iaload, 1) := by decide +kernel
theorem dX8_noRow_42 : decode cX8_noRow 42 = .ok (.ifCond .ne 12, 3) := by decide +kernel
theorem dX8_noRow_45 : decode cX8_noRow 45 = .ok (.aload_n 0, 1) := by decide +kernel
theorem dX8_noRow_46 : decode cX8_noRow 46 = .ok (.bipush (-4), 2) := by decide +kernel
theorem dX8_noRow_48 : decode cX8_noRow 48 = .ok (.invokevirtual 112, 3) := by decide +kernel
theorem dX8_noRow_51 : decode cX8_noRow 51 = .ok (.goto 4, 3) := by decide +kernel
theorem dX8_noRow_54 : decode cX8_noRow 54 = .ok (.iconst 0, 1) := by decide +kernel
theorem dX8_noRow_55 : decode cX8_noRow 55 = .ok (.ireturn, 1) := by decide +kernel
theorem dX8_set_0 : decode cX8_set 0 = .ok (.aload_n 0, 1) := by decide +kernel
theorem dX8_set_1 : decode cX8_set 1 = .ok (.iload_n 1, 1) := by decide +kernel
theorem dX8_set_2 : decode cX8_set 2 = .ok (.invokevirtual 116, 3) := by decide +kernel
theorem dX8_set_5 : decode cX8_set 5 = .ok (.istore 5, 2) := by decide +kernel
theorem dX8_set_7 : decode cX8_set 7 = .ok (.iload 5, 2) := by decide +kernel
theorem dX8_set_9 : decode cX8_set 9 = .ok (.ifCond .eq 6, 3) := by decide +kernel
theorem dX8_set_12 : decode cX8_set 12 = .ok (.iload 5, 2) := by decide +kernel
theorem dX8_set_14 : decode cX8_set 14 = .ok (.ireturn, 1) := by decide +kernel
theorem dX8_set_15 : decode cX8_set 15 = .ok (.iload_n 2, 1) := by decide +kernel
theorem dX8_set_16 : decode cX8_set 16 = .ok (.i2l, 1) := by decide +kernel
theorem dX8_set_17 : decode cX8_set 17 = .ok (.lconst 0, 1) := by decide +kernel
theorem dX8_set_18 : decode cX8_set 18 = .ok (.aload_n 0, 1) := by decide +kernel
theorem dX8_set_19 : decode cX8_set 19 = .ok (.getfield 16, 3) := by decide +kernel
theorem dX8_set_22 : decode cX8_set 22 = .ok (.iload_n 1, 1) := by decide +kernel
theorem dX8_set_23 : decode cX8_set 23 = .ok (.iaload, 1) := by decide +kernel
theorem dX8_set_24 : decode cX8_set 24 = .ok (.iconst 1, 1) := by decide +kernel
theorem dX8_set_25 : decode cX8_set 25 = .ok (.isub, 1) := by decide +kernel
theorem dX8_set_26 : decode cX8_set 26 = .ok (.i2l, 1) := by decide +kernel
theorem dX8_set_27 : decode cX8_set 27 = .ok (.invokestatic 98, 3) := by decide +kernel
theorem dX8_set_30 : decode cX8_set 30 = .ok (.ifCond .ne 10, 3) := by decide +kernel
theorem dX8_set_33 : decode cX8_set 33 = .ok (.aload_n 0, 1) := by decide +kernel
theorem dX8_set_34 : decode cX8_set 34 = .ok (.bipush (-2), 2) := by decide +kernel
theorem dX8_set_36 : decode cX8_set 36 = .ok (.invokevirtual 112, 3) := by decide +kernel
theorem dX8_set_39 : decode cX8_set 39 = .ok (.ireturn, 1) := by decide +kernel
theorem dX8_set_40 : decode cX8_set 40 = .ok (.aload_n 0, 1) := by decide +kernel
theorem dX8_set_41 : decode cX8_set 41 = .ok (.getfield 21, 3) := by decide +kernel
theorem dX8_set_44 : decode cX8_set 44 = .ok (.iload_n 1, 1) := by decide +kernel
theorem dX8_set_45 : decode cX8_set 45 = .ok (.aaload, 1) := by decide +kernel
theorem dX8_set_46 : decode cX8_set 46 = .ok (.iload_n 2, 1) := by decide +kernel
theorem dX8_set_47 : decode cX8_set 47 = .ok (.aload_n 0, 1) := by decide +kernel
theorem dX8_set_48 : decode cX8_set 48 = .ok (.getfield 13, 3) := by decide +kernel
theorem dX8_set_51 : decode cX8_set 51 = .ok (.iload_n 1, 1) := by decide +kernel
theorem dX8_set_52 : decode cX8_set 52 = .ok (.iaload, 1) := by decide +kernel
theorem dX8_set_53 : decode cX8_set 53 = .ok (.lload_n 3, 1) := by decide +kernel
theorem dX8_set_54 : decode cX8_set 54 = .ok (.invokestatic 119, 3) := by decide +kernel
theorem dX8_set_57 : decode cX8_set 57 = .ok (.lastore, 1) := by decide +kernel
theorem dX8_set_58 : decode cX8_set 58 = .ok (.iconst 1, 1) := by decide +kernel
theorem dX8_set_59 : decode cX8_set 59 = .ok (.ireturn, 1) := by decide +kernel
theorem dX8_copy_0 : decode cX8_copy 0 = .ok (.iload_n 1, 1) := by decide +kernel
theorem dX8_copy_1 : decode cX8_copy 1 = .ok (.i2l, 1) := by decide +kernel
theorem dX8_copy_2 : decode cX8_copy 2 = .ok (.lconst 0, 1) := by decide +kernel
theorem dX8_copy_3 : decode cX8_copy 3 = .ok (.ldc2_w 106, 3) := by decide +kernel
theorem dX8_copy_6 : decode cX8_copy 6 = .ok (.invokestatic 98, 3) := by decide +kernel
theorem dX8_copy_9 : decode cX8_copy 9 = .ok (.ifCond .eq 15, 3) := by decide +kernel
theorem dX8_copy_12 : decode cX8_copy 12 = .ok (.iload_n 2, 1) := by decide +kernel
theorem dX8_copy_13 : decode cX8_copy 13 = .ok (.i2l, 1) := by decide +kernel
theorem dX8_copy_14 : decode cX8_copy 14 = .ok (.lconst 0, 1) := by decide +kernel
theorem dX8_copy_15 : decode cX8_copy 15 = .ok (.ldc2_w 106, 3) := by decide +kernel
theorem dX8_copy_18 : decode cX8_copy 18 = .ok (.invokestatic 98, 3) := by decide +kernel
theorem dX8_copy_21 : decode cX8_copy 21 = .ok (.ifCond .ne 10, 3) := by decide +kernel
theorem dX8_copy_24 : decode cX8_copy 24 = .ok (.aload_n 0, 1) := by decide +kernel
theorem dX8_copy_25 : decode cX8_copy 25 = .ok (.bipush (-2), 2) := by decide +kernel
theorem dX8_copy_27 : decode cX8_copy 27 = .ok (.invokevirtual 112, 3) := by decide +kernel
theorem dX8_copy_30 : decode cX8_copy 30 = .ok (.ireturn, 1) := by decide +kernel
theorem dX8_copy_31 : decode cX8_copy 31 = .ok (.aload_n 0, 1) := by decide +kernel
theorem dX8_copy_32 : decode cX8_copy 32 = .ok (.getfield 7, 3) := by decide +kernel
theorem dX8_copy_35 : decode cX8_copy 35 = .ok (.iload_n 1, 1) := by decide +kernel
theorem dX8_copy_36 : decode cX8_copy 36 = .ok (.iaload, 1) := by decide +kernel
theorem dX8_copy_37 : decode cX8_copy 37 = .ok (.iconst 2, 1) := by decide +kernel
theorem dX8_copy_38 : decode cX8_copy 38 = .ok (.if_icmp .eq 48, 3) := by decide +kernel
theorem dX8_copy_41 : decode cX8_copy 41 = .ok (.aload_n 0, 1) := by decide +kernel
theorem dX8_copy_42 : decode cX8_copy 42 = .ok (.getfield 7, 3) := by decide +kernel
theorem dX8_copy_45 : decode cX8_copy 45 = .ok (.iload_n 2, 1) := by decide +kernel
theorem dX8_copy_46 : decode cX8_copy 46 = .ok (.iaload, 1) := by decide +kernel
theorem dX8_copy_47 : decode cX8_copy 47 = .ok (.iconst 2, 1) := by decide +kernel
theorem dX8_copy_48 : decode cX8_copy 48 = .ok (.if_icmp .eq 38, 3) := by decide +kernel
theorem dX8_copy_51 : decode cX8_copy 51 = .ok (.aload_n 0, 1) := by decide +kernel
theorem dX8_copy_52 : decode cX8_copy 52 = .ok (.getfield 7, 3) := by decide +kernel
theorem dX8_copy_55 : decode cX8_copy 55 = .ok (.iload_n 1, 1) := by decide +kernel
theorem dX8_copy_56 : decode cX8_copy 56 = .ok (.iaload, 1) := by decide +kernel
theorem dX8_copy_57 : decode cX8_copy 57 = .ok (.iconst 1, 1) := by decide +kernel
theorem dX8_copy_58 : decode cX8_copy 58 = .ok (.if_icmp .ne 35, 3) := by decide +kernel
theorem dX8_copy_61 : decode cX8_copy 61 = .ok (.aload_n 0, 1) := by decide +kernel
theorem dX8_copy_62 : decode cX8_copy 62 = .ok (.getfield 7, 3) := by decide +kernel
theorem dX8_copy_65 : decode cX8_copy 65 = .ok (.iload_n 2, 1) := by decide +kernel
theorem dX8_copy_66 : decode cX8_copy 66 = .ok (.iaload, 1) := by decide +kernel
theorem dX8_copy_67 : decode cX8_copy 67 = .ok (.iconst 1, 1) := by decide +kernel
theorem dX8_copy_68 : decode cX8_copy 68 = .ok (.if_icmp .ne 25, 3) := by decide +kernel
theorem dX8_copy_71 : decode cX8_copy 71 = .ok (.aload_n 0, 1) := by decide +kernel
theorem dX8_copy_72 : decode cX8_copy 72 = .ok (.getfield 13, 3) := by decide +kernel
theorem dX8_copy_75 : decode cX8_copy 75 = .ok (.iload_n 1, 1) := by decide +kernel
theorem dX8_copy_76 : decode cX8_copy 76 = .ok (.iaload, 1) := by decide +kernel
theorem dX8_copy_77 : decode cX8_copy 77 = .ok (.aload_n 0, 1) := by decide +kernel
theorem dX8_copy_78 : decode cX8_copy 78 = .ok (.getfield 13, 3) := by decide +kernel
theorem dX8_copy_81 : decode cX8_copy 81 = .ok (.iload_n 2, 1) := by decide +kernel
theorem dX8_copy_82 : decode cX8_copy 82 = .ok (.iaload, 1) := by decide +kernel
theorem dX8_copy_83 : decode cX8_copy 83 = .ok (.if_icmp .eq 10, 3) := by decide +kernel
theorem dX8_copy_86 : decode cX8_copy 86 = .ok (.aload_n 0, 1) := by decide +kernel
theorem dX8_copy_87 : decode cX8_copy 87 = .ok (.bipush (-3), 2) := by decide +kernel
theorem dX8_copy_89 : decode cX8_copy 89 = .ok (.invokevirtual 112, 3) := by decide +kernel
theorem dX8_copy_92 : decode cX8_copy 92 = .ok (.ireturn, 1) := by decide +kernel
theorem dX8_copy_93 : decode cX8_copy 93 = .ok (.aload_n 0, 1) := by decide +kernel
theorem dX8_copy_94 : decode cX8_copy 94 = .ok (.getfield 7, 3) := by decide +kernel
theorem dX8_copy_97 : decode cX8_copy 97 = .ok (.iload_n 1, 1) := by decide +kernel
theorem dX8_copy_98 : decode cX8_copy 98 = .ok (.iaload, 1) := by decide +kernel
theorem dX8_copy_99 : decode cX8_copy 99 = .ok (.ifCond .eq 12, 3) := by decide +kernel
theorem dX8_copy_102 : decode cX8_copy 102 = .ok (.aload_n 0, 1) := by decide +kernel
theorem dX8_copy_103 : decode cX8_copy 103 = .ok (.getfield 7, 3) := by decide +kernel
theorem dX8_copy_106 : decode cX8_copy 106 = .ok (.iload_n 2, 1) := by decide +kernel
theorem dX8_copy_107 : decode cX8_copy 107 = .ok (.iaload, 1) := by decide +kernel
theorem dX8_copy_108 : decode cX8_copy 108 = .ok (.ifCond .ne 10, 3) := by decide +kernel
theorem dX8_copy_111 : decode cX8_copy 111 = .ok (.aload_n 0, 1) := by decide +kernel
theorem dX8_copy_112 : decode cX8_copy 112 = .ok (.bipush (-4), 2) := by decide +kernel
theorem dX8_copy_114 : decode cX8_copy 114 = .ok (.invokevirtual 112, 3) := by decide +kernel
theorem dX8_copy_117 : decode cX8_copy 117 = .ok (.ireturn, 1) := by decide +kernel
theorem dX8_copy_118 : decode cX8_copy 118 = .ok (.iload 5, 2) := by decide +kernel
theorem dX8_copy_120 : decode cX8_copy 120 = .ok (.ifCond .lt 61, 3) := by decide +kernel
theorem dX8_copy_123 : decode cX8_copy 123 = .ok (.iload_n 3, 1) := by decide +kernel
theorem dX8_copy_124 : decode cX8_copy 124 = .ok (.ifCond .lt 57, 3) := by decide +kernel
theorem dX8_copy_127 : decode cX8_copy 127 = .ok (.iload 4, 2) := by decide +kernel
theorem dX8_copy_129 : decode cX8_copy 129 = .ok (.ifCond .lt 52, 3) := by decide +kernel
theorem dX8_copy_132 : decode cX8_copy 132 = .ok (.iload 5, 2) := by decide +kernel
theorem dX8_copy_134 : decode cX8_copy 134 = .ok (.aload_n 0, 1) := by decide +kernel
theorem dX8_copy_135 : decode cX8_copy 135 = .ok (.getfield 16, 3) := by decide +kernel
theorem dX8_copy_138 : decode cX8_copy 138 = .ok (.iload_n 1, 1) := by decide +kernel
theorem dX8_copy_139 : decode cX8_copy 139 = .ok (.iaload, 1) := by decide +kernel
theorem dX8_copy_140 : decode cX8_copy 140 = .ok (.if_icmp .gt 41, 3) := by decide +kernel
theorem dX8_copy_143 : decode cX8_copy 143 = .ok (.iload 5, 2) := by decide +kernel
theorem dX8_copy_145 : decode cX8_copy 145 = .ok (.aload_n 0, 1) := by decide +kernel
theorem dX8_copy_146 : decode cX8_copy 146 = .ok (.getfield 16, 3) := by decide +kernel
theorem dX8_copy_149 : decode cX8_copy 149 = .ok (.iload_n 2, 1) := by decide +kernel
theorem dX8_copy_150 : decode cX8_copy 150 = .ok (.iaload, 1) := by decide +kernel
theorem dX8_copy_151 : decode cX8_copy 151 = .ok (.if_icmp .gt 30, 3) := by decide +kernel
theorem dX8_copy_154 : decode cX8_copy 154 = .ok (.iload_n 3, 1) := by decide +kernel
theorem dX8_copy_155 : decode cX8_copy 155 = .ok (.aload_n 0, 1) := by decide +kernel
theorem dX8_copy_156 : decode cX8_copy 156 = .ok (.getfield 16, 3) := by decide +kernel
theorem dX8_copy_159 : decode cX8_copy 159 = .ok (.iload_n 1, 1) := by decide +kernel
theorem dX8_copy_160 : decode cX8_copy 160 = .ok (.iaload, 1) := by decide +kernel
theorem dX8_copy_161 : decode cX8_copy 161 = .ok (.iload 5, 2) := by decide +kernel
theorem dX8_copy_163 : decode cX8_copy 163 = .ok (.isub, 1) := by decide +kernel
theorem dX8_copy_164 : decode cX8_copy 164 = .ok (.if_icmp .gt 17, 3) := by decide +kernel
theorem dX8_copy_167 : decode cX8_copy 167 = .ok (.iload 4, 2) := by decide +kernel
theorem dX8_copy_169 : decode cX8_copy 169 = .ok (.aload_n 0, 1) := by decide +kernel
theorem dX8_copy_170 : decode cX8_copy 170 = .ok (.getfield 16, 3) := by decide +kernel
theorem dX8_copy_173 : decode cX8_copy 173 = .ok (.iload_n 2, 1) := by decide +kernel
theorem dX8_copy_174 : decode cX8_copy 174 = .ok (.iaload, 1) := by decide +kernel
theorem dX8_copy_175 : decode cX8_copy 175 = .ok (.iload 5, 2) := by decide +kernel
theorem dX8_copy_177 : decode cX8_copy 177 = .ok (.isub, 1) := by decide +kernel
theorem dX8_copy_178 : decode cX8_copy 178 = .ok (.if_icmp .le 10, 3) := by decide +kernel
theorem dX8_copy_181 : decode cX8_copy 181 = .ok (.aload_n 0, 1) := by decide +kernel
theorem dX8_copy_182 : decode cX8_copy 182 = .ok (.bipush (-2), 2) := by decide +kernel
theorem dX8_copy_184 : decode cX8_copy 184 = .ok (.invokevirtual 112, 3) := by decide +kernel
theorem dX8_copy_187 : decode cX8_copy 187 = .ok (.ireturn, 1) := by decide +kernel
theorem dX8_copy_188 : decode cX8_copy 188 = .ok (.iconst 0, 1) := by decide +kernel
theorem dX8_copy_189 : decode cX8_copy 189 = .ok (.istore 6, 2) := by decide +kernel
theorem dX8_copy_191 : decode cX8_copy 191 = .ok (.iload 6, 2) := by decide +kernel
theorem dX8_copy_193 : decode cX8_copy 193 = .ok (.iload 5, 2) := by decide +kernel
theorem dX8_copy_195 : decode cX8_copy 195 = .ok (.if_icmp .ge 27, 3) := by decide +kernel
theorem dX8_copy_198 : decode cX8_copy 198 = .ok (.aload_n 0, 1) := by decide +kernel
theorem dX8_copy_199 : decode cX8_copy 199 = .ok (.getfield 24, 3) := by decide +kernel
theorem dX8_copy_202 : decode cX8_copy 202 = .ok (.iload 6, 2) := by decide +kernel
theorem dX8_copy_204 : decode cX8_copy 204 = .ok (.aload_n 0, 1) := by decide +kernel
theorem dX8_copy_205 : decode cX8_copy 205 = .ok (.getfield 21, 3) := by decide +kernel
theorem dX8_copy_208 : decode cX8_copy 208 = .ok (.iload_n 1, 1) := by decide +kernel
theorem dX8_copy_209 : decode cX8_copy 209 = .ok (.aaload, 1) := by decide +kernel
theorem dX8_copy_210 : decode cX8_copy 210 = .ok (.iload_n 3, 1) := by decide +kernel
theorem dX8_copy_211 : decode cX8_copy 211 = .ok (.iload 6, 2) := by decide +kernel
theorem dX8_copy_213 : decode cX8_copy 213 = .ok (.iadd, 1) := by decide +kernel
theorem dX8_copy_214 : decode cX8_copy 214 = .ok (.laload, 1) := by decide +kernel
theorem dX8_copy_215 : decode cX8_copy 215 = .ok (.lastore, 1) := by decide +kernel
theorem dX8_copy_216 : decode cX8_copy 216 = .ok (.iinc 6 1, 3) := by decide +kernel
theorem dX8_copy_219 : decode cX8_copy 219 = .ok (.goto (-28), 3) := by decide +kernel
theorem dX8_copy_222 : decode cX8_copy 222 = .ok (.iconst 0, 1) := by decide +kernel
theorem dX8_copy_223 : decode cX8_copy 223 = .ok (.istore 6, 2) := by decide +kernel
theorem dX8_copy_225 : decode cX8_copy 225 = .ok (.iload 6, 2) := by decide +kernel
theorem dX8_copy_227 : decode cX8_copy 227 = .ok (.iload 5, 2) := by decide +kernel
theorem dX8_copy_229 : decode cX8_copy 229 = .ok (.if_icmp .ge 28, 3) := by decide +kernel
theorem dX8_copy_232 : decode cX8_copy 232 = .ok (.aload_n 0, 1) := by decide +kernel
theorem dX8_copy_233 : decode cX8_copy 233 = .ok (.getfield 21, 3) := by decide +kernel
theorem dX8_copy_236 : decode cX8_copy 236 = .ok (.iload_n 2, 1) := by decide +kernel
theorem dX8_copy_237 : decode cX8_copy 237 = .ok (.aaload, 1) := by decide +kernel
theorem dX8_copy_238 : decode cX8_copy 238 = .ok (.iload 4, 2) := by decide +kernel
theorem dX8_copy_240 : decode cX8_copy 240 = .ok (.iload 6, 2) := by decide +kernel
theorem dX8_copy_242 : decode cX8_copy 242 = .ok (.iadd, 1) := by decide +kernel
theorem dX8_copy_243 : decode cX8_copy 243 = .ok (.aload_n 0, 1) := by decide +kernel
theorem dX8_copy_244 : decode cX8_copy 244 = .ok (.getfield 24, 3) := by decide +kernel
theorem dX8_copy_247 : decode cX8_copy 247 = .ok (.iload 6, 2) := by decide +kernel
theorem dX8_copy_249 : decode cX8_copy 249 = .ok (.laload, 1) := by decide +kernel
theorem dX8_copy_250 : decode cX8_copy 250 = .ok (.lastore, 1) := by decide +kernel
theorem dX8_copy_251 : decode cX8_copy 251 = .ok (.iinc 6 1, 3) := by decide +kernel
theorem dX8_copy_254 : decode cX8_copy 254 = .ok (.goto (-29), 3) := by decide +kernel
theorem dX8_copy_257 : decode cX8_copy 257 = .ok (.iload 5, 2) := by decide +kernel
theorem dX8_copy_259 : decode cX8_copy 259 = .ok (.ireturn, 1) := by decide +kernel
theorem dX8_element_0 : decode cX8_element 0 = .ok (.iload_n 1, 1) := by decide +kernel
theorem dX8_element_1 : decode cX8_element 1 = .ok (.i2l, 1) := by decide +kernel
theorem dX8_element_2 : decode cX8_element 2 = .ok (.lconst 0, 1) := by decide +kernel
theorem dX8_element_3 : decode cX8_element 3 = .ok (.ldc2_w 106, 3) := by decide +kernel
theorem dX8_element_6 : decode cX8_element 6 = .ok (.invokestatic 98, 3) := by decide +kernel
theorem dX8_element_9 : decode cX8_element 9 = .ok (.ifCond .eq 42, 3) := by decide +kernel
theorem dX8_element_12 : decode cX8_element 12 = .ok (.aload_n 0, 1) := by decide +kernel
theorem dX8_element_13 : decode cX8_element 13 = .ok (.getfield 7, 3) := by decide +kernel
theorem dX8_element_16 : decode cX8_element 16 = .ok (.iload_n 1, 1) := by decide +kernel
theorem dX8_element_17 : decode cX8_element 17 = .ok (.iaload, 1) := by decide +kernel
theorem dX8_element_18 : decode cX8_element 18 = .ok (.iconst 1, 1) := by decide +kernel
theorem dX8_element_19 : decode cX8_element 19 = .ok (.if_icmp .ne 32, 3) := by decide +kernel
theorem dX8_element_22 : decode cX8_element 22 = .ok (.iload_n 2, 1) := by decide +kernel
theorem dX8_element_23 : decode cX8_element 23 = .ok (.i2l, 1) := by decide +kernel
theorem dX8_element_24 : decode cX8_element 24 = .ok (.lconst 0, 1) := by decide +kernel
theorem dX8_element_25 : decode cX8_element 25 = .ok (.aload_n 0, 1) := by decide +kernel
theorem dX8_element_26 : decode cX8_element 26 = .ok (.getfield 16, 3) := by decide +kernel
theorem dX8_element_29 : decode cX8_element 29 = .ok (.iload_n 1, 1) := by decide +kernel
theorem dX8_element_30 : decode cX8_element 30 = .ok (.iaload, 1) := by decide +kernel
theorem dX8_element_31 : decode cX8_element 31 = .ok (.iconst 1, 1) := by decide +kernel
theorem dX8_element_32 : decode cX8_element 32 = .ok (.isub, 1) := by decide +kernel
theorem dX8_element_33 : decode cX8_element 33 = .ok (.i2l, 1) := by decide +kernel
theorem dX8_element_34 : decode cX8_element 34 = .ok (.invokestatic 98, 3) := by decide +kernel
theorem dX8_element_37 : decode cX8_element 37 = .ok (.ifCond .eq 14, 3) := by decide +kernel
theorem dX8_element_40 : decode cX8_element 40 = .ok (.aload_n 0, 1) := by decide +kernel
theorem dX8_element_41 : decode cX8_element 41 = .ok (.getfield 21, 3) := by decide +kernel
theorem dX8_element_44 : decode cX8_element 44 = .ok (.iload_n 1, 1) := by decide +kernel
theorem dX8_element_45 : decode cX8_element 45 = .ok (.aaload, 1) := by decide +kernel
theorem dX8_element_46 : decode cX8_element 46 = .ok (.iload_n 2, 1) := by decide +kernel
theorem dX8_element_47 : decode cX8_element 47 = .ok (.laload, 1) := by decide +kernel
theorem dX8_element_48 : decode cX8_element 48 = .ok (.goto 4, 3) := by decide +kernel
theorem dX8_element_51 : decode cX8_element 51 = .ok (.lconst 0, 1) := by decide +kernel
theorem dX8_element_52 : decode cX8_element 52 = .ok (.lreturn, 1) := by decide +kernel
theorem dX8_holds_0 : decode cX8_holds 0 = .ok (.iload_n 1, 1) := by decide +kernel
theorem dX8_holds_1 : decode cX8_holds 1 = .ok (.i2l, 1) := by decide +kernel
theorem dX8_holds_2 : decode cX8_holds 2 = .ok (.lconst 0, 1) := by decide +kernel
theorem dX8_holds_3 : decode cX8_holds 3 = .ok (.ldc2_w 106, 3) := by decide +kernel
theorem dX8_holds_6 : decode cX8_holds 6 = .ok (.invokestatic 98, 3) := by decide +kernel
theorem dX8_holds_9 : decode cX8_holds 9 = .ok (.ifCond .eq 12, 3) := by decide +kernel
theorem dX8_holds_12 : decode cX8_holds 12 = .ok (.aload_n 0, 1) := by decide +kernel
theorem dX8_holds_13 : decode cX8_holds 13 = .ok (.getfield 7, 3) := by decide +kernel
theorem dX8_holds_16 : decode cX8_holds 16 = .ok (.iload_n 1, 1) := by decide +kernel
theorem dX8_holds_17 : decode cX8_holds 17 = .ok (.iaload, 1) := by decide +kernel
theorem dX8_holds_18 : decode cX8_holds 18 = .ok (.ifCond .ne 5, 3) := by decide +kernel
theorem dX8_holds_21 : decode cX8_holds 21 = .ok (.iconst (-1), 1) := by decide +kernel
theorem dX8_holds_22 : decode cX8_holds 22 = .ok (.ireturn, 1) := by decide +kernel
theorem dX8_holds_23 : decode cX8_holds 23 = .ok (.aload_n 0, 1) := by decide +kernel
theorem dX8_holds_24 : decode cX8_holds 24 = .ok (.getfield 7, 3) := by decide +kernel
theorem dX8_holds_27 : decode cX8_holds 27 = .ok (.iload_n 1, 1) := by decide +kernel
theorem dX8_holds_28 : decode cX8_holds 28 = .ok (.iaload, 1) := by decide +kernel
theorem dX8_holds_29 : decode cX8_holds 29 = .ok (.iconst 1, 1) := by decide +kernel
theorem dX8_holds_30 : decode cX8_holds 30 = .ok (.if_icmp .ne 12, 3) := by decide +kernel
theorem dX8_holds_33 : decode cX8_holds 33 = .ok (.aload_n 0, 1) := by decide +kernel
theorem dX8_holds_34 : decode cX8_holds 34 = .ok (.getfield 13, 3) := by decide +kernel
theorem dX8_holds_37 : decode cX8_holds 37 = .ok (.iload_n 1, 1) := by decide +kernel
theorem dX8_holds_38 : decode cX8_holds 38 = .ok (.iaload, 1) := by decide +kernel
theorem dX8_holds_39 : decode cX8_holds 39 = .ok (.goto 12, 3) := by decide +kernel
theorem dX8_holds_42 : decode cX8_holds 42 = .ok (.bipush 10, 2) := by decide +kernel
theorem dX8_holds_44 : decode cX8_holds 44 = .ok (.aload_n 0, 1) := by decide +kernel
theorem dX8_holds_45 : decode cX8_holds 45 = .ok (.getfield 28, 3) := by decide +kernel
theorem dX8_holds_48 : decode cX8_holds 48 = .ok (.iload_n 1, 1) := by decide +kernel
theorem dX8_holds_49 : decode cX8_holds 49 = .ok (.iaload, 1) := by decide +kernel
theorem dX8_holds_50 : decode cX8_holds 50 = .ok (.iadd, 1) := by decide +kernel
theorem dX8_holds_51 : decode cX8_holds 51 = .ok (.ireturn, 1) := by decide +kernel
theorem dX8_show_0 : decode cX8_show 0 = .ok (.iload_n 1, 1) := by decide +kernel
theorem dX8_show_1 : decode cX8_show 1 = .ok (.i2l, 1) := by decide +kernel
theorem dX8_show_2 : decode cX8_show 2 = .ok (.lconst 0, 1) := by decide +kernel
theorem dX8_show_3 : decode cX8_show 3 = .ok (.ldc2_w 106, 3) := by decide +kernel
theorem dX8_show_6 : decode cX8_show 6 = .ok (.invokestatic 98, 3) := by decide +kernel
theorem dX8_show_9 : decode cX8_show 9 = .ok (.ifCond .eq 17, 3) := by decide +kernel
theorem dX8_show_12 : decode cX8_show 12 = .ok (.iload_n 2, 1) := by decide +kernel
theorem dX8_show_13 : decode cX8_show 13 = .ok (.iconst (-1), 1) := by decide +kernel
theorem dX8_show_14 : decode cX8_show 14 = .ok (.if_icmp .eq 19, 3) := by decide +kernel
theorem dX8_show_17 : decode cX8_show 17 = .ok (.aload_n 0, 1) := by decide +kernel
theorem dX8_show_18 : decode cX8_show 18 = .ok (.iload_n 2, 1) := by decide +kernel
theorem dX8_show_19 : decode cX8_show 19 = .ok (.i2l, 1) := by decide +kernel
theorem dX8_show_20 : decode cX8_show 20 = .ok (.invokevirtual 102, 3) := by decide +kernel
theorem dX8_show_23 : decode cX8_show 23 = .ok (.ifCond .ne 10, 3) := by decide +kernel
theorem dX8_show_26 : decode cX8_show 26 = .ok (.aload_n 0, 1) := by decide +kernel
theorem dX8_show_27 : decode cX8_show 27 = .ok (.bipush (-2), 2) := by decide +kernel
theorem dX8_show_29 : decode cX8_show 29 = .ok (.invokevirtual 112, 3) := by decide +kernel
theorem dX8_show_32 : decode cX8_show 32 = .ok (.ireturn, 1) := by decide +kernel
theorem dX8_show_33 : decode cX8_show 33 = .ok (.aload_n 0, 1) := by decide +kernel
theorem dX8_show_34 : decode cX8_show 34 = .ok (.getfield 7, 3) := by decide +kernel
theorem dX8_show_37 : decode cX8_show 37 = .ok (.iload_n 1, 1) := by decide +kernel
theorem dX8_show_38 : decode cX8_show 38 = .ok (.iload_n 2, 1) := by decide +kernel
theorem dX8_show_39 : decode cX8_show 39 = .ok (.iconst (-1), 1) := by decide +kernel
theorem dX8_show_40 : decode cX8_show 40 = .ok (.if_icmp .ne 7, 3) := by decide +kernel
theorem dX8_show_43 : decode cX8_show 43 = .ok (.iconst 0, 1) := by decide +kernel
theorem dX8_show_44 : decode cX8_show 44 = .ok (.goto 4, 3) := by decide +kernel
theorem dX8_show_47 : decode cX8_show 47 = .ok (.iconst 2, 1) := by decide +kernel
theorem dX8_show_48 : decode cX8_show 48 = .ok (.iastore, 1) := by decide +kernel
theorem dX8_show_49 : decode cX8_show 49 = .ok (.aload_n 0, 1) := by decide +kernel
theorem dX8_show_50 : decode cX8_show 50 = .ok (.getfield 28, 3) := by decide +kernel
theorem dX8_show_53 : decode cX8_show 53 = .ok (.iload_n 1, 1) := by decide +kernel
theorem dX8_show_54 : decode cX8_show 54 = .ok (.iload_n 2, 1) := by decide +kernel
theorem dX8_show_55 : decode cX8_show 55 = .ok (.iastore, 1) := by decide +kernel
theorem dX8_show_56 : decode cX8_show 56 = .ok (.iconst 1, 1) := by decide +kernel
theorem dX8_show_57 : decode cX8_show 57 = .ok (.ireturn, 1) := by decide +kernel
theorem dX8_reads_0 : decode cX8_reads 0 = .ok (.iload_n 0, 1) := by decide +kernel
theorem dX8_reads_1 : decode cX8_reads 1 = .ok (.iconst 2, 1) := by decide +kernel
theorem dX8_reads_2 : decode cX8_reads 2 = .ok (.if_icmp .eq 13, 3) := by decide +kernel
theorem dX8_reads_5 : decode cX8_reads 5 = .ok (.iload_n 0, 1) := by decide +kernel
theorem dX8_reads_6 : decode cX8_reads 6 = .ok (.iconst 3, 1) := by decide +kernel
theorem dX8_reads_7 : decode cX8_reads 7 = .ok (.if_icmp .eq 8, 3) := by decide +kernel
theorem dX8_reads_10 : decode cX8_reads 10 = .ok (.iload_n 0, 1) := by decide +kernel
theorem dX8_reads_11 : decode cX8_reads 11 = .ok (.iconst 4, 1) := by decide +kernel
theorem dX8_reads_12 : decode cX8_reads 12 = .ok (.if_icmp .ne 7, 3) := by decide +kernel
theorem dX8_reads_15 : decode cX8_reads 15 = .ok (.iconst 1, 1) := by decide +kernel
theorem dX8_reads_16 : decode cX8_reads 16 = .ok (.goto 4, 3) := by decide +kernel
theorem dX8_reads_19 : decode cX8_reads 19 = .ok (.iconst 0, 1) := by decide +kernel
theorem dX8_reads_20 : decode cX8_reads 20 = .ok (.ireturn, 1) := by decide +kernel
theorem dX8_says_0 : decode cX8_says 0 = .ok (.iload_n 1, 1) := by decide +kernel
theorem dX8_says_1 : decode cX8_says 1 = .ok (.i2l, 1) := by decide +kernel
theorem dX8_says_2 : decode cX8_says 2 = .ok (.lconst 0, 1) := by decide +kernel
theorem dX8_says_3 : decode cX8_says 3 = .ok (.ldc2_w 106, 3) := by decide +kernel
theorem dX8_says_6 : decode cX8_says 6 = .ok (.invokestatic 98, 3) := by decide +kernel
theorem dX8_says_9 : decode cX8_says 9 = .ok (.ifCond .eq 15, 3) := by decide +kernel
theorem dX8_says_12 : decode cX8_says 12 = .ok (.iload_n 2, 1) := by decide +kernel
theorem dX8_says_13 : decode cX8_says 13 = .ok (.i2l, 1) := by decide +kernel
theorem dX8_says_14 : decode cX8_says 14 = .ok (.lconst 0, 1) := by decide +kernel
theorem dX8_says_15 : decode cX8_says 15 = .ok (.ldc2_w 123, 3) := by decide +kernel
theorem dX8_says_18 : decode cX8_says 18 = .ok (.invokestatic 98, 3) := by decide +kernel
theorem dX8_says_21 : decode cX8_says 21 = .ok (.ifCond .ne 10, 3) := by decide +kernel
theorem dX8_says_24 : decode cX8_says 24 = .ok (.aload_n 0, 1) := by decide +kernel
theorem dX8_says_25 : decode cX8_says 25 = .ok (.bipush (-2), 2) := by decide +kernel
theorem dX8_says_27 : decode cX8_says 27 = .ok (.invokevirtual 112, 3) := by decide +kernel
theorem dX8_says_30 : decode cX8_says 30 = .ok (.ireturn, 1) := by decide +kernel
theorem dX8_says_31 : decode cX8_says 31 = .ok (.aload_n 0, 1) := by decide +kernel
theorem dX8_says_32 : decode cX8_says 32 = .ok (.getfield 7, 3) := by decide +kernel
theorem dX8_says_35 : decode cX8_says 35 = .ok (.iload_n 1, 1) := by decide +kernel
theorem dX8_says_36 : decode cX8_says 36 = .ok (.iaload, 1) := by decide +kernel
theorem dX8_says_37 : decode cX8_says 37 = .ok (.iconst 1, 1) := by decide +kernel
theorem dX8_says_38 : decode cX8_says 38 = .ok (.if_icmp .ne 10, 3) := by decide +kernel
theorem dX8_says_41 : decode cX8_says 41 = .ok (.aload_n 0, 1) := by decide +kernel
theorem dX8_says_42 : decode cX8_says 42 = .ok (.bipush (-3), 2) := by decide +kernel
theorem dX8_says_44 : decode cX8_says 44 = .ok (.invokevirtual 112, 3) := by decide +kernel
theorem dX8_says_47 : decode cX8_says 47 = .ok (.ireturn, 1) := by decide +kernel
theorem dX8_says_48 : decode cX8_says 48 = .ok (.aload_n 0, 1) := by decide +kernel
theorem dX8_says_49 : decode cX8_says 49 = .ok (.getfield 7, 3) := by decide +kernel
theorem dX8_says_52 : decode cX8_says 52 = .ok (.iload_n 1, 1) := by decide +kernel
theorem dX8_says_53 : decode cX8_says 53 = .ok (.iaload, 1) := by decide +kernel
theorem dX8_says_54 : decode cX8_says 54 = .ok (.iconst 2, 1) := by decide +kernel
theorem dX8_says_55 : decode cX8_says 55 = .ok (.if_icmp .ne 43, 3) := by decide +kernel
theorem dX8_says_58 : decode cX8_says 58 = .ok (.aload_n 0, 1) := by decide +kernel
theorem dX8_says_59 : decode cX8_says 59 = .ok (.getfield 41, 3) := by decide +kernel
theorem dX8_says_62 : decode cX8_says 62 = .ok (.aload_n 0, 1) := by decide +kernel
theorem dX8_says_63 : decode cX8_says 63 = .ok (.getfield 28, 3) := by decide +kernel
theorem dX8_says_66 : decode cX8_says 66 = .ok (.iload_n 1, 1) := by decide +kernel
theorem dX8_says_67 : decode cX8_says 67 = .ok (.iaload, 1) := by decide +kernel
theorem dX8_says_68 : decode cX8_says 68 = .ok (.iaload, 1) := by decide +kernel
theorem dX8_says_69 : decode cX8_says 69 = .ok (.istore_n 3, 1) := by decide +kernel
theorem dX8_says_70 : decode cX8_says 70 = .ok (.iload_n 2, 1) := by decide +kernel
theorem dX8_says_71 : decode cX8_says 71 = .ok (.ifCond .eq 27, 3) := by decide +kernel
theorem dX8_says_74 : decode cX8_says 74 = .ok (.iload_n 3, 1) := by decide +kernel
theorem dX8_says_75 : decode cX8_says 75 = .ok (.iload_n 2, 1) := by decide +kernel
theorem dX8_says_76 : decode cX8_says 76 = .ok (.if_icmp .eq 22, 3) := by decide +kernel
theorem dX8_says_79 : decode cX8_says 79 = .ok (.iload_n 2, 1) := by decide +kernel
theorem dX8_says_80 : decode cX8_says 80 = .ok (.iconst 2, 1) := by decide +kernel
theorem dX8_says_81 : decode cX8_says 81 = .ok (.if_icmp .ne 10, 3) := by decide +kernel
theorem dX8_says_84 : decode cX8_says 84 = .ok (.iload_n 3, 1) := by decide +kernel
theorem dX8_says_85 : decode cX8_says 85 = .ok (.invokestatic 125, 3) := by decide +kernel
theorem dX8_says_88 : decode cX8_says 88 = .ok (.ifCond .ne 10, 3) := by decide +kernel
theorem dX8_says_91 : decode cX8_says 91 = .ok (.aload_n 0, 1) := by decide +kernel
theorem dX8_says_92 : decode cX8_says 92 = .ok (.bipush (-3), 2) := by decide +kernel
theorem dX8_says_94 : decode cX8_says 94 = .ok (.invokevirtual 112, 3) := by decide +kernel
theorem dX8_says_97 : decode cX8_says 97 = .ok (.ireturn, 1) := by decide +kernel
theorem dX8_says_98 : decode cX8_says 98 = .ok (.aload_n 0, 1) := by decide +kernel
theorem dX8_says_99 : decode cX8_says 99 = .ok (.getfield 7, 3) := by decide +kernel
theorem dX8_says_102 : decode cX8_says 102 = .ok (.iload_n 1, 1) := by decide +kernel
theorem dX8_says_103 : decode cX8_says 103 = .ok (.iaload, 1) := by decide +kernel
theorem dX8_says_104 : decode cX8_says 104 = .ok (.ifCond .ne 10, 3) := by decide +kernel
theorem dX8_says_107 : decode cX8_says 107 = .ok (.aload_n 0, 1) := by decide +kernel
theorem dX8_says_108 : decode cX8_says 108 = .ok (.bipush (-4), 2) := by decide +kernel
theorem dX8_says_110 : decode cX8_says 110 = .ok (.invokevirtual 112, 3) := by decide +kernel
theorem dX8_says_113 : decode cX8_says 113 = .ok (.ireturn, 1) := by decide +kernel
theorem dX8_says_114 : decode cX8_says 114 = .ok (.aload_n 0, 1) := by decide +kernel
theorem dX8_says_115 : decode cX8_says 115 = .ok (.getfield 28, 3) := by decide +kernel
theorem dX8_says_118 : decode cX8_says 118 = .ok (.iload_n 1, 1) := by decide +kernel
theorem dX8_says_119 : decode cX8_says 119 = .ok (.iaload, 1) := by decide +kernel
theorem dX8_says_120 : decode cX8_says 120 = .ok (.istore_n 3, 1) := by decide +kernel
theorem dX8_says_121 : decode cX8_says 121 = .ok (.iload_n 2, 1) := by decide +kernel
theorem dX8_says_122 : decode cX8_says 122 = .ok (.tableswitch 67 0 5 #[38, 67, 45, 54, 67, 61], 38) := by decide +kernel
theorem dX8_says_160 : decode cX8_says 160 = .ok (.aload_n 0, 1) := by decide +kernel
theorem dX8_says_161 : decode cX8_says 161 = .ok (.getfield 44, 3) := by decide +kernel
theorem dX8_says_164 : decode cX8_says 164 = .ok (.iload_n 3, 1) := by decide +kernel
theorem dX8_says_165 : decode cX8_says 165 = .ok (.iaload, 1) := by decide +kernel
theorem dX8_says_166 : decode cX8_says 166 = .ok (.ireturn, 1) := by decide +kernel
theorem dX8_says_167 : decode cX8_says 167 = .ok (.aload_n 0, 1) := by decide +kernel
theorem dX8_says_168 : decode cX8_says 168 = .ok (.iload_n 3, 1) := by decide +kernel
theorem dX8_says_169 : decode cX8_says 169 = .ok (.invokevirtual 129, 3) := by decide +kernel
theorem dX8_says_172 : decode cX8_says 172 = .ok (.invokestatic 132, 3) := by decide +kernel
theorem dX8_says_175 : decode cX8_says 175 = .ok (.ireturn, 1) := by decide +kernel
theorem dX8_says_176 : decode cX8_says 176 = .ok (.aload_n 0, 1) := by decide +kernel
theorem dX8_says_177 : decode cX8_says 177 = .ok (.getfield 47, 3) := by decide +kernel
theorem dX8_says_180 : decode cX8_says 180 = .ok (.iload_n 3, 1) := by decide +kernel
theorem dX8_says_181 : decode cX8_says 181 = .ok (.iaload, 1) := by decide +kernel
theorem dX8_says_182 : decode cX8_says 182 = .ok (.ireturn, 1) := by decide +kernel
theorem dX8_says_183 : decode cX8_says 183 = .ok (.aload_n 0, 1) := by decide +kernel
theorem dX8_says_184 : decode cX8_says 184 = .ok (.iload_n 3, 1) := by decide +kernel
theorem dX8_says_185 : decode cX8_says 185 = .ok (.invokevirtual 135, 3) := by decide +kernel
theorem dX8_says_188 : decode cX8_says 188 = .ok (.ireturn, 1) := by decide +kernel
theorem dX8_says_189 : decode cX8_says 189 = .ok (.aload_n 0, 1) := by decide +kernel
theorem dX8_says_190 : decode cX8_says 190 = .ok (.iload_n 3, 1) := by decide +kernel
theorem dX8_says_191 : decode cX8_says 191 = .ok (.invokevirtual 138, 3) := by decide +kernel
theorem dX8_says_194 : decode cX8_says 194 = .ok (.ireturn, 1) := by decide +kernel
theorem dX8_rows_0 : decode cX8_rows 0 = .ok (.iload_n 1, 1) := by decide +kernel
theorem dX8_rows_1 : decode cX8_rows 1 = .ok (.i2l, 1) := by decide +kernel
theorem dX8_rows_2 : decode cX8_rows 2 = .ok (.ldc2_w 141, 3) := by decide +kernel
theorem dX8_rows_5 : decode cX8_rows 5 = .ok (.ldc2_w 108, 3) := by decide +kernel
theorem dX8_rows_8 : decode cX8_rows 8 = .ok (.invokestatic 98, 3) := by decide +kernel
theorem dX8_rows_11 : decode cX8_rows 11 = .ok (.ifCond .ne 10, 3) := by decide +kernel
theorem dX8_rows_14 : decode cX8_rows 14 = .ok (.aload_n 0, 1) := by decide +kernel
theorem dX8_rows_15 : decode cX8_rows 15 = .ok (.bipush (-2), 2) := by decide +kernel
theorem dX8_rows_17 : decode cX8_rows 17 = .ok (.invokevirtual 112, 3) := by decide +kernel
theorem dX8_rows_20 : decode cX8_rows 20 = .ok (.ireturn, 1) := by decide +kernel
theorem dX8_rows_21 : decode cX8_rows 21 = .ok (.aload_n 0, 1) := by decide +kernel
theorem dX8_rows_22 : decode cX8_rows 22 = .ok (.getfield 95, 3) := by decide +kernel
theorem dX8_rows_25 : decode cX8_rows 25 = .ok (.ifCond .le 10, 3) := by decide +kernel
theorem dX8_rows_28 : decode cX8_rows 28 = .ok (.aload_n 0, 1) := by decide +kernel
theorem dX8_rows_29 : decode cX8_rows 29 = .ok (.bipush (-5), 2) := by decide +kernel
theorem dX8_rows_31 : decode cX8_rows 31 = .ok (.invokevirtual 112, 3) := by decide +kernel
theorem dX8_rows_34 : decode cX8_rows 34 = .ok (.ireturn, 1) := by decide +kernel
theorem dX8_rows_35 : decode cX8_rows 35 = .ok (.aload_n 0, 1) := by decide +kernel
theorem dX8_rows_36 : decode cX8_rows 36 = .ok (.getfield 37, 3) := by decide +kernel
theorem dX8_rows_39 : decode cX8_rows 39 = .ok (.istore_n 2, 1) := by decide +kernel
theorem dX8_rows_40 : decode cX8_rows 40 = .ok (.aload_n 0, 1) := by decide +kernel
theorem dX8_rows_41 : decode cX8_rows 41 = .ok (.iload_n 1, 1) := by decide +kernel
theorem dX8_rows_42 : decode cX8_rows 42 = .ok (.putfield 37, 3) := by decide +kernel
theorem dX8_rows_45 : decode cX8_rows 45 = .ok (.iload_n 2, 1) := by decide +kernel
theorem dX8_rows_46 : decode cX8_rows 46 = .ok (.ireturn, 1) := by decide +kernel
theorem dX8_addPupil_0 : decode cX8_addPupil 0 = .ok (.aload_n 0, 1) := by decide +kernel
theorem dX8_addPupil_1 : decode cX8_addPupil 1 = .ok (.getfield 41, 3) := by decide +kernel
theorem dX8_addPupil_4 : decode cX8_addPupil 4 = .ok (.aload_n 0, 1) := by decide +kernel
theorem dX8_addPupil_5 : decode cX8_addPupil 5 = .ok (.getfield 95, 3) := by decide +kernel
theorem dX8_addPupil_8 : decode cX8_addPupil 8 = .ok (.iload_n 1, 1) := by decide +kernel
theorem dX8_addPupil_9 : decode cX8_addPupil 9 = .ok (.iastore, 1) := by decide +kernel
theorem dX8_addPupil_10 : decode cX8_addPupil 10 = .ok (.aload_n 0, 1) := by decide +kernel
theorem dX8_addPupil_11 : decode cX8_addPupil 11 = .ok (.getfield 44, 3) := by decide +kernel
theorem dX8_addPupil_14 : decode cX8_addPupil 14 = .ok (.aload_n 0, 1) := by decide +kernel
theorem dX8_addPupil_15 : decode cX8_addPupil 15 = .ok (.getfield 95, 3) := by decide +kernel
theorem dX8_addPupil_18 : decode cX8_addPupil 18 = .ok (.iload_n 2, 1) := by decide +kernel
theorem dX8_addPupil_19 : decode cX8_addPupil 19 = .ok (.iastore, 1) := by decide +kernel
theorem dX8_addPupil_20 : decode cX8_addPupil 20 = .ok (.aload_n 0, 1) := by decide +kernel
theorem dX8_addPupil_21 : decode cX8_addPupil 21 = .ok (.getfield 47, 3) := by decide +kernel
theorem dX8_addPupil_24 : decode cX8_addPupil 24 = .ok (.aload_n 0, 1) := by decide +kernel
theorem dX8_addPupil_25 : decode cX8_addPupil 25 = .ok (.getfield 95, 3) := by decide +kernel
theorem dX8_addPupil_28 : decode cX8_addPupil 28 = .ok (.iload_n 3, 1) := by decide +kernel
theorem dX8_addPupil_29 : decode cX8_addPupil 29 = .ok (.iastore, 1) := by decide +kernel
theorem dX8_addPupil_30 : decode cX8_addPupil 30 = .ok (.aload_n 0, 1) := by decide +kernel
theorem dX8_addPupil_31 : decode cX8_addPupil 31 = .ok (.getfield 50, 3) := by decide +kernel
theorem dX8_addPupil_34 : decode cX8_addPupil 34 = .ok (.aload_n 0, 1) := by decide +kernel
theorem dX8_addPupil_35 : decode cX8_addPupil 35 = .ok (.getfield 95, 3) := by decide +kernel
theorem dX8_addPupil_38 : decode cX8_addPupil 38 = .ok (.iconst 0, 1) := by decide +kernel
theorem dX8_addPupil_39 : decode cX8_addPupil 39 = .ok (.iastore, 1) := by decide +kernel
theorem dX8_addPupil_40 : decode cX8_addPupil 40 = .ok (.aload_n 0, 1) := by decide +kernel
theorem dX8_addPupil_41 : decode cX8_addPupil 41 = .ok (.dup, 1) := by decide +kernel
theorem dX8_addPupil_42 : decode cX8_addPupil 42 = .ok (.getfield 95, 3) := by decide +kernel
theorem dX8_addPupil_45 : decode cX8_addPupil 45 = .ok (.iconst 1, 1) := by decide +kernel
theorem dX8_addPupil_46 : decode cX8_addPupil 46 = .ok (.iadd, 1) := by decide +kernel
theorem dX8_addPupil_47 : decode cX8_addPupil 47 = .ok (.putfield 95, 3) := by decide +kernel
theorem dX8_addPupil_50 : decode cX8_addPupil 50 = .ok (.return_, 1) := by decide +kernel
theorem dX8_pupil_0 : decode cX8_pupil 0 = .ok (.iload_n 1, 1) := by decide +kernel
theorem dX8_pupil_1 : decode cX8_pupil 1 = .ok (.i2l, 1) := by decide +kernel
theorem dX8_pupil_2 : decode cX8_pupil 2 = .ok (.lconst 0, 1) := by decide +kernel
theorem dX8_pupil_3 : decode cX8_pupil 3 = .ok (.ldc2_w 123, 3) := by decide +kernel
theorem dX8_pupil_6 : decode cX8_pupil 6 = .ok (.invokestatic 98, 3) := by decide +kernel
theorem dX8_pupil_9 : decode cX8_pupil 9 = .ok (.ifCond .eq 23, 3) := by decide +kernel
theorem dX8_pupil_12 : decode cX8_pupil 12 = .ok (.aload_n 0, 1) := by decide +kernel
theorem dX8_pupil_13 : decode cX8_pupil 13 = .ok (.iload_n 2, 1) := by decide +kernel
theorem dX8_pupil_14 : decode cX8_pupil 14 = .ok (.invokevirtual 143, 3) := by decide +kernel
theorem dX8_pupil_17 : decode cX8_pupil 17 = .ok (.ifCond .eq 15, 3) := by decide +kernel
theorem dX8_pupil_20 : decode cX8_pupil 20 = .ok (.iload_n 3, 1) := by decide +kernel
theorem dX8_pupil_21 : decode cX8_pupil 21 = .ok (.i2l, 1) := by decide +kernel
theorem dX8_pupil_22 : decode cX8_pupil 22 = .ok (.lconst 0, 1) := by decide +kernel
theorem dX8_pupil_23 : decode cX8_pupil 23 = .ok (.ldc2_w 146, 3) := by decide +kernel
theorem dX8_pupil_26 : decode cX8_pupil 26 = .ok (.invokestatic 98, 3) := by decide +kernel
theorem dX8_pupil_29 : decode cX8_pupil 29 = .ok (.ifCond .ne 10, 3) := by decide +kernel
theorem dX8_pupil_32 : decode cX8_pupil 32 = .ok (.aload_n 0, 1) := by decide +kernel
theorem dX8_pupil_33 : decode cX8_pupil 33 = .ok (.bipush (-2), 2) := by decide +kernel
theorem dX8_pupil_35 : decode cX8_pupil 35 = .ok (.invokevirtual 112, 3) := by decide +kernel
theorem dX8_pupil_38 : decode cX8_pupil 38 = .ok (.ireturn, 1) := by decide +kernel
theorem dX8_pupil_39 : decode cX8_pupil 39 = .ok (.aload_n 0, 1) := by decide +kernel
theorem dX8_pupil_40 : decode cX8_pupil 40 = .ok (.iload_n 2, 1) := by decide +kernel
theorem dX8_pupil_41 : decode cX8_pupil 41 = .ok (.invokevirtual 148, 3) := by decide +kernel
theorem dX8_pupil_44 : decode cX8_pupil 44 = .ok (.iconst (-1), 1) := by decide +kernel
theorem dX8_pupil_45 : decode cX8_pupil 45 = .ok (.if_icmp .eq 10, 3) := by decide +kernel
theorem dX8_pupil_48 : decode cX8_pupil 48 = .ok (.aload_n 0, 1) := by decide +kernel
theorem dX8_pupil_49 : decode cX8_pupil 49 = .ok (.bipush (-5), 2) := by decide +kernel
theorem dX8_pupil_51 : decode cX8_pupil 51 = .ok (.invokevirtual 112, 3) := by decide +kernel
theorem dX8_pupil_54 : decode cX8_pupil 54 = .ok (.ireturn, 1) := by decide +kernel
theorem dX8_pupil_55 : decode cX8_pupil 55 = .ok (.aload_n 0, 1) := by decide +kernel
theorem dX8_pupil_56 : decode cX8_pupil 56 = .ok (.getfield 95, 3) := by decide +kernel
theorem dX8_pupil_59 : decode cX8_pupil 59 = .ok (.bipush 12, 2) := by decide +kernel
theorem dX8_pupil_61 : decode cX8_pupil 61 = .ok (.if_icmp .ne 10, 3) := by decide +kernel
theorem dX8_pupil_64 : decode cX8_pupil 64 = .ok (.aload_n 0, 1) := by decide +kernel
theorem dX8_pupil_65 : decode cX8_pupil 65 = .ok (.bipush (-6), 2) := by decide +kernel
theorem dX8_pupil_67 : decode cX8_pupil 67 = .ok (.invokevirtual 112, 3) := by decide +kernel
theorem dX8_pupil_70 : decode cX8_pupil 70 = .ok (.ireturn, 1) := by decide +kernel
theorem dX8_pupil_71 : decode cX8_pupil 71 = .ok (.aload_n 0, 1) := by decide +kernel
theorem dX8_pupil_72 : decode cX8_pupil 72 = .ok (.iload_n 1, 1) := by decide +kernel
theorem dX8_pupil_73 : decode cX8_pupil 73 = .ok (.iload_n 2, 1) := by decide +kernel
theorem dX8_pupil_74 : decode cX8_pupil 74 = .ok (.iload_n 3, 1) := by decide +kernel
theorem dX8_pupil_75 : decode cX8_pupil 75 = .ok (.invokevirtual 151, 3) := by decide +kernel
theorem dX8_pupil_78 : decode cX8_pupil 78 = .ok (.aload_n 0, 1) := by decide +kernel
theorem dX8_pupil_79 : decode cX8_pupil 79 = .ok (.getfield 95, 3) := by decide +kernel
theorem dX8_pupil_82 : decode cX8_pupil 82 = .ok (.iconst 1, 1) := by decide +kernel
theorem dX8_pupil_83 : decode cX8_pupil 83 = .ok (.isub, 1) := by decide +kernel
theorem dX8_pupil_84 : decode cX8_pupil 84 = .ok (.ireturn, 1) := by decide +kernel
theorem dX8_bars_0 : decode cX8_bars 0 = .ok (.aload_n 0, 1) := by decide +kernel
theorem dX8_bars_1 : decode cX8_bars 1 = .ok (.getfield 50, 3) := by decide +kernel
theorem dX8_bars_4 : decode cX8_bars 4 = .ok (.iload_n 1, 1) := by decide +kernel
theorem dX8_bars_5 : decode cX8_bars 5 = .ok (.iload_n 3, 1) := by decide +kernel
theorem dX8_bars_6 : decode cX8_bars 6 = .ok (.ifCond .eq 16, 3) := by decide +kernel
theorem dX8_bars_9 : decode cX8_bars 9 = .ok (.aload_n 0, 1) := by decide +kernel
theorem dX8_bars_10 : decode cX8_bars 10 = .ok (.getfield 50, 3) := by decide +kernel
theorem dX8_bars_13 : decode cX8_bars 13 = .ok (.iload_n 1, 1) := by decide +kernel
theorem dX8_bars_14 : decode cX8_bars 14 = .ok (.iaload, 1) := by decide +kernel
theorem dX8_bars_15 : decode cX8_bars 15 = .ok (.iconst 1, 1) := by decide +kernel
theorem dX8_bars_16 : decode cX8_bars 16 = .ok (.iload_n 2, 1) := by decide +kernel
theorem dX8_bars_17 : decode cX8_bars 17 = .ok (.ishl, 1) := by decide +kernel
theorem dX8_bars_18 : decode cX8_bars 18 = .ok (.ior, 1) := by decide +kernel
theorem dX8_bars_19 : decode cX8_bars 19 = .ok (.goto 15, 3) := by decide +kernel
theorem dX8_bars_22 : decode cX8_bars 22 = .ok (.aload_n 0, 1) := by decide +kernel
theorem dX8_bars_23 : decode cX8_bars 23 = .ok (.getfield 50, 3) := by decide +kernel
theorem dX8_bars_26 : decode cX8_bars 26 = .ok (.iload_n 1, 1) := by decide +kernel
theorem dX8_bars_27 : decode cX8_bars 27 = .ok (.iaload, 1) := by decide +kernel
theorem dX8_bars_28 : decode cX8_bars 28 = .ok (.iconst 1, 1) := by decide +kernel
theorem dX8_bars_29 : decode cX8_bars 29 = .ok (.iload_n 2, 1) := by decide +kernel
theorem dX8_bars_30 : decode cX8_bars 30 = .ok (.ishl, 1) := by decide +kernel
theorem dX8_bars_31 : decode cX8_bars 31 = .ok (.iconst (-1), 1) := by decide +kernel
theorem dX8_bars_32 : decode cX8_bars 32 = .ok (.ixor, 1) := by decide +kernel
theorem dX8_bars_33 : decode cX8_bars 33 = .ok (.iand, 1) := by decide +kernel
theorem dX8_bars_34 : decode cX8_bars 34 = .ok (.iastore, 1) := by decide +kernel
theorem dX8_bars_35 : decode cX8_bars 35 = .ok (.aload_n 0, 1) := by decide +kernel
theorem dX8_bars_36 : decode cX8_bars 36 = .ok (.getfield 50, 3) := by decide +kernel
theorem dX8_bars_39 : decode cX8_bars 39 = .ok (.iload_n 2, 1) := by decide +kernel
theorem dX8_bars_40 : decode cX8_bars 40 = .ok (.iload_n 3, 1) := by decide +kernel
theorem dX8_bars_41 : decode cX8_bars 41 = .ok (.ifCond .eq 16, 3) := by decide +kernel
theorem dX8_bars_44 : decode cX8_bars 44 = .ok (.aload_n 0, 1) := by decide +kernel
theorem dX8_bars_45 : decode cX8_bars 45 = .ok (.getfield 50, 3) := by decide +kernel
theorem dX8_bars_48 : decode cX8_bars 48 = .ok (.iload_n 2, 1) := by decide +kernel
theorem dX8_bars_49 : decode cX8_bars 49 = .ok (.iaload, 1) := by decide +kernel
theorem dX8_bars_50 : decode cX8_bars 50 = .ok (.iconst 1, 1) := by decide +kernel
theorem dX8_bars_51 : decode cX8_bars 51 = .ok (.iload_n 1, 1) := by decide +kernel
theorem dX8_bars_52 : decode cX8_bars 52 = .ok (.ishl, 1) := by decide +kernel
theorem dX8_bars_53 : decode cX8_bars 53 = .ok (.ior, 1) := by decide +kernel
theorem dX8_bars_54 : decode cX8_bars 54 = .ok (.goto 15, 3) := by decide +kernel
theorem dX8_bars_57 : decode cX8_bars 57 = .ok (.aload_n 0, 1) := by decide +kernel
theorem dX8_bars_58 : decode cX8_bars 58 = .ok (.getfield 50, 3) := by decide +kernel
theorem dX8_bars_61 : decode cX8_bars 61 = .ok (.iload_n 2, 1) := by decide +kernel
theorem dX8_bars_62 : decode cX8_bars 62 = .ok (.iaload, 1) := by decide +kernel
theorem dX8_bars_63 : decode cX8_bars 63 = .ok (.iconst 1, 1) := by decide +kernel
theorem dX8_bars_64 : decode cX8_bars 64 = .ok (.iload_n 1, 1) := by decide +kernel
theorem dX8_bars_65 : decode cX8_bars 65 = .ok (.ishl, 1) := by decide +kernel
theorem dX8_bars_66 : decode cX8_bars 66 = .ok (.iconst (-1), 1) := by decide +kernel
theorem dX8_bars_67 : decode cX8_bars 67 = .ok (.ixor, 1) := by decide +kernel
theorem dX8_bars_68 : decode cX8_bars 68 = .ok (.iand, 1) := by decide +kernel
theorem dX8_bars_69 : decode cX8_bars 69 = .ok (.iastore, 1) := by decide +kernel
theorem dX8_bars_70 : decode cX8_bars 70 = .ok (.return_, 1) := by decide +kernel
theorem dX8_bar_0 : decode cX8_bar 0 = .ok (.aload_n 0, 1) := by decide +kernel
theorem dX8_bar_1 : decode cX8_bar 1 = .ok (.iload_n 1, 1) := by decide +kernel
theorem dX8_bar_2 : decode cX8_bar 2 = .ok (.iload_n 2, 1) := by decide +kernel
theorem dX8_bar_3 : decode cX8_bar 3 = .ok (.invokevirtual 155, 3) := by decide +kernel
theorem dX8_bar_6 : decode cX8_bar 6 = .ok (.ifCond .ne 10, 3) := by decide +kernel
theorem dX8_bar_9 : decode cX8_bar 9 = .ok (.aload_n 0, 1) := by decide +kernel
theorem dX8_bar_10 : decode cX8_bar 10 = .ok (.bipush (-2), 2) := by decide +kernel
theorem dX8_bar_12 : decode cX8_bar 12 = .ok (.invokevirtual 112, 3) := by decide +kernel
theorem dX8_bar_15 : decode cX8_bar 15 = .ok (.ireturn, 1) := by decide +kernel
theorem dX8_bar_16 : decode cX8_bar 16 = .ok (.aload_n 0, 1) := by decide +kernel
theorem dX8_bar_17 : decode cX8_bar 17 = .ok (.getfield 50, 3) := by decide +kernel
theorem dX8_bar_20 : decode cX8_bar 20 = .ok (.iload_n 1, 1) := by decide +kernel
theorem dX8_bar_21 : decode cX8_bar 21 = .ok (.iaload, 1) := by decide +kernel
theorem dX8_bar_22 : decode cX8_bar 22 = .ok (.iload_n 2, 1) := by decide +kernel
theorem dX8_bar_23 : decode cX8_bar 23 = .ok (.invokestatic 159, 3) := by decide +kernel
theorem dX8_bar_26 : decode cX8_bar 26 = .ok (.istore 4, 2) := by decide +kernel
theorem dX8_bar_28 : decode cX8_bar 28 = .ok (.aload_n 0, 1) := by decide +kernel
theorem dX8_bar_29 : decode cX8_bar 29 = .ok (.iload_n 1, 1) := by decide +kernel
theorem dX8_bar_30 : decode cX8_bar 30 = .ok (.iload_n 2, 1) := by decide +kernel
theorem dX8_bar_31 : decode cX8_bar 31 = .ok (.iload_n 3, 1) := by decide +kernel
theorem dX8_bar_32 : decode cX8_bar 32 = .ok (.invokevirtual 162, 3) := by decide +kernel
theorem dX8_bar_35 : decode cX8_bar 35 = .ok (.iload 4, 2) := by decide +kernel
theorem dX8_bar_37 : decode cX8_bar 37 = .ok (.iload_n 3, 1) := by decide +kernel
theorem dX8_bar_38 : decode cX8_bar 38 = .ok (.if_icmp .eq 7, 3) := by decide +kernel
theorem dX8_bar_41 : decode cX8_bar 41 = .ok (.iconst 1, 1) := by decide +kernel
theorem dX8_bar_42 : decode cX8_bar 42 = .ok (.goto 4, 3) := by decide +kernel
theorem dX8_bar_45 : decode cX8_bar 45 = .ok (.iconst 0, 1) := by decide +kernel
theorem dX8_bar_46 : decode cX8_bar 46 = .ok (.ireturn, 1) := by decide +kernel
theorem dX8_move_0 : decode cX8_move 0 = .ok (.aload_n 0, 1) := by decide +kernel
theorem dX8_move_1 : decode cX8_move 1 = .ok (.iload_n 1, 1) := by decide +kernel
theorem dX8_move_2 : decode cX8_move 2 = .ok (.i2l, 1) := by decide +kernel
theorem dX8_move_3 : decode cX8_move 3 = .ok (.invokevirtual 102, 3) := by decide +kernel
theorem dX8_move_6 : decode cX8_move 6 = .ok (.ifCond .eq 11, 3) := by decide +kernel
theorem dX8_move_9 : decode cX8_move 9 = .ok (.aload_n 0, 1) := by decide +kernel
theorem dX8_move_10 : decode cX8_move 10 = .ok (.iload_n 2, 1) := by decide +kernel
theorem dX8_move_11 : decode cX8_move 11 = .ok (.invokevirtual 143, 3) := by decide +kernel
theorem dX8_move_14 : decode cX8_move 14 = .ok (.ifCond .ne 10, 3) := by decide +kernel
theorem dX8_move_17 : decode cX8_move 17 = .ok (.aload_n 0, 1) := by decide +kernel
theorem dX8_move_18 : decode cX8_move 18 = .ok (.bipush (-2), 2) := by decide +kernel
theorem dX8_move_20 : decode cX8_move 20 = .ok (.invokevirtual 112, 3) := by decide +kernel
theorem dX8_move_23 : decode cX8_move 23 = .ok (.ireturn, 1) := by decide +kernel
theorem dX8_move_24 : decode cX8_move 24 = .ok (.aload_n 0, 1) := by decide +kernel
theorem dX8_move_25 : decode cX8_move 25 = .ok (.iload_n 2, 1) := by decide +kernel
theorem dX8_move_26 : decode cX8_move 26 = .ok (.invokevirtual 148, 3) := by decide +kernel
theorem dX8_move_29 : decode cX8_move 29 = .ok (.iconst (-1), 1) := by decide +kernel
theorem dX8_move_30 : decode cX8_move 30 = .ok (.if_icmp .eq 10, 3) := by decide +kernel
theorem dX8_move_33 : decode cX8_move 33 = .ok (.aload_n 0, 1) := by decide +kernel
theorem dX8_move_34 : decode cX8_move 34 = .ok (.bipush (-5), 2) := by decide +kernel
theorem dX8_move_36 : decode cX8_move 36 = .ok (.invokevirtual 112, 3) := by decide +kernel
theorem dX8_move_39 : decode cX8_move 39 = .ok (.ireturn, 1) := by decide +kernel
theorem dX8_move_40 : decode cX8_move 40 = .ok (.aload_n 0, 1) := by decide +kernel
theorem dX8_move_41 : decode cX8_move 41 = .ok (.getfield 44, 3) := by decide +kernel
theorem dX8_move_44 : decode cX8_move 44 = .ok (.iload_n 1, 1) := by decide +kernel
theorem dX8_move_45 : decode cX8_move 45 = .ok (.iaload, 1) := by decide +kernel
theorem dX8_move_46 : decode cX8_move 46 = .ok (.istore_n 3, 1) := by decide +kernel
theorem dX8_move_47 : decode cX8_move 47 = .ok (.aload_n 0, 1) := by decide +kernel
theorem dX8_move_48 : decode cX8_move 48 = .ok (.getfield 44, 3) := by decide +kernel
theorem dX8_move_51 : decode cX8_move 51 = .ok (.iload_n 1, 1) := by decide +kernel
theorem dX8_move_52 : decode cX8_move 52 = .ok (.iload_n 2, 1) := by decide +kernel
theorem dX8_move_53 : decode cX8_move 53 = .ok (.iastore, 1) := by decide +kernel
theorem dX8_move_54 : decode cX8_move 54 = .ok (.iload_n 3, 1) := by decide +kernel
theorem dX8_move_55 : decode cX8_move 55 = .ok (.ireturn, 1) := by decide +kernel
theorem dX8_becomeTerm_0 : decode cX8_becomeTerm 0 = .ok (.aload_n 0, 1) := by decide +kernel
theorem dX8_becomeTerm_1 : decode cX8_becomeTerm 1 = .ok (.iload_n 1, 1) := by decide +kernel
theorem dX8_becomeTerm_2 : decode cX8_becomeTerm 2 = .ok (.putfield 53, 3) := by decide +kernel
theorem dX8_becomeTerm_5 : decode cX8_becomeTerm 5 = .ok (.aload_n 0, 1) := by decide +kernel
theorem dX8_becomeTerm_6 : decode cX8_becomeTerm 6 = .ok (.aload_n 0, 1) := by decide +kernel
theorem dX8_becomeTerm_7 : decode cX8_becomeTerm 7 = .ok (.getfield 56, 3) := by decide +kernel
theorem dX8_becomeTerm_10 : decode cX8_becomeTerm 10 = .ok (.iload_n 1, 1) := by decide +kernel
theorem dX8_becomeTerm_11 : decode cX8_becomeTerm 11 = .ok (.if_icmp .ge 10, 3) := by decide +kernel
theorem dX8_becomeTerm_14 : decode cX8_becomeTerm 14 = .ok (.aload_n 0, 1) := by decide +kernel
theorem dX8_becomeTerm_15 : decode cX8_becomeTerm 15 = .ok (.getfield 56, 3) := by decide +kernel
theorem dX8_becomeTerm_18 : decode cX8_becomeTerm 18 = .ok (.goto 4, 3) := by decide +kernel
theorem dX8_becomeTerm_21 : decode cX8_becomeTerm 21 = .ok (.iload_n 1, 1) := by decide +kernel
theorem dX8_becomeTerm_22 : decode cX8_becomeTerm 22 = .ok (.putfield 56, 3) := by decide +kernel
theorem dX8_becomeTerm_25 : decode cX8_becomeTerm 25 = .ok (.return_, 1) := by decide +kernel
theorem dX8_master_0 : decode cX8_master 0 = .ok (.iload_n 1, 1) := by decide +kernel
theorem dX8_master_1 : decode cX8_master 1 = .ok (.ifCond .ne 10, 3) := by decide +kernel
theorem dX8_master_4 : decode cX8_master 4 = .ok (.aload_n 0, 1) := by decide +kernel
theorem dX8_master_5 : decode cX8_master 5 = .ok (.getfield 53, 3) := by decide +kernel
theorem dX8_master_8 : decode cX8_master 8 = .ok (.goto 19, 3) := by decide +kernel
theorem dX8_master_11 : decode cX8_master 11 = .ok (.iload_n 1, 1) := by decide +kernel
theorem dX8_master_12 : decode cX8_master 12 = .ok (.iconst 1, 1) := by decide +kernel
theorem dX8_master_13 : decode cX8_master 13 = .ok (.if_icmp .ne 10, 3) := by decide +kernel
theorem dX8_master_16 : decode cX8_master 16 = .ok (.aload_n 0, 1) := by decide +kernel
theorem dX8_master_17 : decode cX8_master 17 = .ok (.getfield 56, 3) := by decide +kernel
theorem dX8_master_20 : decode cX8_master 20 = .ok (.goto 7, 3) := by decide +kernel
theorem dX8_master_23 : decode cX8_master 23 = .ok (.aload_n 0, 1) := by decide +kernel
theorem dX8_master_24 : decode cX8_master 24 = .ok (.getfield 59, 3) := by decide +kernel
theorem dX8_master_27 : decode cX8_master 27 = .ok (.istore_n 3, 1) := by decide +kernel
theorem dX8_master_28 : decode cX8_master 28 = .ok (.iload_n 1, 1) := by decide +kernel
theorem dX8_master_29 : decode cX8_master 29 = .ok (.ifCond .ne 22, 3) := by decide +kernel
theorem dX8_master_32 : decode cX8_master 32 = .ok (.iload_n 2, 1) := by decide +kernel
theorem dX8_master_33 : decode cX8_master 33 = .ok (.i2l, 1) := by decide +kernel
theorem dX8_master_34 : decode cX8_master 34 = .ok (.lconst 1, 1) := by decide +kernel
theorem dX8_master_35 : decode cX8_master 35 = .ok (.ldc2_w 166, 3) := by decide +kernel
theorem dX8_master_38 : decode cX8_master 38 = .ok (.invokestatic 98, 3) := by decide +kernel
theorem dX8_master_41 : decode cX8_master 41 = .ok (.ifCond .eq 10, 3) := by decide +kernel
theorem dX8_master_44 : decode cX8_master 44 = .ok (.aload_n 0, 1) := by decide +kernel
theorem dX8_master_45 : decode cX8_master 45 = .ok (.iload_n 2, 1) := by decide +kernel
theorem dX8_master_46 : decode cX8_master 46 = .ok (.invokevirtual 168, 3) := by decide +kernel
theorem dX8_master_49 : decode cX8_master 49 = .ok (.iload_n 3, 1) := by decide +kernel
theorem dX8_master_50 : decode cX8_master 50 = .ok (.ireturn, 1) := by decide +kernel
theorem dX8_master_51 : decode cX8_master 51 = .ok (.iload_n 1, 1) := by decide +kernel
theorem dX8_master_52 : decode cX8_master 52 = .ok (.iconst 1, 1) := by decide +kernel
theorem dX8_master_53 : decode cX8_master 53 = .ok (.if_icmp .ne 24, 3) := by decide +kernel
theorem dX8_master_56 : decode cX8_master 56 = .ok (.iload_n 2, 1) := by decide +kernel
theorem dX8_master_57 : decode cX8_master 57 = .ok (.i2l, 1) := by decide +kernel
theorem dX8_master_58 : decode cX8_master 58 = .ok (.lconst 0, 1) := by decide +kernel
theorem dX8_master_59 : decode cX8_master 59 = .ok (.aload_n 0, 1) := by decide +kernel
theorem dX8_master_60 : decode cX8_master 60 = .ok (.getfield 53, 3) := by decide +kernel
theorem dX8_master_63 : decode cX8_master 63 = .ok (.i2l, 1) := by decide +kernel
theorem dX8_master_64 : decode cX8_master 64 = .ok (.invokestatic 98, 3) := by decide +kernel
theorem dX8_master_67 : decode cX8_master 67 = .ok (.ifCond .eq 10, 3) := by decide +kernel
theorem dX8_master_70 : decode cX8_master 70 = .ok (.aload_n 0, 1) := by decide +kernel
theorem dX8_master_71 : decode cX8_master 71 = .ok (.iload_n 2, 1) := by decide +kernel
theorem dX8_master_72 : decode cX8_master 72 = .ok (.putfield 56, 3) := by decide +kernel
theorem dX8_master_75 : decode cX8_master 75 = .ok (.iload_n 3, 1) := by decide +kernel
theorem dX8_master_76 : decode cX8_master 76 = .ok (.ireturn, 1) := by decide +kernel
theorem dX8_master_77 : decode cX8_master 77 = .ok (.iload_n 1, 1) := by decide +kernel
theorem dX8_master_78 : decode cX8_master 78 = .ok (.iconst 2, 1) := by decide +kernel
theorem dX8_master_79 : decode cX8_master 79 = .ok (.if_icmp .ne 22, 3) := by decide +kernel
theorem dX8_master_82 : decode cX8_master 82 = .ok (.iload_n 2, 1) := by decide +kernel
theorem dX8_master_83 : decode cX8_master 83 = .ok (.i2l, 1) := by decide +kernel
theorem dX8_master_84 : decode cX8_master 84 = .ok (.lconst 0, 1) := by decide +kernel
theorem dX8_master_85 : decode cX8_master 85 = .ok (.ldc2_w 172, 3) := by decide +kernel
theorem dX8_master_88 : decode cX8_master 88 = .ok (.invokestatic 98, 3) := by decide +kernel
theorem dX8_master_91 : decode cX8_master 91 = .ok (.ifCond .eq 10, 3) := by decide +kernel
theorem dX8_master_94 : decode cX8_master 94 = .ok (.aload_n 0, 1) := by decide +kernel
theorem dX8_master_95 : decode cX8_master 95 = .ok (.iload_n 2, 1) := by decide +kernel
theorem dX8_master_96 : decode cX8_master 96 = .ok (.putfield 59, 3) := by decide +kernel
theorem dX8_master_99 : decode cX8_master 99 = .ok (.iload_n 3, 1) := by decide +kernel
theorem dX8_master_100 : decode cX8_master 100 = .ok (.ireturn, 1) := by decide +kernel
theorem dX8_master_101 : decode cX8_master 101 = .ok (.aload_n 0, 1) := by decide +kernel
theorem dX8_master_102 : decode cX8_master 102 = .ok (.bipush (-2), 2) := by decide +kernel
theorem dX8_master_104 : decode cX8_master 104 = .ok (.invokevirtual 112, 3) := by decide +kernel
theorem dX8_master_107 : decode cX8_master 107 = .ok (.ireturn, 1) := by decide +kernel
theorem dX8_feed_0 : decode cX8_feed 0 = .ok (.iload_n 1, 1) := by decide +kernel
theorem dX8_feed_1 : decode cX8_feed 1 = .ok (.i2l, 1) := by decide +kernel
theorem dX8_feed_2 : decode cX8_feed 2 = .ok (.lconst 0, 1) := by decide +kernel
theorem dX8_feed_3 : decode cX8_feed 3 = .ok (.ldc2_w 174, 3) := by decide +kernel
theorem dX8_feed_6 : decode cX8_feed 6 = .ok (.invokestatic 98, 3) := by decide +kernel
theorem dX8_feed_9 : decode cX8_feed 9 = .ok (.ifCond .ne 10, 3) := by decide +kernel
theorem dX8_feed_12 : decode cX8_feed 12 = .ok (.aload_n 0, 1) := by decide +kernel
theorem dX8_feed_13 : decode cX8_feed 13 = .ok (.bipush (-2), 2) := by decide +kernel
theorem dX8_feed_15 : decode cX8_feed 15 = .ok (.invokevirtual 112, 3) := by decide +kernel
theorem dX8_feed_18 : decode cX8_feed 18 = .ok (.ireturn, 1) := by decide +kernel
theorem dX8_feed_19 : decode cX8_feed 19 = .ok (.aload_n 0, 1) := by decide +kernel
theorem dX8_feed_20 : decode cX8_feed 20 = .ok (.getfield 176, 3) := by decide +kernel
theorem dX8_feed_23 : decode cX8_feed 23 = .ok (.sipush 250, 3) := by decide +kernel
theorem dX8_feed_26 : decode cX8_feed 26 = .ok (.if_icmp .ne 10, 3) := by decide +kernel
theorem dX8_feed_29 : decode cX8_feed 29 = .ok (.aload_n 0, 1) := by decide +kernel
theorem dX8_feed_30 : decode cX8_feed 30 = .ok (.bipush (-6), 2) := by decide +kernel
theorem dX8_feed_32 : decode cX8_feed 32 = .ok (.invokevirtual 112, 3) := by decide +kernel
theorem dX8_feed_35 : decode cX8_feed 35 = .ok (.ireturn, 1) := by decide +kernel
theorem dX8_feed_36 : decode cX8_feed 36 = .ok (.aload_n 0, 1) := by decide +kernel
theorem dX8_feed_37 : decode cX8_feed 37 = .ok (.getfield 31, 3) := by decide +kernel
theorem dX8_feed_40 : decode cX8_feed 40 = .ok (.aload_n 0, 1) := by decide +kernel
theorem dX8_feed_41 : decode cX8_feed 41 = .ok (.dup, 1) := by decide +kernel
theorem dX8_feed_42 : decode cX8_feed 42 = .ok (.getfield 176, 3) := by decide +kernel
theorem dX8_feed_45 : decode cX8_feed 45 = .ok (.dup_x1, 1) := by decide +kernel
theorem dX8_feed_46 : decode cX8_feed 46 = .ok (.iconst 1, 1) := by decide +kernel
theorem dX8_feed_47 : decode cX8_feed 47 = .ok (.iadd, 1) := by decide +kernel
theorem dX8_feed_48 : decode cX8_feed 48 = .ok (.putfield 176, 3) := by decide +kernel
theorem dX8_feed_51 : decode cX8_feed 51 = .ok (.iload_n 1, 1) := by decide +kernel
theorem dX8_feed_52 : decode cX8_feed 52 = .ok (.iastore, 1) := by decide +kernel
theorem dX8_feed_53 : decode cX8_feed 53 = .ok (.aload_n 0, 1) := by decide +kernel
theorem dX8_feed_54 : decode cX8_feed 54 = .ok (.getfield 176, 3) := by decide +kernel
theorem dX8_feed_57 : decode cX8_feed 57 = .ok (.ireturn, 1) := by decide +kernel
theorem dX8_wipe_0 : decode cX8_wipe 0 = .ok (.aload_n 0, 1) := by decide +kernel
theorem dX8_wipe_1 : decode cX8_wipe 1 = .ok (.getfield 176, 3) := by decide +kernel
theorem dX8_wipe_4 : decode cX8_wipe 4 = .ok (.istore_n 1, 1) := by decide +kernel
theorem dX8_wipe_5 : decode cX8_wipe 5 = .ok (.aload_n 0, 1) := by decide +kernel
theorem dX8_wipe_6 : decode cX8_wipe 6 = .ok (.iconst 0, 1) := by decide +kernel
theorem dX8_wipe_7 : decode cX8_wipe 7 = .ok (.putfield 176, 3) := by decide +kernel
theorem dX8_wipe_10 : decode cX8_wipe 10 = .ok (.iload_n 1, 1) := by decide +kernel
theorem dX8_wipe_11 : decode cX8_wipe 11 = .ok (.ireturn, 1) := by decide +kernel
theorem dX8_isLetter_0 : decode cX8_isLetter 0 = .ok (.iload_n 0, 1) := by decide +kernel
theorem dX8_isLetter_1 : decode cX8_isLetter 1 = .ok (.bipush 97, 2) := by decide +kernel
theorem dX8_isLetter_3 : decode cX8_isLetter 3 = .ok (.if_icmp .lt 13, 3) := by decide +kernel
theorem dX8_isLetter_6 : decode cX8_isLetter 6 = .ok (.iload_n 0, 1) := by decide +kernel
theorem dX8_isLetter_7 : decode cX8_isLetter 7 = .ok (.bipush 122, 2) := by decide +kernel
theorem dX8_isLetter_9 : decode cX8_isLetter 9 = .ok (.if_icmp .gt 7, 3) := by decide +kernel
theorem dX8_isLetter_12 : decode cX8_isLetter 12 = .ok (.iconst 1, 1) := by decide +kernel
theorem dX8_isLetter_13 : decode cX8_isLetter 13 = .ok (.goto 4, 3) := by decide +kernel
theorem dX8_isLetter_16 : decode cX8_isLetter 16 = .ok (.iconst 0, 1) := by decide +kernel
theorem dX8_isLetter_17 : decode cX8_isLetter 17 = .ok (.ireturn, 1) := by decide +kernel
theorem dX8_isDigit_0 : decode cX8_isDigit 0 = .ok (.iload_n 0, 1) := by decide +kernel
theorem dX8_isDigit_1 : decode cX8_isDigit 1 = .ok (.bipush 48, 2) := by decide +kernel
theorem dX8_isDigit_3 : decode cX8_isDigit 3 = .ok (.if_icmp .lt 13, 3) := by decide +kernel
theorem dX8_isDigit_6 : decode cX8_isDigit 6 = .ok (.iload_n 0, 1) := by decide +kernel
theorem dX8_isDigit_7 : decode cX8_isDigit 7 = .ok (.bipush 57, 2) := by decide +kernel
theorem dX8_isDigit_9 : decode cX8_isDigit 9 = .ok (.if_icmp .gt 7, 3) := by decide +kernel
theorem dX8_isDigit_12 : decode cX8_isDigit 12 = .ok (.iconst 1, 1) := by decide +kernel
theorem dX8_isDigit_13 : decode cX8_isDigit 13 = .ok (.goto 4, 3) := by decide +kernel
theorem dX8_isDigit_16 : decode cX8_isDigit 16 = .ok (.iconst 0, 1) := by decide +kernel
theorem dX8_isDigit_17 : decode cX8_isDigit 17 = .ok (.ireturn, 1) := by decide +kernel
theorem dX8_look_0 : decode cX8_look 0 = .ok (.aload_n 0, 1) := by decide +kernel
theorem dX8_look_1 : decode cX8_look 1 = .ok (.getfield 179, 3) := by decide +kernel
theorem dX8_look_4 : decode cX8_look 4 = .ok (.aload_n 0, 1) := by decide +kernel
theorem dX8_look_5 : decode cX8_look 5 = .ok (.getfield 176, 3) := by decide +kernel
theorem dX8_look_8 : decode cX8_look 8 = .ok (.if_icmp .ge 30, 3) := by decide +kernel
theorem dX8_look_11 : decode cX8_look 11 = .ok (.aload_n 0, 1) := by decide +kernel
theorem dX8_look_12 : decode cX8_look 12 = .ok (.getfield 31, 3) := by decide +kernel
theorem dX8_look_15 : decode cX8_look 15 = .ok (.aload_n 0, 1) := by decide +kernel
theorem dX8_look_16 : decode cX8_look 16 = .ok (.getfield 179, 3) := by decide +kernel
theorem dX8_look_19 : decode cX8_look 19 = .ok (.iaload, 1) := by decide +kernel
theorem dX8_look_20 : decode cX8_look 20 = .ok (.bipush 32, 2) := by decide +kernel
theorem dX8_look_22 : decode cX8_look 22 = .ok (.if_icmp .ne 16, 3) := by decide +kernel
theorem dX8_look_25 : decode cX8_look 25 = .ok (.aload_n 0, 1) := by decide +kernel
theorem dX8_look_26 : decode cX8_look 26 = .ok (.dup, 1) := by decide +kernel
theorem dX8_look_27 : decode cX8_look 27 = .ok (.getfield 179, 3) := by decide +kernel
theorem dX8_look_30 : decode cX8_look 30 = .ok (.iconst 1, 1) := by decide +kernel
theorem dX8_look_31 : decode cX8_look 31 = .ok (.iadd, 1) := by decide +kernel
theorem dX8_look_32 : decode cX8_look 32 = .ok (.putfield 179, 3) := by decide +kernel
theorem dX8_look_35 : decode cX8_look 35 = .ok (.goto (-35), 3) := by decide +kernel
theorem dX8_look_38 : decode cX8_look 38 = .ok (.aload_n 0, 1) := by decide +kernel
theorem dX8_look_39 : decode cX8_look 39 = .ok (.aload_n 0, 1) := by decide +kernel
theorem dX8_look_40 : decode cX8_look 40 = .ok (.getfield 179, 3) := by decide +kernel
theorem dX8_look_43 : decode cX8_look 43 = .ok (.putfield 182, 3) := by decide +kernel
theorem dX8_look_46 : decode cX8_look 46 = .ok (.aload_n 0, 1) := by decide +kernel
theorem dX8_look_47 : decode cX8_look 47 = .ok (.iconst 0, 1) := by decide +kernel
theorem dX8_look_48 : decode cX8_look 48 = .ok (.putfield 185, 3) := by decide +kernel
theorem dX8_look_51 : decode cX8_look 51 = .ok (.aload_n 0, 1) := by decide +kernel
theorem dX8_look_52 : decode cX8_look 52 = .ok (.getfield 179, 3) := by decide +kernel
theorem dX8_look_55 : decode cX8_look 55 = .ok (.aload_n 0, 1) := by decide +kernel
theorem dX8_look_56 : decode cX8_look 56 = .ok (.getfield 176, 3) := by decide +kernel
theorem dX8_look_59 : decode cX8_look 59 = .ok (.if_icmp .ne 11, 3) := by decide +kernel
theorem dX8_look_62 : decode cX8_look 62 = .ok (.aload_n 0, 1) := by decide +kernel
theorem dX8_look_63 : decode cX8_look 63 = .ok (.iconst 0, 1) := by decide +kernel
theorem dX8_look_64 : decode cX8_look 64 = .ok (.putfield 188, 3) := by decide +kernel
theorem dX8_look_67 : decode cX8_look 67 = .ok (.goto 196, 3) := by decide +kernel
theorem dX8_look_70 : decode cX8_look 70 = .ok (.aload_n 0, 1) := by decide +kernel
theorem dX8_look_71 : decode cX8_look 71 = .ok (.getfield 31, 3) := by decide +kernel
theorem dX8_look_74 : decode cX8_look 74 = .ok (.aload_n 0, 1) := by decide +kernel
theorem dX8_look_75 : decode cX8_look 75 = .ok (.getfield 179, 3) := by decide +kernel
theorem dX8_look_78 : decode cX8_look 78 = .ok (.iaload, 1) := by decide +kernel
theorem dX8_look_79 : decode cX8_look 79 = .ok (.invokestatic 191, 3) := by decide +kernel
theorem dX8_look_82 : decode cX8_look 82 = .ok (.ifCond .eq 47, 3) := by decide +kernel
theorem dX8_look_85 : decode cX8_look 85 = .ok (.aload_n 0, 1) := by decide +kernel
theorem dX8_look_86 : decode cX8_look 86 = .ok (.iconst 1, 1) := by decide +kernel
theorem dX8_look_87 : decode cX8_look 87 = .ok (.putfield 188, 3) := by decide +kernel
theorem dX8_look_90 : decode cX8_look 90 = .ok (.aload_n 0, 1) := by decide +kernel
theorem dX8_look_91 : decode cX8_look 91 = .ok (.getfield 179, 3) := by decide +kernel
theorem dX8_look_94 : decode cX8_look 94 = .ok (.aload_n 0, 1) := by decide +kernel
theorem dX8_look_95 : decode cX8_look 95 = .ok (.getfield 176, 3) := by decide +kernel
theorem dX8_look_98 : decode cX8_look 98 = .ok (.if_icmp .ge 165, 3) := by decide +kernel
theorem dX8_look_101 : decode cX8_look 101 = .ok (.aload_n 0, 1) := by decide +kernel
theorem dX8_look_102 : decode cX8_look 102 = .ok (.getfield 31, 3) := by decide +kernel
theorem dX8_look_105 : decode cX8_look 105 = .ok (.aload_n 0, 1) := by decide +kernel
theorem dX8_look_106 : decode cX8_look 106 = .ok (.getfield 179, 3) := by decide +kernel
theorem dX8_look_109 : decode cX8_look 109 = .ok (.iaload, 1) := by decide +kernel
theorem dX8_look_110 : decode cX8_look 110 = .ok (.invokestatic 191, 3) := by decide +kernel
theorem dX8_look_113 : decode cX8_look 113 = .ok (.ifCond .eq 150, 3) := by decide +kernel
theorem dX8_look_116 : decode cX8_look 116 = .ok (.aload_n 0, 1) := by decide +kernel
theorem dX8_look_117 : decode cX8_look 117 = .ok (.dup, 1) := by decide +kernel
theorem dX8_look_118 : decode cX8_look 118 = .ok (.getfield 179, 3) := by decide +kernel
theorem dX8_look_121 : decode cX8_look 121 = .ok (.iconst 1, 1) := by decide +kernel
theorem dX8_look_122 : decode cX8_look 122 = .ok (.iadd, 1) := by decide +kernel
theorem dX8_look_123 : decode cX8_look 123 = .ok (.putfield 179, 3) := by decide +kernel
theorem dX8_look_126 : decode cX8_look 126 = .ok (.goto (-36), 3) := by decide +kernel
theorem dX8_look_129 : decode cX8_look 129 = .ok (.aload_n 0, 1) := by decide +kernel
theorem dX8_look_130 : decode cX8_look 130 = .ok (.getfield 31, 3) := by decide +kernel
theorem dX8_look_133 : decode cX8_look 133 = .ok (.aload_n 0, 1) := by decide +kernel
theorem dX8_look_134 : decode cX8_look 134 = .ok (.getfield 179, 3) := by decide +kernel
theorem dX8_look_137 : decode cX8_look 137 = .ok (.iaload, 1) := by decide +kernel
theorem dX8_look_138 : decode cX8_look 138 = .ok (.invokestatic 194, 3) := by decide +kernel
theorem dX8_look_141 : decode cX8_look 141 = .ok (.ifCond .eq 89, 3) := by decide +kernel
theorem dX8_look_144 : decode cX8_look 144 = .ok (.aload_n 0, 1) := by decide +kernel
theorem dX8_look_145 : decode cX8_look 145 = .ok (.iconst 2, 1) := by decide +kernel
theorem dX8_look_146 : decode cX8_look 146 = .ok (.putfield 188, 3) := by decide +kernel
theorem dX8_look_149 : decode cX8_look 149 = .ok (.aload_n 0, 1) := by decide +kernel
theorem dX8_look_150 : decode cX8_look 150 = .ok (.getfield 179, 3) := by decide +kernel
theorem dX8_look_153 : decode cX8_look 153 = .ok (.aload_n 0, 1) := by decide +kernel
theorem dX8_look_154 : decode cX8_look 154 = .ok (.getfield 176, 3) := by decide +kernel
theorem dX8_look_157 : decode cX8_look 157 = .ok (.if_icmp .ge 106, 3) := by decide +kernel
theorem dX8_look_160 : decode cX8_look 160 = .ok (.aload_n 0, 1) := by decide +kernel
theorem dX8_look_161 : decode cX8_look 161 = .ok (.getfield 31, 3) := by decide +kernel
theorem dX8_look_164 : decode cX8_look 164 = .ok (.aload_n 0, 1) := by decide +kernel
theorem dX8_look_165 : decode cX8_look 165 = .ok (.getfield 179, 3) := by decide +kernel
theorem dX8_look_168 : decode cX8_look 168 = .ok (.iaload, 1) := by decide +kernel
theorem dX8_look_169 : decode cX8_look 169 = .ok (.invokestatic 194, 3) := by decide +kernel
theorem dX8_look_172 : decode cX8_look 172 = .ok (.ifCond .eq 91, 3) := by decide +kernel
theorem dX8_look_175 : decode cX8_look 175 = .ok (.aload_n 0, 1) := by decide +kernel
theorem dX8_look_176 : decode cX8_look 176 = .ok (.aload_n 0, 1) := by decide +kernel
theorem dX8_look_177 : decode cX8_look 177 = .ok (.getfield 179, 3) := by decide +kernel
theorem dX8_look_180 : decode cX8_look 180 = .ok (.aload_n 0, 1) := by decide +kernel
theorem dX8_look_181 : decode cX8_look 181 = .ok (.getfield 182, 3) := by decide +kernel
theorem dX8_look_184 : decode cX8_look 184 = .ok (.isub, 1) := by decide +kernel
theorem dX8_look_185 : decode cX8_look 185 = .ok (.iconst 4, 1) := by decide +kernel
theorem dX8_look_186 : decode cX8_look 186 = .ok (.if_icmp .ge 26, 3) := by decide +kernel
theorem dX8_look_189 : decode cX8_look 189 = .ok (.aload_n 0, 1) := by decide +kernel
theorem dX8_look_190 : decode cX8_look 190 = .ok (.getfield 185, 3) := by decide +kernel
theorem dX8_look_193 : decode cX8_look 193 = .ok (.bipush 10, 2) := by decide +kernel
theorem dX8_look_195 : decode cX8_look 195 = .ok (.imul, 1) := by decide +kernel
theorem dX8_look_196 : decode cX8_look 196 = .ok (.aload_n 0, 1) := by decide +kernel
theorem dX8_look_197 : decode cX8_look 197 = .ok (.getfield 31, 3) := by decide +kernel
theorem dX8_look_200 : decode cX8_look 200 = .ok (.aload_n 0, 1) := by decide +kernel
theorem dX8_look_201 : decode cX8_look 201 = .ok (.getfield 179, 3) := by decide +kernel
theorem dX8_look_204 : decode cX8_look 204 = .ok (.iaload, 1) := by decide +kernel
theorem dX8_look_205 : decode cX8_look 205 = .ok (.iadd, 1) := by decide +kernel
theorem dX8_look_206 : decode cX8_look 206 = .ok (.bipush 48, 2) := by decide +kernel
theorem dX8_look_208 : decode cX8_look 208 = .ok (.isub, 1) := by decide +kernel
theorem dX8_look_209 : decode cX8_look 209 = .ok (.goto 5, 3) := by decide +kernel
theorem dX8_look_212 : decode cX8_look 212 = .ok (.ldc 197, 2) := by decide +kernel
theorem dX8_look_214 : decode cX8_look 214 = .ok (.putfield 185, 3) := by decide +kernel
theorem dX8_look_217 : decode cX8_look 217 = .ok (.aload_n 0, 1) := by decide +kernel
theorem dX8_look_218 : decode cX8_look 218 = .ok (.dup, 1) := by decide +kernel
theorem dX8_look_219 : decode cX8_look 219 = .ok (.getfield 179, 3) := by decide +kernel
theorem dX8_look_222 : decode cX8_look 222 = .ok (.iconst 1, 1) := by decide +kernel
theorem dX8_look_223 : decode cX8_look 223 = .ok (.iadd, 1) := by decide +kernel
theorem dX8_look_224 : decode cX8_look 224 = .ok (.putfield 179, 3) := by decide +kernel
theorem dX8_look_227 : decode cX8_look 227 = .ok (.goto (-78), 3) := by decide +kernel
theorem dX8_look_230 : decode cX8_look 230 = .ok (.aload_n 0, 1) := by decide +kernel
theorem dX8_look_231 : decode cX8_look 231 = .ok (.aload_n 0, 1) := by decide +kernel
theorem dX8_look_232 : decode cX8_look 232 = .ok (.getfield 31, 3) := by decide +kernel
theorem dX8_look_235 : decode cX8_look 235 = .ok (.aload_n 0, 1) := by decide +kernel
theorem dX8_look_236 : decode cX8_look 236 = .ok (.getfield 179, 3) := by decide +kernel
theorem dX8_look_239 : decode cX8_look 239 = .ok (.iaload, 1) := by decide +kernel
theorem dX8_look_240 : decode cX8_look 240 = .ok (.bipush 59, 2) := by decide +kernel
theorem dX8_look_242 : decode cX8_look 242 = .ok (.if_icmp .ne 7, 3) := by decide +kernel
theorem dX8_look_245 : decode cX8_look 245 = .ok (.iconst 3, 1) := by decide +kernel
theorem dX8_look_246 : decode cX8_look 246 = .ok (.goto 4, 3) := by decide +kernel
theorem dX8_look_249 : decode cX8_look 249 = .ok (.iconst 4, 1) := by decide +kernel
theorem dX8_look_250 : decode cX8_look 250 = .ok (.putfield 188, 3) := by decide +kernel
theorem dX8_look_253 : decode cX8_look 253 = .ok (.aload_n 0, 1) := by decide +kernel
theorem dX8_look_254 : decode cX8_look 254 = .ok (.dup, 1) := by decide +kernel
theorem dX8_look_255 : decode cX8_look 255 = .ok (.getfield 179, 3) := by decide +kernel
theorem dX8_look_258 : decode cX8_look 258 = .ok (.iconst 1, 1) := by decide +kernel
theorem dX8_look_259 : decode cX8_look 259 = .ok (.iadd, 1) := by decide +kernel
theorem dX8_look_260 : decode cX8_look 260 = .ok (.putfield 179, 3) := by decide +kernel
theorem dX8_look_263 : decode cX8_look 263 = .ok (.return_, 1) := by decide +kernel
theorem dX8_wrong_0 : decode cX8_wrong 0 = .ok (.aload_n 0, 1) := by decide +kernel
theorem dX8_wrong_1 : decode cX8_wrong 1 = .ok (.aload_n 0, 1) := by decide +kernel
theorem dX8_wrong_2 : decode cX8_wrong 2 = .ok (.getfield 182, 3) := by decide +kernel
theorem dX8_wrong_5 : decode cX8_wrong 5 = .ok (.putfield 198, 3) := by decide +kernel
theorem dX8_wrong_8 : decode cX8_wrong 8 = .ok (.iconst 0, 1) := by decide +kernel
theorem dX8_wrong_9 : decode cX8_wrong 9 = .ok (.ireturn, 1) := by decide +kernel
theorem dX8_isWord_0 : decode cX8_isWord 0 = .ok (.aload_n 0, 1) := by decide +kernel
theorem dX8_isWord_1 : decode cX8_isWord 1 = .ok (.getfield 188, 3) := by decide +kernel
theorem dX8_isWord_4 : decode cX8_isWord 4 = .ok (.iconst 1, 1) := by decide +kernel
theorem dX8_isWord_5 : decode cX8_isWord 5 = .ok (.if_icmp .ne 19, 3) := by decide +kernel
theorem dX8_isWord_8 : decode cX8_isWord 8 = .ok (.aload_n 0, 1) := by decide +kernel
theorem dX8_isWord_9 : decode cX8_isWord 9 = .ok (.getfield 179, 3) := by decide +kernel
theorem dX8_isWord_12 : decode cX8_isWord 12 = .ok (.aload_n 0, 1) := by decide +kernel
theorem dX8_isWord_13 : decode cX8_isWord 13 = .ok (.getfield 182, 3) := by decide +kernel
theorem dX8_isWord_16 : decode cX8_isWord 16 = .ok (.isub, 1) := by decide +kernel
theorem dX8_isWord_17 : decode cX8_isWord 17 = .ok (.aload_n 1, 1) := by decide +kernel
theorem dX8_isWord_18 : decode cX8_isWord 18 = .ok (.invokevirtual 201, 3) := by decide +kernel
theorem dX8_isWord_21 : decode cX8_isWord 21 = .ok (.if_icmp .eq 5, 3) := by decide +kernel
theorem dX8_isWord_24 : decode cX8_isWord 24 = .ok (.iconst 0, 1) := by decide +kernel
theorem dX8_isWord_25 : decode cX8_isWord 25 = .ok (.ireturn, 1) := by decide +kernel
theorem dX8_isWord_26 : decode cX8_isWord 26 = .ok (.iconst 0, 1) := by decide +kernel
theorem dX8_isWord_27 : decode cX8_isWord 27 = .ok (.istore_n 2, 1) := by decide +kernel
theorem dX8_isWord_28 : decode cX8_isWord 28 = .ok (.iload_n 2, 1) := by decide +kernel
theorem dX8_isWord_29 : decode cX8_isWord 29 = .ok (.aload_n 1, 1) := by decide +kernel
theorem dX8_isWord_30 : decode cX8_isWord 30 = .ok (.invokevirtual 201, 3) := by decide +kernel
theorem dX8_isWord_33 : decode cX8_isWord 33 = .ok (.if_icmp .ge 30, 3) := by decide +kernel
theorem dX8_isWord_36 : decode cX8_isWord 36 = .ok (.aload_n 0, 1) := by decide +kernel
theorem dX8_isWord_37 : decode cX8_isWord 37 = .ok (.getfield 31, 3) := by decide +kernel
theorem dX8_isWord_40 : decode cX8_isWord 40 = .ok (.aload_n 0, 1) := by decide +kernel
theorem dX8_isWord_41 : decode cX8_isWord 41 = .ok (.getfield 182, 3) := by decide +kernel
theorem dX8_isWord_44 : decode cX8_isWord 44 = .ok (.iload_n 2, 1) := by decide +kernel
theorem dX8_isWord_45 : decode cX8_isWord 45 = .ok (.iadd, 1) := by decide +kernel
theorem dX8_isWord_46 : decode cX8_isWord 46 = .ok (.iaload, 1) := by decide +kernel
theorem dX8_isWord_47 : decode cX8_isWord 47 = .ok (.aload_n 1, 1) := by decide +kernel
theorem dX8_isWord_48 : decode cX8_isWord 48 = .ok (.iload_n 2, 1) := by decide +kernel
theorem dX8_isWord_49 : decode cX8_isWord 49 = .ok (.invokevirtual 207, 3) := by decide +kernel
theorem dX8_isWord_52 : decode cX8_isWord 52 = .ok (.if_icmp .eq 5, 3) := by decide +kernel
theorem dX8_isWord_55 : decode cX8_isWord 55 = .ok (.iconst 0, 1) := by decide +kernel
theorem dX8_isWord_56 : decode cX8_isWord 56 = .ok (.ireturn, 1) := by decide +kernel
theorem dX8_isWord_57 : decode cX8_isWord 57 = .ok (.iinc 2 1, 3) := by decide +kernel
theorem dX8_isWord_60 : decode cX8_isWord 60 = .ok (.goto (-32), 3) := by decide +kernel
theorem dX8_isWord_63 : decode cX8_isWord 63 = .ok (.iconst 1, 1) := by decide +kernel
theorem dX8_isWord_64 : decode cX8_isWord 64 = .ok (.ireturn, 1) := by decide +kernel
theorem dX8_number_0 : decode cX8_number 0 = .ok (.aload_n 0, 1) := by decide +kernel
theorem dX8_number_1 : decode cX8_number 1 = .ok (.getfield 188, 3) := by decide +kernel
theorem dX8_number_4 : decode cX8_number 4 = .ok (.iconst 2, 1) := by decide +kernel
theorem dX8_number_5 : decode cX8_number 5 = .ok (.if_icmp .ne 18, 3) := by decide +kernel
theorem dX8_number_8 : decode cX8_number 8 = .ok (.aload_n 0, 1) := by decide +kernel
theorem dX8_number_9 : decode cX8_number 9 = .ok (.getfield 185, 3) := by decide +kernel
theorem dX8_number_12 : decode cX8_number 12 = .ok (.i2l, 1) := by decide +kernel
theorem dX8_number_13 : decode cX8_number 13 = .ok (.iload_n 2, 1) := by decide +kernel
theorem dX8_number_14 : decode cX8_number 14 = .ok (.i2l, 1) := by decide +kernel
theorem dX8_number_15 : decode cX8_number 15 = .ok (.iload_n 3, 1) := by decide +kernel
theorem dX8_number_16 : decode cX8_number 16 = .ok (.i2l, 1) := by decide +kernel
theorem dX8_number_17 : decode cX8_number 17 = .ok (.invokestatic 98, 3) := by decide +kernel
theorem dX8_number_20 : decode cX8_number 20 = .ok (.ifCond .ne 8, 3) := by decide +kernel
theorem dX8_number_23 : decode cX8_number 23 = .ok (.aload_n 0, 1) := by decide +kernel
theorem dX8_number_24 : decode cX8_number 24 = .ok (.invokevirtual 211, 3) := by decide +kernel
theorem dX8_number_27 : decode cX8_number 27 = .ok (.ireturn, 1) := by decide +kernel
theorem dX8_number_28 : decode cX8_number 28 = .ok (.aload_n 0, 1) := by decide +kernel
theorem dX8_number_29 : decode cX8_number 29 = .ok (.getfield 74, 3) := by decide +kernel
theorem dX8_number_32 : decode cX8_number 32 = .ok (.iload_n 1, 1) := by decide +kernel
theorem dX8_number_33 : decode cX8_number 33 = .ok (.aload_n 0, 1) := by decide +kernel
theorem dX8_number_34 : decode cX8_number 34 = .ok (.getfield 185, 3) := by decide +kernel
theorem dX8_number_37 : decode cX8_number 37 = .ok (.iastore, 1) := by decide +kernel
theorem dX8_number_38 : decode cX8_number 38 = .ok (.aload_n 0, 1) := by decide +kernel
theorem dX8_number_39 : decode cX8_number 39 = .ok (.invokevirtual 215, 3) := by decide +kernel
theorem dX8_number_42 : decode cX8_number 42 = .ok (.iconst 1, 1) := by decide +kernel
theorem dX8_number_43 : decode cX8_number 43 = .ok (.ireturn, 1) := by decide +kernel
theorem dX8_tells_0 : decode cX8_tells 0 = .ok (.aload_n 0, 1) := by decide +kernel
theorem dX8_tells_1 : decode cX8_tells 1 = .ok (.invokevirtual 215, 3) := by decide +kernel
theorem dX8_tells_4 : decode cX8_tells 4 = .ok (.aload_n 0, 1) := by decide +kernel
theorem dX8_tells_5 : decode cX8_tells 5 = .ok (.iconst 0, 1) := by decide +kernel
theorem dX8_tells_6 : decode cX8_tells 6 = .ok (.iload_n 1, 1) := by decide +kernel
theorem dX8_tells_7 : decode cX8_tells 7 = .ok (.iload_n 2, 1) := by decide +kernel
theorem dX8_tells_8 : decode cX8_tells 8 = .ok (.invokevirtual 218, 3) := by decide +kernel
theorem dX8_tells_11 : decode cX8_tells 11 = .ok (.ireturn, 1) := by decide +kernel
theorem dX8_freeDesk_0 : decode cX8_freeDesk 0 = .ok (.aload_n 0, 1) := by decide +kernel
theorem dX8_freeDesk_1 : decode cX8_freeDesk 1 = .ok (.getfield 188, 3) := by decide +kernel
theorem dX8_freeDesk_4 : decode cX8_freeDesk 4 = .ok (.iconst 2, 1) := by decide +kernel
theorem dX8_freeDesk_5 : decode cX8_freeDesk 5 = .ok (.if_icmp .ne 31, 3) := by decide +kernel
theorem dX8_freeDesk_8 : decode cX8_freeDesk 8 = .ok (.aload_n 0, 1) := by decide +kernel
theorem dX8_freeDesk_9 : decode cX8_freeDesk 9 = .ok (.aload_n 0, 1) := by decide +kernel
theorem dX8_freeDesk_10 : decode cX8_freeDesk 10 = .ok (.getfield 185, 3) := by decide +kernel
theorem dX8_freeDesk_13 : decode cX8_freeDesk 13 = .ok (.invokevirtual 143, 3) := by decide +kernel
theorem dX8_freeDesk_16 : decode cX8_freeDesk 16 = .ok (.ifCond .eq 20, 3) := by decide +kernel
theorem dX8_freeDesk_19 : decode cX8_freeDesk 19 = .ok (.aload_n 0, 1) := by decide +kernel
theorem dX8_freeDesk_20 : decode cX8_freeDesk 20 = .ok (.aload_n 0, 1) := by decide +kernel
theorem dX8_freeDesk_21 : decode cX8_freeDesk 21 = .ok (.getfield 185, 3) := by decide +kernel
theorem dX8_freeDesk_24 : decode cX8_freeDesk 24 = .ok (.invokevirtual 148, 3) := by decide +kernel
theorem dX8_freeDesk_27 : decode cX8_freeDesk 27 = .ok (.iconst (-1), 1) := by decide +kernel
theorem dX8_freeDesk_28 : decode cX8_freeDesk 28 = .ok (.if_icmp .eq 8, 3) := by decide +kernel
theorem dX8_freeDesk_31 : decode cX8_freeDesk 31 = .ok (.aload_n 0, 1) := by decide +kernel
theorem dX8_freeDesk_32 : decode cX8_freeDesk 32 = .ok (.invokevirtual 211, 3) := by decide +kernel
theorem dX8_freeDesk_35 : decode cX8_freeDesk 35 = .ok (.ireturn, 1) := by decide +kernel
theorem dX8_freeDesk_36 : decode cX8_freeDesk 36 = .ok (.aload_n 0, 1) := by decide +kernel
theorem dX8_freeDesk_37 : decode cX8_freeDesk 37 = .ok (.iload_n 1, 1) := by decide +kernel
theorem dX8_freeDesk_38 : decode cX8_freeDesk 38 = .ok (.iconst 0, 1) := by decide +kernel
theorem dX8_freeDesk_39 : decode cX8_freeDesk 39 = .ok (.iconst 4, 1) := by decide +kernel
theorem dX8_freeDesk_40 : decode cX8_freeDesk 40 = .ok (.aload_n 0, 1) := by decide +kernel
theorem dX8_freeDesk_41 : decode cX8_freeDesk 41 = .ok (.getfield 37, 3) := by decide +kernel
theorem dX8_freeDesk_44 : decode cX8_freeDesk 44 = .ok (.imul, 1) := by decide +kernel
theorem dX8_freeDesk_45 : decode cX8_freeDesk 45 = .ok (.iconst 1, 1) := by decide +kernel
theorem dX8_freeDesk_46 : decode cX8_freeDesk 46 = .ok (.isub, 1) := by decide +kernel
theorem dX8_freeDesk_47 : decode cX8_freeDesk 47 = .ok (.invokevirtual 218, 3) := by decide +kernel
theorem dX8_freeDesk_50 : decode cX8_freeDesk 50 = .ok (.ireturn, 1) := by decide +kernel
theorem dX8_statement_0 : decode cX8_statement 0 = .ok (.aload_n 0, 1) := by decide +kernel
theorem dX8_statement_1 : decode cX8_statement 1 = .ok (.ldc 222, 2) := by decide +kernel
theorem dX8_statement_3 : decode cX8_statement 3 = .ok (.invokevirtual 223, 3) := by decide +kernel
theorem dX8_statement_6 : decode cX8_statement 6 = .ok (.ifCond .eq 40, 3) := by decide +kernel
theorem dX8_statement_9 : decode cX8_statement 9 = .ok (.aload_n 0, 1) := by decide +kernel
theorem dX8_statement_10 : decode cX8_statement 10 = .ok (.getfield 95, 3) := by decide +kernel
theorem dX8_statement_13 : decode cX8_statement 13 = .ok (.ifCond .ne 33, 3) := by decide +kernel
theorem dX8_statement_16 : decode cX8_statement 16 = .ok (.aload_n 0, 1) := by decide +kernel
theorem dX8_statement_17 : decode cX8_statement 17 = .ok (.iconst 2, 1) := by decide +kernel
theorem dX8_statement_18 : decode cX8_statement 18 = .ok (.iconst 4, 1) := by decide +kernel
theorem dX8_statement_19 : decode cX8_statement 19 = .ok (.invokevirtual 227, 3) := by decide +kernel
theorem dX8_statement_22 : decode cX8_statement 22 = .ok (.istore_n 1, 1) := by decide +kernel
theorem dX8_statement_23 : decode cX8_statement 23 = .ok (.aload_n 0, 1) := by decide +kernel
theorem dX8_statement_24 : decode cX8_statement 24 = .ok (.iload_n 1, 1) := by decide +kernel
theorem dX8_statement_25 : decode cX8_statement 25 = .ok (.ifCond .eq 12, 3) := by decide +kernel
theorem dX8_statement_28 : decode cX8_statement 28 = .ok (.aload_n 0, 1) := by decide +kernel
theorem dX8_statement_29 : decode cX8_statement 29 = .ok (.getfield 74, 3) := by decide +kernel
theorem dX8_statement_32 : decode cX8_statement 32 = .ok (.iconst 0, 1) := by decide +kernel
theorem dX8_statement_33 : decode cX8_statement 33 = .ok (.iaload, 1) := by decide +kernel
theorem dX8_statement_34 : decode cX8_statement 34 = .ok (.goto 7, 3) := by decide +kernel
theorem dX8_statement_37 : decode cX8_statement 37 = .ok (.aload_n 0, 1) := by decide +kernel
theorem dX8_statement_38 : decode cX8_statement 38 = .ok (.getfield 37, 3) := by decide +kernel
theorem dX8_statement_41 : decode cX8_statement 41 = .ok (.putfield 37, 3) := by decide +kernel
theorem dX8_statement_44 : decode cX8_statement 44 = .ok (.iload_n 1, 1) := by decide +kernel
theorem dX8_statement_45 : decode cX8_statement 45 = .ok (.ireturn, 1) := by decide +kernel
theorem dX8_statement_46 : decode cX8_statement 46 = .ok (.aload_n 0, 1) := by decide +kernel
theorem dX8_statement_47 : decode cX8_statement 47 = .ok (.ldc 230, 2) := by decide +kernel
theorem dX8_statement_49 : decode cX8_statement 49 = .ok (.invokevirtual 223, 3) := by decide +kernel
theorem dX8_statement_52 : decode cX8_statement 52 = .ok (.ifCond .eq 66, 3) := by decide +kernel
theorem dX8_statement_55 : decode cX8_statement 55 = .ok (.aload_n 0, 1) := by decide +kernel
theorem dX8_statement_56 : decode cX8_statement 56 = .ok (.getfield 95, 3) := by decide +kernel
theorem dX8_statement_59 : decode cX8_statement 59 = .ok (.bipush 12, 2) := by decide +kernel
theorem dX8_statement_61 : decode cX8_statement 61 = .ok (.if_icmp .ge 57, 3) := by decide +kernel
theorem dX8_statement_64 : decode cX8_statement 64 = .ok (.aload_n 0, 1) := by decide +kernel
theorem dX8_statement_65 : decode cX8_statement 65 = .ok (.iconst 0, 1) := by decide +kernel
theorem dX8_statement_66 : decode cX8_statement 66 = .ok (.iconst 5, 1) := by decide +kernel
theorem dX8_statement_67 : decode cX8_statement 67 = .ok (.invokevirtual 227, 3) := by decide +kernel
theorem dX8_statement_70 : decode cX8_statement 70 = .ok (.ifCond .eq 22, 3) := by decide +kernel
theorem dX8_statement_73 : decode cX8_statement 73 = .ok (.aload_n 0, 1) := by decide +kernel
theorem dX8_statement_74 : decode cX8_statement 74 = .ok (.iconst 1, 1) := by decide +kernel
theorem dX8_statement_75 : decode cX8_statement 75 = .ok (.invokevirtual 232, 3) := by decide +kernel
theorem dX8_statement_78 : decode cX8_statement 78 = .ok (.ifCond .eq 14, 3) := by decide +kernel
theorem dX8_statement_81 : decode cX8_statement 81 = .ok (.aload_n 0, 1) := by decide +kernel
theorem dX8_statement_82 : decode cX8_statement 82 = .ok (.iconst 2, 1) := by decide +kernel
theorem dX8_statement_83 : decode cX8_statement 83 = .ok (.iconst 0, 1) := by decide +kernel
theorem dX8_statement_84 : decode cX8_statement 84 = .ok (.bipush 9, 2) := by decide +kernel
theorem dX8_statement_86 : decode cX8_statement 86 = .ok (.invokevirtual 218, 3) := by decide +kernel
theorem dX8_statement_89 : decode cX8_statement 89 = .ok (.ifCond .ne 5, 3) := by decide +kernel
theorem dX8_statement_92 : decode cX8_statement 92 = .ok (.iconst 0, 1) := by decide +kernel
theorem dX8_statement_93 : decode cX8_statement 93 = .ok (.ireturn, 1) := by decide +kernel
theorem dX8_statement_94 : decode cX8_statement 94 = .ok (.aload_n 0, 1) := by decide +kernel
theorem dX8_statement_95 : decode cX8_statement 95 = .ok (.aload_n 0, 1) := by decide +kernel
theorem dX8_statement_96 : decode cX8_statement 96 = .ok (.getfield 74, 3) := by decide +kernel
theorem dX8_statement_99 : decode cX8_statement 99 = .ok (.iconst 0, 1) := by decide +kernel
theorem dX8_statement_100 : decode cX8_statement 100 = .ok (.iaload, 1) := by decide +kernel
theorem dX8_statement_101 : decode cX8_statement 101 = .ok (.aload_n 0, 1) := by decide +kernel
theorem dX8_statement_102 : decode cX8_statement 102 = .ok (.getfield 74, 3) := by decide +kernel
theorem dX8_statement_105 : decode cX8_statement 105 = .ok (.iconst 1, 1) := by decide +kernel
theorem dX8_statement_106 : decode cX8_statement 106 = .ok (.iaload, 1) := by decide +kernel
theorem dX8_statement_107 : decode cX8_statement 107 = .ok (.aload_n 0, 1) := by decide +kernel
theorem dX8_statement_108 : decode cX8_statement 108 = .ok (.getfield 74, 3) := by decide +kernel
theorem dX8_statement_111 : decode cX8_statement 111 = .ok (.iconst 2, 1) := by decide +kernel
theorem dX8_statement_112 : decode cX8_statement 112 = .ok (.iaload, 1) := by decide +kernel
theorem dX8_statement_113 : decode cX8_statement 113 = .ok (.invokevirtual 151, 3) := by decide +kernel
theorem dX8_statement_116 : decode cX8_statement 116 = .ok (.iconst 1, 1) := by decide +kernel
theorem dX8_statement_117 : decode cX8_statement 117 = .ok (.ireturn, 1) := by decide +kernel
theorem dX8_statement_118 : decode cX8_statement 118 = .ok (.aload_n 0, 1) := by decide +kernel
theorem dX8_statement_119 : decode cX8_statement 119 = .ok (.ldc 235, 2) := by decide +kernel
theorem dX8_statement_121 : decode cX8_statement 121 = .ok (.invokevirtual 223, 3) := by decide +kernel
theorem dX8_statement_124 : decode cX8_statement 124 = .ok (.ifCond .eq 81, 3) := by decide +kernel
theorem dX8_statement_127 : decode cX8_statement 127 = .ok (.aload_n 0, 1) := by decide +kernel
theorem dX8_statement_128 : decode cX8_statement 128 = .ok (.iconst 0, 1) := by decide +kernel
theorem dX8_statement_129 : decode cX8_statement 129 = .ok (.aload_n 0, 1) := by decide +kernel
theorem dX8_statement_130 : decode cX8_statement 130 = .ok (.getfield 95, 3) := by decide +kernel
theorem dX8_statement_133 : decode cX8_statement 133 = .ok (.iconst 1, 1) := by decide +kernel
theorem dX8_statement_134 : decode cX8_statement 134 = .ok (.isub, 1) := by decide +kernel
theorem dX8_statement_135 : decode cX8_statement 135 = .ok (.invokevirtual 227, 3) := by decide +kernel
theorem dX8_statement_138 : decode cX8_statement 138 = .ok (.ifCond .ne 5, 3) := by decide +kernel
theorem dX8_statement_141 : decode cX8_statement 141 = .ok (.iconst 0, 1) := by decide +kernel
theorem dX8_statement_142 : decode cX8_statement 142 = .ok (.ireturn, 1) := by decide +kernel
theorem dX8_statement_143 : decode cX8_statement 143 = .ok (.aload_n 0, 1) := by decide +kernel
theorem dX8_statement_144 : decode cX8_statement 144 = .ok (.getfield 188, 3) := by decide +kernel
theorem dX8_statement_147 : decode cX8_statement 147 = .ok (.iconst 2, 1) := by decide +kernel
theorem dX8_statement_148 : decode cX8_statement 148 = .ok (.if_icmp .ne 21, 3) := by decide +kernel
theorem dX8_statement_151 : decode cX8_statement 151 = .ok (.aload_n 0, 1) := by decide +kernel
theorem dX8_statement_152 : decode cX8_statement 152 = .ok (.getfield 185, 3) := by decide +kernel
theorem dX8_statement_155 : decode cX8_statement 155 = .ok (.aload_n 0, 1) := by decide +kernel
theorem dX8_statement_156 : decode cX8_statement 156 = .ok (.getfield 74, 3) := by decide +kernel
theorem dX8_statement_159 : decode cX8_statement 159 = .ok (.iconst 0, 1) := by decide +kernel
theorem dX8_statement_160 : decode cX8_statement 160 = .ok (.iaload, 1) := by decide +kernel
theorem dX8_statement_161 : decode cX8_statement 161 = .ok (.if_icmp .ne 8, 3) := by decide +kernel
theorem dX8_statement_164 : decode cX8_statement 164 = .ok (.aload_n 0, 1) := by decide +kernel
theorem dX8_statement_165 : decode cX8_statement 165 = .ok (.invokevirtual 211, 3) := by decide +kernel
theorem dX8_statement_168 : decode cX8_statement 168 = .ok (.ireturn, 1) := by decide +kernel
theorem dX8_statement_169 : decode cX8_statement 169 = .ok (.aload_n 0, 1) := by decide +kernel
theorem dX8_statement_170 : decode cX8_statement 170 = .ok (.iconst 1, 1) := by decide +kernel
theorem dX8_statement_171 : decode cX8_statement 171 = .ok (.iconst 0, 1) := by decide +kernel
theorem dX8_statement_172 : decode cX8_statement 172 = .ok (.aload_n 0, 1) := by decide +kernel
theorem dX8_statement_173 : decode cX8_statement 173 = .ok (.getfield 95, 3) := by decide +kernel
theorem dX8_statement_176 : decode cX8_statement 176 = .ok (.iconst 1, 1) := by decide +kernel
theorem dX8_statement_177 : decode cX8_statement 177 = .ok (.isub, 1) := by decide +kernel
theorem dX8_statement_178 : decode cX8_statement 178 = .ok (.invokevirtual 218, 3) := by decide +kernel
theorem dX8_statement_181 : decode cX8_statement 181 = .ok (.ifCond .ne 5, 3) := by decide +kernel
theorem dX8_statement_184 : decode cX8_statement 184 = .ok (.iconst 0, 1) := by decide +kernel
theorem dX8_statement_185 : decode cX8_statement 185 = .ok (.ireturn, 1) := by decide +kernel
theorem dX8_statement_186 : decode cX8_statement 186 = .ok (.aload_n 0, 1) := by decide +kernel
theorem dX8_statement_187 : decode cX8_statement 187 = .ok (.aload_n 0, 1) := by decide +kernel
theorem dX8_statement_188 : decode cX8_statement 188 = .ok (.getfield 74, 3) := by decide +kernel
theorem dX8_statement_191 : decode cX8_statement 191 = .ok (.iconst 0, 1) := by decide +kernel
theorem dX8_statement_192 : decode cX8_statement 192 = .ok (.iaload, 1) := by decide +kernel
theorem dX8_statement_193 : decode cX8_statement 193 = .ok (.aload_n 0, 1) := by decide +kernel
theorem dX8_statement_194 : decode cX8_statement 194 = .ok (.getfield 74, 3) := by decide +kernel
theorem dX8_statement_197 : decode cX8_statement 197 = .ok (.iconst 1, 1) := by decide +kernel
theorem dX8_statement_198 : decode cX8_statement 198 = .ok (.iaload, 1) := by decide +kernel
theorem dX8_statement_199 : decode cX8_statement 199 = .ok (.iconst 1, 1) := by decide +kernel
theorem dX8_statement_200 : decode cX8_statement 200 = .ok (.invokevirtual 162, 3) := by decide +kernel
theorem dX8_statement_203 : decode cX8_statement 203 = .ok (.iconst 1, 1) := by decide +kernel
theorem dX8_statement_204 : decode cX8_statement 204 = .ok (.ireturn, 1) := by decide +kernel
theorem dX8_statement_205 : decode cX8_statement 205 = .ok (.aload_n 0, 1) := by decide +kernel
theorem dX8_statement_206 : decode cX8_statement 206 = .ok (.ldc 237, 2) := by decide +kernel
theorem dX8_statement_208 : decode cX8_statement 208 = .ok (.invokevirtual 223, 3) := by decide +kernel
theorem dX8_statement_211 : decode cX8_statement 211 = .ok (.ifCond .eq 46, 3) := by decide +kernel
theorem dX8_statement_214 : decode cX8_statement 214 = .ok (.aload_n 0, 1) := by decide +kernel
theorem dX8_statement_215 : decode cX8_statement 215 = .ok (.iconst 0, 1) := by decide +kernel
theorem dX8_statement_216 : decode cX8_statement 216 = .ok (.aload_n 0, 1) := by decide +kernel
theorem dX8_statement_217 : decode cX8_statement 217 = .ok (.getfield 95, 3) := by decide +kernel
theorem dX8_statement_220 : decode cX8_statement 220 = .ok (.iconst 1, 1) := by decide +kernel
theorem dX8_statement_221 : decode cX8_statement 221 = .ok (.isub, 1) := by decide +kernel
theorem dX8_statement_222 : decode cX8_statement 222 = .ok (.invokevirtual 227, 3) := by decide +kernel
theorem dX8_statement_225 : decode cX8_statement 225 = .ok (.ifCond .eq 11, 3) := by decide +kernel
theorem dX8_statement_228 : decode cX8_statement 228 = .ok (.aload_n 0, 1) := by decide +kernel
theorem dX8_statement_229 : decode cX8_statement 229 = .ok (.iconst 1, 1) := by decide +kernel
theorem dX8_statement_230 : decode cX8_statement 230 = .ok (.invokevirtual 232, 3) := by decide +kernel
theorem dX8_statement_233 : decode cX8_statement 233 = .ok (.ifCond .ne 5, 3) := by decide +kernel
theorem dX8_statement_236 : decode cX8_statement 236 = .ok (.iconst 0, 1) := by decide +kernel
theorem dX8_statement_237 : decode cX8_statement 237 = .ok (.ireturn, 1) := by decide +kernel
theorem dX8_statement_238 : decode cX8_statement 238 = .ok (.aload_n 0, 1) := by decide +kernel
theorem dX8_statement_239 : decode cX8_statement 239 = .ok (.getfield 44, 3) := by decide +kernel
theorem dX8_statement_242 : decode cX8_statement 242 = .ok (.aload_n 0, 1) := by decide +kernel
theorem dX8_statement_243 : decode cX8_statement 243 = .ok (.getfield 74, 3) := by decide +kernel
theorem dX8_statement_246 : decode cX8_statement 246 = .ok (.iconst 0, 1) := by decide +kernel
theorem dX8_statement_247 : decode cX8_statement 247 = .ok (.iaload, 1) := by decide +kernel
theorem dX8_statement_248 : decode cX8_statement 248 = .ok (.aload_n 0, 1) := by decide +kernel
theorem dX8_statement_249 : decode cX8_statement 249 = .ok (.getfield 74, 3) := by decide +kernel
theorem dX8_statement_252 : decode cX8_statement 252 = .ok (.iconst 1, 1) := by decide +kernel
theorem dX8_statement_253 : decode cX8_statement 253 = .ok (.iaload, 1) := by decide +kernel
theorem dX8_statement_254 : decode cX8_statement 254 = .ok (.iastore, 1) := by decide +kernel
theorem dX8_statement_255 : decode cX8_statement 255 = .ok (.iconst 1, 1) := by decide +kernel
theorem dX8_statement_256 : decode cX8_statement 256 = .ok (.ireturn, 1) := by decide +kernel
theorem dX8_statement_257 : decode cX8_statement 257 = .ok (.aload_n 0, 1) := by decide +kernel
theorem dX8_statement_258 : decode cX8_statement 258 = .ok (.ldc 239, 2) := by decide +kernel
theorem dX8_statement_260 : decode cX8_statement 260 = .ok (.invokevirtual 223, 3) := by decide +kernel
theorem dX8_statement_263 : decode cX8_statement 263 = .ok (.ifCond .eq 74, 3) := by decide +kernel
theorem dX8_statement_266 : decode cX8_statement 266 = .ok (.aload_n 0, 1) := by decide +kernel
theorem dX8_statement_267 : decode cX8_statement 267 = .ok (.iconst 1, 1) := by decide +kernel
theorem dX8_statement_268 : decode cX8_statement 268 = .ok (.bipush 20, 2) := by decide +kernel
theorem dX8_statement_270 : decode cX8_statement 270 = .ok (.invokevirtual 227, 3) := by decide +kernel
theorem dX8_statement_273 : decode cX8_statement 273 = .ok (.ifCond .eq 30, 3) := by decide +kernel
theorem dX8_statement_276 : decode cX8_statement 276 = .ok (.aload_n 0, 1) := by decide +kernel
theorem dX8_statement_277 : decode cX8_statement 277 = .ok (.iconst 1, 1) := by decide +kernel
theorem dX8_statement_278 : decode cX8_statement 278 = .ok (.iconst 0, 1) := by decide +kernel
theorem dX8_statement_279 : decode cX8_statement 279 = .ok (.aload_n 0, 1) := by decide +kernel
theorem dX8_statement_280 : decode cX8_statement 280 = .ok (.getfield 74, 3) := by decide +kernel
theorem dX8_statement_283 : decode cX8_statement 283 = .ok (.iconst 0, 1) := by decide +kernel
theorem dX8_statement_284 : decode cX8_statement 284 = .ok (.iaload, 1) := by decide +kernel
theorem dX8_statement_285 : decode cX8_statement 285 = .ok (.invokevirtual 218, 3) := by decide +kernel
theorem dX8_statement_288 : decode cX8_statement 288 = .ok (.ifCond .eq 15, 3) := by decide +kernel
theorem dX8_statement_291 : decode cX8_statement 291 = .ok (.aload_n 0, 1) := by decide +kernel
theorem dX8_statement_292 : decode cX8_statement 292 = .ok (.iconst 2, 1) := by decide +kernel
theorem dX8_statement_293 : decode cX8_statement 293 = .ok (.iconst 0, 1) := by decide +kernel
theorem dX8_statement_294 : decode cX8_statement 294 = .ok (.sipush 1000, 3) := by decide +kernel
theorem dX8_statement_297 : decode cX8_statement 297 = .ok (.invokevirtual 218, 3) := by decide +kernel
theorem dX8_statement_300 : decode cX8_statement 300 = .ok (.ifCond .ne 5, 3) := by decide +kernel
theorem dX8_statement_303 : decode cX8_statement 303 = .ok (.iconst 0, 1) := by decide +kernel
theorem dX8_statement_304 : decode cX8_statement 304 = .ok (.ireturn, 1) := by decide +kernel
theorem dX8_statement_305 : decode cX8_statement 305 = .ok (.aload_n 0, 1) := by decide +kernel
theorem dX8_statement_306 : decode cX8_statement 306 = .ok (.aload_n 0, 1) := by decide +kernel
theorem dX8_statement_307 : decode cX8_statement 307 = .ok (.getfield 74, 3) := by decide +kernel
theorem dX8_statement_310 : decode cX8_statement 310 = .ok (.iconst 0, 1) := by decide +kernel
theorem dX8_statement_311 : decode cX8_statement 311 = .ok (.iaload, 1) := by decide +kernel
theorem dX8_statement_312 : decode cX8_statement 312 = .ok (.putfield 53, 3) := by decide +kernel
theorem dX8_statement_315 : decode cX8_statement 315 = .ok (.aload_n 0, 1) := by decide +kernel
theorem dX8_statement_316 : decode cX8_statement 316 = .ok (.aload_n 0, 1) := by decide +kernel
theorem dX8_statement_317 : decode cX8_statement 317 = .ok (.getfield 74, 3) := by decide +kernel
theorem dX8_statement_320 : decode cX8_statement 320 = .ok (.iconst 1, 1) := by decide +kernel
theorem dX8_statement_321 : decode cX8_statement 321 = .ok (.iaload, 1) := by decide +kernel
theorem dX8_statement_322 : decode cX8_statement 322 = .ok (.putfield 56, 3) := by decide +kernel
theorem dX8_statement_325 : decode cX8_statement 325 = .ok (.aload_n 0, 1) := by decide +kernel
theorem dX8_statement_326 : decode cX8_statement 326 = .ok (.aload_n 0, 1) := by decide +kernel
theorem dX8_statement_327 : decode cX8_statement 327 = .ok (.getfield 74, 3) := by decide +kernel
theorem dX8_statement_330 : decode cX8_statement 330 = .ok (.iconst 2, 1) := by decide +kernel
theorem dX8_statement_331 : decode cX8_statement 331 = .ok (.iaload, 1) := by decide +kernel
theorem dX8_statement_332 : decode cX8_statement 332 = .ok (.putfield 59, 3) := by decide +kernel
theorem dX8_statement_335 : decode cX8_statement 335 = .ok (.iconst 1, 1) := by decide +kernel
theorem dX8_statement_336 : decode cX8_statement 336 = .ok (.ireturn, 1) := by decide +kernel
theorem dX8_statement_337 : decode cX8_statement 337 = .ok (.aload_n 0, 1) := by decide +kernel
theorem dX8_statement_338 : decode cX8_statement 338 = .ok (.invokevirtual 211, 3) := by decide +kernel
theorem dX8_statement_341 : decode cX8_statement 341 = .ok (.ireturn, 1) := by decide +kernel
theorem dX8_readAll_0 : decode cX8_readAll 0 = .ok (.aload_n 0, 1) := by decide +kernel
theorem dX8_readAll_1 : decode cX8_readAll 1 = .ok (.iconst 1, 1) := by decide +kernel
theorem dX8_readAll_2 : decode cX8_readAll 2 = .ok (.putfield 241, 3) := by decide +kernel
theorem dX8_readAll_5 : decode cX8_readAll 5 = .ok (.aload_n 0, 1) := by decide +kernel
theorem dX8_readAll_6 : decode cX8_readAll 6 = .ok (.iconst 0, 1) := by decide +kernel
theorem dX8_readAll_7 : decode cX8_readAll 7 = .ok (.putfield 179, 3) := by decide +kernel
theorem dX8_readAll_10 : decode cX8_readAll 10 = .ok (.aload_n 0, 1) := by decide +kernel
theorem dX8_readAll_11 : decode cX8_readAll 11 = .ok (.invokevirtual 215, 3) := by decide +kernel
theorem dX8_readAll_14 : decode cX8_readAll 14 = .ok (.aload_n 0, 1) := by decide +kernel
theorem dX8_readAll_15 : decode cX8_readAll 15 = .ok (.invokevirtual 244, 3) := by decide +kernel
theorem dX8_readAll_18 : decode cX8_readAll 18 = .ok (.ifCond .ne 5, 3) := by decide +kernel
theorem dX8_readAll_21 : decode cX8_readAll 21 = .ok (.iconst 0, 1) := by decide +kernel
theorem dX8_readAll_22 : decode cX8_readAll 22 = .ok (.ireturn, 1) := by decide +kernel
theorem dX8_readAll_23 : decode cX8_readAll 23 = .ok (.aload_n 0, 1) := by decide +kernel
theorem dX8_readAll_24 : decode cX8_readAll 24 = .ok (.getfield 188, 3) := by decide +kernel
theorem dX8_readAll_27 : decode cX8_readAll 27 = .ok (.ifCond .eq 42, 3) := by decide +kernel
theorem dX8_readAll_30 : decode cX8_readAll 30 = .ok (.aload_n 0, 1) := by decide +kernel
theorem dX8_readAll_31 : decode cX8_readAll 31 = .ok (.getfield 188, 3) := by decide +kernel
theorem dX8_readAll_34 : decode cX8_readAll 34 = .ok (.iconst 3, 1) := by decide +kernel
theorem dX8_readAll_35 : decode cX8_readAll 35 = .ok (.if_icmp .eq 8, 3) := by decide +kernel
theorem dX8_readAll_38 : decode cX8_readAll 38 = .ok (.aload_n 0, 1) := by decide +kernel
theorem dX8_readAll_39 : decode cX8_readAll 39 = .ok (.invokevirtual 211, 3) := by decide +kernel
theorem dX8_readAll_42 : decode cX8_readAll 42 = .ok (.ireturn, 1) := by decide +kernel
theorem dX8_readAll_43 : decode cX8_readAll 43 = .ok (.aload_n 0, 1) := by decide +kernel
theorem dX8_readAll_44 : decode cX8_readAll 44 = .ok (.invokevirtual 215, 3) := by decide +kernel
theorem dX8_readAll_47 : decode cX8_readAll 47 = .ok (.aload_n 0, 1) := by decide +kernel
theorem dX8_readAll_48 : decode cX8_readAll 48 = .ok (.invokevirtual 244, 3) := by decide +kernel
theorem dX8_readAll_51 : decode cX8_readAll 51 = .ok (.ifCond .ne 5, 3) := by decide +kernel
theorem dX8_readAll_54 : decode cX8_readAll 54 = .ok (.iconst 0, 1) := by decide +kernel
theorem dX8_readAll_55 : decode cX8_readAll 55 = .ok (.ireturn, 1) := by decide +kernel
theorem dX8_readAll_56 : decode cX8_readAll 56 = .ok (.aload_n 0, 1) := by decide +kernel
theorem dX8_readAll_57 : decode cX8_readAll 57 = .ok (.dup, 1) := by decide +kernel
theorem dX8_readAll_58 : decode cX8_readAll 58 = .ok (.getfield 241, 3) := by decide +kernel
theorem dX8_readAll_61 : decode cX8_readAll 61 = .ok (.iconst 1, 1) := by decide +kernel
theorem dX8_readAll_62 : decode cX8_readAll 62 = .ok (.iadd, 1) := by decide +kernel
theorem dX8_readAll_63 : decode cX8_readAll 63 = .ok (.putfield 241, 3) := by decide +kernel
theorem dX8_readAll_66 : decode cX8_readAll 66 = .ok (.goto (-43), 3) := by decide +kernel
theorem dX8_readAll_69 : decode cX8_readAll 69 = .ok (.iconst 1, 1) := by decide +kernel
theorem dX8_readAll_70 : decode cX8_readAll 70 = .ok (.ireturn, 1) := by decide +kernel
theorem dX8_fresh_0 : decode cX8_fresh 0 = .ok (.aload_n 0, 1) := by decide +kernel
theorem dX8_fresh_1 : decode cX8_fresh 1 = .ok (.getfield 247, 3) := by decide +kernel
theorem dX8_fresh_4 : decode cX8_fresh 4 = .ok (.ifnonnull 14, 3) := by decide +kernel
theorem dX8_fresh_7 : decode cX8_fresh 7 = .ok (.aload_n 0, 1) := by decide +kernel
theorem dX8_fresh_8 : decode cX8_fresh 8 = .ok (.new 8, 3) := by decide +kernel
theorem dX8_fresh_11 : decode cX8_fresh 11 = .ok (.dup, 1) := by decide +kernel
theorem dX8_fresh_12 : decode cX8_fresh 12 = .ok (.invokespecial 251, 3) := by decide +kernel
theorem dX8_fresh_15 : decode cX8_fresh 15 = .ok (.putfield 247, 3) := by decide +kernel
theorem dX8_fresh_18 : decode cX8_fresh 18 = .ok (.aload_n 0, 1) := by decide +kernel
theorem dX8_fresh_19 : decode cX8_fresh 19 = .ok (.getfield 247, 3) := by decide +kernel
theorem dX8_fresh_22 : decode cX8_fresh 22 = .ok (.aload_n 0, 1) := by decide +kernel
theorem dX8_fresh_23 : decode cX8_fresh 23 = .ok (.invokevirtual 252, 3) := by decide +kernel
theorem dX8_fresh_26 : decode cX8_fresh 26 = .ok (.aload_n 0, 1) := by decide +kernel
theorem dX8_fresh_27 : decode cX8_fresh 27 = .ok (.getfield 247, 3) := by decide +kernel
theorem dX8_fresh_30 : decode cX8_fresh 30 = .ok (.areturn, 1) := by decide +kernel
theorem dX8_school_0 : decode cX8_school 0 = .ok (.aload_n 0, 1) := by decide +kernel
theorem dX8_school_1 : decode cX8_school 1 = .ok (.invokevirtual 256, 3) := by decide +kernel
theorem dX8_school_4 : decode cX8_school 4 = .ok (.astore_n 1, 1) := by decide +kernel
theorem dX8_school_5 : decode cX8_school 5 = .ok (.aload_n 0, 1) := by decide +kernel
theorem dX8_school_6 : decode cX8_school 6 = .ok (.invokevirtual 260, 3) := by decide +kernel
theorem dX8_school_9 : decode cX8_school 9 = .ok (.istore_n 2, 1) := by decide +kernel
theorem dX8_school_10 : decode cX8_school 10 = .ok (.aload_n 0, 1) := by decide +kernel
theorem dX8_school_11 : decode cX8_school 11 = .ok (.iconst 0, 1) := by decide +kernel
theorem dX8_school_12 : decode cX8_school 12 = .ok (.putfield 176, 3) := by decide +kernel
theorem dX8_school_15 : decode cX8_school 15 = .ok (.iload_n 2, 1) := by decide +kernel
theorem dX8_school_16 : decode cX8_school 16 = .ok (.ifCond .ne 23, 3) := by decide +kernel
theorem dX8_school_19 : decode cX8_school 19 = .ok (.aload_n 0, 1) := by decide +kernel
theorem dX8_school_20 : decode cX8_school 20 = .ok (.aload_n 1, 1) := by decide +kernel
theorem dX8_school_21 : decode cX8_school 21 = .ok (.invokevirtual 252, 3) := by decide +kernel
theorem dX8_school_24 : decode cX8_school 24 = .ok (.aload_n 0, 1) := by decide +kernel
theorem dX8_school_25 : decode cX8_school 25 = .ok (.bipush (-2), 2) := by decide +kernel
theorem dX8_school_27 : decode cX8_school 27 = .ok (.invokevirtual 112, 3) := by decide +kernel
theorem dX8_school_30 : decode cX8_school 30 = .ok (.pop, 1) := by decide +kernel
theorem dX8_school_31 : decode cX8_school 31 = .ok (.bipush (-20), 2) := by decide +kernel
theorem dX8_school_33 : decode cX8_school 33 = .ok (.aload_n 0, 1) := by decide +kernel
theorem dX8_school_34 : decode cX8_school 34 = .ok (.getfield 198, 3) := by decide +kernel
theorem dX8_school_37 : decode cX8_school 37 = .ok (.isub, 1) := by decide +kernel
theorem dX8_school_38 : decode cX8_school 38 = .ok (.ireturn, 1) := by decide +kernel
theorem dX8_school_39 : decode cX8_school 39 = .ok (.aload_n 0, 1) := by decide +kernel
theorem dX8_school_40 : decode cX8_school 40 = .ok (.getfield 241, 3) := by decide +kernel
theorem dX8_school_43 : decode cX8_school 43 = .ok (.ireturn, 1) := by decide +kernel
theorem dX8_pupilOf_0 : decode cX8_pupilOf 0 = .ok (.aload_n 0, 1) := by decide +kernel
theorem dX8_pupilOf_1 : decode cX8_pupilOf 1 = .ok (.iload_n 1, 1) := by decide +kernel
theorem dX8_pupilOf_2 : decode cX8_pupilOf 2 = .ok (.i2l, 1) := by decide +kernel
theorem dX8_pupilOf_3 : decode cX8_pupilOf 3 = .ok (.invokevirtual 102, 3) := by decide +kernel
theorem dX8_pupilOf_6 : decode cX8_pupilOf 6 = .ok (.ifCond .ne 10, 3) := by decide +kernel
theorem dX8_pupilOf_9 : decode cX8_pupilOf 9 = .ok (.aload_n 0, 1) := by decide +kernel
theorem dX8_pupilOf_10 : decode cX8_pupilOf 10 = .ok (.bipush (-2), 2) := by decide +kernel
theorem dX8_pupilOf_12 : decode cX8_pupilOf 12 = .ok (.invokevirtual 112, 3) := by decide +kernel
theorem dX8_pupilOf_15 : decode cX8_pupilOf 15 = .ok (.ireturn, 1) := by decide +kernel
theorem dX8_pupilOf_16 : decode cX8_pupilOf 16 = .ok (.iload_n 2, 1) := by decide +kernel
theorem dX8_pupilOf_17 : decode cX8_pupilOf 17 = .ok (.tableswitch 69 0 4 #[35, 42, 49, 56, 62], 35) := by decide +kernel
theorem dX8_pupilOf_52 : decode cX8_pupilOf 52 = .ok (.aload_n 0, 1) := by decide +kernel
theorem dX8_pupilOf_53 : decode cX8_pupilOf 53 = .ok (.getfield 41, 3) := by decide +kernel
theorem dX8_pupilOf_56 : decode cX8_pupilOf 56 = .ok (.iload_n 1, 1) := by decide +kernel
theorem dX8_pupilOf_57 : decode cX8_pupilOf 57 = .ok (.iaload, 1) := by decide +kernel
theorem dX8_pupilOf_58 : decode cX8_pupilOf 58 = .ok (.ireturn, 1) := by decide +kernel
theorem dX8_pupilOf_59 : decode cX8_pupilOf 59 = .ok (.aload_n 0, 1) := by decide +kernel
theorem dX8_pupilOf_60 : decode cX8_pupilOf 60 = .ok (.getfield 44, 3) := by decide +kernel
theorem dX8_pupilOf_63 : decode cX8_pupilOf 63 = .ok (.iload_n 1, 1) := by decide +kernel
theorem dX8_pupilOf_64 : decode cX8_pupilOf 64 = .ok (.iaload, 1) := by decide +kernel
theorem dX8_pupilOf_65 : decode cX8_pupilOf 65 = .ok (.ireturn, 1) := by decide +kernel
theorem dX8_pupilOf_66 : decode cX8_pupilOf 66 = .ok (.aload_n 0, 1) := by decide +kernel
theorem dX8_pupilOf_67 : decode cX8_pupilOf 67 = .ok (.getfield 47, 3) := by decide +kernel
theorem dX8_pupilOf_70 : decode cX8_pupilOf 70 = .ok (.iload_n 1, 1) := by decide +kernel
theorem dX8_pupilOf_71 : decode cX8_pupilOf 71 = .ok (.iaload, 1) := by decide +kernel
theorem dX8_pupilOf_72 : decode cX8_pupilOf 72 = .ok (.ireturn, 1) := by decide +kernel
theorem dX8_pupilOf_73 : decode cX8_pupilOf 73 = .ok (.aload_n 0, 1) := by decide +kernel
theorem dX8_pupilOf_74 : decode cX8_pupilOf 74 = .ok (.iload_n 1, 1) := by decide +kernel
theorem dX8_pupilOf_75 : decode cX8_pupilOf 75 = .ok (.invokevirtual 129, 3) := by decide +kernel
theorem dX8_pupilOf_78 : decode cX8_pupilOf 78 = .ok (.ireturn, 1) := by decide +kernel
theorem dX8_pupilOf_79 : decode cX8_pupilOf 79 = .ok (.aload_n 0, 1) := by decide +kernel
theorem dX8_pupilOf_80 : decode cX8_pupilOf 80 = .ok (.getfield 50, 3) := by decide +kernel
theorem dX8_pupilOf_83 : decode cX8_pupilOf 83 = .ok (.iload_n 1, 1) := by decide +kernel
theorem dX8_pupilOf_84 : decode cX8_pupilOf 84 = .ok (.iaload, 1) := by decide +kernel
theorem dX8_pupilOf_85 : decode cX8_pupilOf 85 = .ok (.ireturn, 1) := by decide +kernel
theorem dX8_pupilOf_86 : decode cX8_pupilOf 86 = .ok (.aload_n 0, 1) := by decide +kernel
theorem dX8_pupilOf_87 : decode cX8_pupilOf 87 = .ok (.bipush (-2), 2) := by decide +kernel
theorem dX8_pupilOf_89 : decode cX8_pupilOf 89 = .ok (.invokevirtual 112, 3) := by decide +kernel
theorem dX8_pupilOf_92 : decode cX8_pupilOf 92 = .ok (.ireturn, 1) := by decide +kernel
theorem dX8_at_0 : decode cX8_at 0 = .ok (.aload_n 0, 1) := by decide +kernel
theorem dX8_at_1 : decode cX8_at 1 = .ok (.iload_n 1, 1) := by decide +kernel
theorem dX8_at_2 : decode cX8_at 2 = .ok (.invokevirtual 143, 3) := by decide +kernel
theorem dX8_at_5 : decode cX8_at 5 = .ok (.ifCond .eq 11, 3) := by decide +kernel
theorem dX8_at_8 : decode cX8_at 8 = .ok (.aload_n 0, 1) := by decide +kernel
theorem dX8_at_9 : decode cX8_at 9 = .ok (.iload_n 1, 1) := by decide +kernel
theorem dX8_at_10 : decode cX8_at 10 = .ok (.invokevirtual 148, 3) := by decide +kernel
theorem dX8_at_13 : decode cX8_at 13 = .ok (.goto 9, 3) := by decide +kernel
theorem dX8_at_16 : decode cX8_at 16 = .ok (.aload_n 0, 1) := by decide +kernel
theorem dX8_at_17 : decode cX8_at 17 = .ok (.bipush (-2), 2) := by decide +kernel
theorem dX8_at_19 : decode cX8_at 19 = .ok (.invokevirtual 112, 3) := by decide +kernel
theorem dX8_at_22 : decode cX8_at 22 = .ok (.ireturn, 1) := by decide +kernel
theorem dX8_areBeside_0 : decode cX8_areBeside 0 = .ok (.aload_n 0, 1) := by decide +kernel
theorem dX8_areBeside_1 : decode cX8_areBeside 1 = .ok (.getfield 44, 3) := by decide +kernel
theorem dX8_areBeside_4 : decode cX8_areBeside 4 = .ok (.iload_n 1, 1) := by decide +kernel
theorem dX8_areBeside_5 : decode cX8_areBeside 5 = .ok (.iaload, 1) := by decide +kernel
theorem dX8_areBeside_6 : decode cX8_areBeside 6 = .ok (.iconst 4, 1) := by decide +kernel
theorem dX8_areBeside_7 : decode cX8_areBeside 7 = .ok (.idiv, 1) := by decide +kernel
theorem dX8_areBeside_8 : decode cX8_areBeside 8 = .ok (.aload_n 0, 1) := by decide +kernel
theorem dX8_areBeside_9 : decode cX8_areBeside 9 = .ok (.getfield 44, 3) := by decide +kernel
theorem dX8_areBeside_12 : decode cX8_areBeside 12 = .ok (.iload_n 2, 1) := by decide +kernel
theorem dX8_areBeside_13 : decode cX8_areBeside 13 = .ok (.iaload, 1) := by decide +kernel
theorem dX8_areBeside_14 : decode cX8_areBeside 14 = .ok (.iconst 4, 1) := by decide +kernel
theorem dX8_areBeside_15 : decode cX8_areBeside 15 = .ok (.idiv, 1) := by decide +kernel
theorem dX8_areBeside_16 : decode cX8_areBeside 16 = .ok (.isub, 1) := by decide +kernel
theorem dX8_areBeside_17 : decode cX8_areBeside 17 = .ok (.istore_n 3, 1) := by decide +kernel
theorem dX8_areBeside_18 : decode cX8_areBeside 18 = .ok (.aload_n 0, 1) := by decide +kernel
theorem dX8_areBeside_19 : decode cX8_areBeside 19 = .ok (.getfield 44, 3) := by decide +kernel
theorem dX8_areBeside_22 : decode cX8_areBeside 22 = .ok (.iload_n 1, 1) := by decide +kernel
theorem dX8_areBeside_23 : decode cX8_areBeside 23 = .ok (.iaload, 1) := by decide +kernel
theorem dX8_areBeside_24 : decode cX8_areBeside 24 = .ok (.iconst 4, 1) := by decide +kernel
theorem dX8_areBeside_25 : decode cX8_areBeside 25 = .ok (.irem, 1) := by decide +kernel
theorem dX8_areBeside_26 : decode cX8_areBeside 26 = .ok (.aload_n 0, 1) := by decide +kernel
theorem dX8_areBeside_27 : decode cX8_areBeside 27 = .ok (.getfield 44, 3) := by decide +kernel
theorem dX8_areBeside_30 : decode cX8_areBeside 30 = .ok (.iload_n 2, 1) := by decide +kernel
theorem dX8_areBeside_31 : decode cX8_areBeside 31 = .ok (.iaload, 1) := by decide +kernel
theorem dX8_areBeside_32 : decode cX8_areBeside 32 = .ok (.iconst 4, 1) := by decide +kernel
theorem dX8_areBeside_33 : decode cX8_areBeside 33 = .ok (.irem, 1) := by decide +kernel
theorem dX8_areBeside_34 : decode cX8_areBeside 34 = .ok (.isub, 1) := by decide +kernel
theorem dX8_areBeside_35 : decode cX8_areBeside 35 = .ok (.istore 4, 2) := by decide +kernel
theorem dX8_areBeside_37 : decode cX8_areBeside 37 = .ok (.iload_n 1, 1) := by decide +kernel
theorem dX8_areBeside_38 : decode cX8_areBeside 38 = .ok (.iload_n 2, 1) := by decide +kernel
theorem dX8_areBeside_39 : decode cX8_areBeside 39 = .ok (.if_icmp .eq 33, 3) := by decide +kernel
theorem dX8_areBeside_42 : decode cX8_areBeside 42 = .ok (.aload_n 0, 1) := by decide +kernel
theorem dX8_areBeside_43 : decode cX8_areBeside 43 = .ok (.getfield 50, 3) := by decide +kernel
theorem dX8_areBeside_46 : decode cX8_areBeside 46 = .ok (.iload_n 1, 1) := by decide +kernel
theorem dX8_areBeside_47 : decode cX8_areBeside 47 = .ok (.iaload, 1) := by decide +kernel
theorem dX8_areBeside_48 : decode cX8_areBeside 48 = .ok (.iload_n 2, 1) := by decide +kernel
theorem dX8_areBeside_49 : decode cX8_areBeside 49 = .ok (.invokestatic 159, 3) := by decide +kernel
theorem dX8_areBeside_52 : decode cX8_areBeside 52 = .ok (.ifCond .ne 20, 3) := by decide +kernel
theorem dX8_areBeside_55 : decode cX8_areBeside 55 = .ok (.iload_n 3, 1) := by decide +kernel
theorem dX8_areBeside_56 : decode cX8_areBeside 56 = .ok (.iload_n 3, 1) := by decide +kernel
theorem dX8_areBeside_57 : decode cX8_areBeside 57 = .ok (.imul, 1) := by decide +kernel
theorem dX8_areBeside_58 : decode cX8_areBeside 58 = .ok (.iload 4, 2) := by decide +kernel
theorem dX8_areBeside_60 : decode cX8_areBeside 60 = .ok (.iload 4, 2) := by decide +kernel
theorem dX8_areBeside_62 : decode cX8_areBeside 62 = .ok (.imul, 1) := by decide +kernel
theorem dX8_areBeside_63 : decode cX8_areBeside 63 = .ok (.iadd, 1) := by decide +kernel
theorem dX8_areBeside_64 : decode cX8_areBeside 64 = .ok (.iconst 1, 1) := by decide +kernel
theorem dX8_areBeside_65 : decode cX8_areBeside 65 = .ok (.if_icmp .ne 7, 3) := by decide +kernel
theorem dX8_areBeside_68 : decode cX8_areBeside 68 = .ok (.iconst 1, 1) := by decide +kernel
theorem dX8_areBeside_69 : decode cX8_areBeside 69 = .ok (.goto 4, 3) := by decide +kernel
theorem dX8_areBeside_72 : decode cX8_areBeside 72 = .ok (.iconst 0, 1) := by decide +kernel
theorem dX8_areBeside_73 : decode cX8_areBeside 73 = .ok (.ireturn, 1) := by decide +kernel
theorem dX8_beside_0 : decode cX8_beside 0 = .ok (.iconst 0, 1) := by decide +kernel
theorem dX8_beside_1 : decode cX8_beside 1 = .ok (.istore_n 2, 1) := by decide +kernel
theorem dX8_beside_2 : decode cX8_beside 2 = .ok (.iconst 0, 1) := by decide +kernel
theorem dX8_beside_3 : decode cX8_beside 3 = .ok (.istore_n 3, 1) := by decide +kernel
theorem dX8_beside_4 : decode cX8_beside 4 = .ok (.iload_n 3, 1) := by decide +kernel
theorem dX8_beside_5 : decode cX8_beside 5 = .ok (.aload_n 0, 1) := by decide +kernel
theorem dX8_beside_6 : decode cX8_beside 6 = .ok (.getfield 95, 3) := by decide +kernel
theorem dX8_beside_9 : decode cX8_beside 9 = .ok (.if_icmp .ge 28, 3) := by decide +kernel
theorem dX8_beside_12 : decode cX8_beside 12 = .ok (.iload_n 2, 1) := by decide +kernel
theorem dX8_beside_13 : decode cX8_beside 13 = .ok (.aload_n 0, 1) := by decide +kernel
theorem dX8_beside_14 : decode cX8_beside 14 = .ok (.iload_n 1, 1) := by decide +kernel
theorem dX8_beside_15 : decode cX8_beside 15 = .ok (.iload_n 3, 1) := by decide +kernel
theorem dX8_beside_16 : decode cX8_beside 16 = .ok (.invokevirtual 263, 3) := by decide +kernel
theorem dX8_beside_19 : decode cX8_beside 19 = .ok (.ifCond .eq 9, 3) := by decide +kernel
theorem dX8_beside_22 : decode cX8_beside 22 = .ok (.iconst 1, 1) := by decide +kernel
theorem dX8_beside_23 : decode cX8_beside 23 = .ok (.iload_n 3, 1) := by decide +kernel
theorem dX8_beside_24 : decode cX8_beside 24 = .ok (.ishl, 1) := by decide +kernel
theorem dX8_beside_25 : decode cX8_beside 25 = .ok (.goto 4, 3) := by decide +kernel
theorem dX8_beside_28 : decode cX8_beside 28 = .ok (.iconst 0, 1) := by decide +kernel
theorem dX8_beside_29 : decode cX8_beside 29 = .ok (.ior, 1) := by decide +kernel
theorem dX8_beside_30 : decode cX8_beside 30 = .ok (.istore_n 2, 1) := by decide +kernel
theorem dX8_beside_31 : decode cX8_beside 31 = .ok (.iinc 3 1, 3) := by decide +kernel
theorem dX8_beside_34 : decode cX8_beside 34 = .ok (.goto (-30), 3) := by decide +kernel
theorem dX8_beside_37 : decode cX8_beside 37 = .ok (.iload_n 2, 1) := by decide +kernel
theorem dX8_beside_38 : decode cX8_beside 38 = .ok (.ireturn, 1) := by decide +kernel
theorem dX8_lossOf_0 : decode cX8_lossOf 0 = .ok (.aload_n 0, 1) := by decide +kernel
theorem dX8_lossOf_1 : decode cX8_lossOf 1 = .ok (.getfield 41, 3) := by decide +kernel
theorem dX8_lossOf_4 : decode cX8_lossOf 4 = .ok (.iload_n 1, 1) := by decide +kernel
theorem dX8_lossOf_5 : decode cX8_lossOf 5 = .ok (.iaload, 1) := by decide +kernel
theorem dX8_lossOf_6 : decode cX8_lossOf 6 = .ok (.iconst 1, 1) := by decide +kernel
theorem dX8_lossOf_7 : decode cX8_lossOf 7 = .ok (.if_icmp .ne 19, 3) := by decide +kernel
theorem dX8_lossOf_10 : decode cX8_lossOf 10 = .ok (.sipush 500, 3) := by decide +kernel
theorem dX8_lossOf_13 : decode cX8_lossOf 13 = .ok (.bipush 10, 2) := by decide +kernel
theorem dX8_lossOf_15 : decode cX8_lossOf 15 = .ok (.aload_n 0, 1) := by decide +kernel
theorem dX8_lossOf_16 : decode cX8_lossOf 16 = .ok (.getfield 47, 3) := by decide +kernel
theorem dX8_lossOf_19 : decode cX8_lossOf 19 = .ok (.iload_n 1, 1) := by decide +kernel
theorem dX8_lossOf_20 : decode cX8_lossOf 20 = .ok (.iaload, 1) := by decide +kernel
theorem dX8_lossOf_21 : decode cX8_lossOf 21 = .ok (.imul, 1) := by decide +kernel
theorem dX8_lossOf_22 : decode cX8_lossOf 22 = .ok (.iadd, 1) := by decide +kernel
theorem dX8_lossOf_23 : decode cX8_lossOf 23 = .ok (.goto 34, 3) := by decide +kernel
theorem dX8_lossOf_26 : decode cX8_lossOf 26 = .ok (.aload_n 0, 1) := by decide +kernel
theorem dX8_lossOf_27 : decode cX8_lossOf 27 = .ok (.getfield 41, 3) := by decide +kernel
theorem dX8_lossOf_30 : decode cX8_lossOf 30 = .ok (.iload_n 1, 1) := by decide +kernel
theorem dX8_lossOf_31 : decode cX8_lossOf 31 = .ok (.iaload, 1) := by decide +kernel
theorem dX8_lossOf_32 : decode cX8_lossOf 32 = .ok (.iconst 4, 1) := by decide +kernel
theorem dX8_lossOf_33 : decode cX8_lossOf 33 = .ok (.if_icmp .ne 15, 3) := by decide +kernel
theorem dX8_lossOf_36 : decode cX8_lossOf 36 = .ok (.bipush 100, 2) := by decide +kernel
theorem dX8_lossOf_38 : decode cX8_lossOf 38 = .ok (.aload_n 0, 1) := by decide +kernel
theorem dX8_lossOf_39 : decode cX8_lossOf 39 = .ok (.getfield 47, 3) := by decide +kernel
theorem dX8_lossOf_42 : decode cX8_lossOf 42 = .ok (.iload_n 1, 1) := by decide +kernel
theorem dX8_lossOf_43 : decode cX8_lossOf 43 = .ok (.iaload, 1) := by decide +kernel
theorem dX8_lossOf_44 : decode cX8_lossOf 44 = .ok (.imul, 1) := by decide +kernel
theorem dX8_lossOf_45 : decode cX8_lossOf 45 = .ok (.goto 12, 3) := by decide +kernel
theorem dX8_lossOf_48 : decode cX8_lossOf 48 = .ok (.bipush 10, 2) := by decide +kernel
theorem dX8_lossOf_50 : decode cX8_lossOf 50 = .ok (.aload_n 0, 1) := by decide +kernel
theorem dX8_lossOf_51 : decode cX8_lossOf 51 = .ok (.getfield 47, 3) := by decide +kernel
theorem dX8_lossOf_54 : decode cX8_lossOf 54 = .ok (.iload_n 1, 1) := by decide +kernel
theorem dX8_lossOf_55 : decode cX8_lossOf 55 = .ok (.iaload, 1) := by decide +kernel
theorem dX8_lossOf_56 : decode cX8_lossOf 56 = .ok (.imul, 1) := by decide +kernel
theorem dX8_lossOf_57 : decode cX8_lossOf 57 = .ok (.ireturn, 1) := by decide +kernel
theorem dX8_looks_0 : decode cX8_looks 0 = .ok (.iload_n 1, 1) := by decide +kernel
theorem dX8_looks_1 : decode cX8_looks 1 = .ok (.aload_n 0, 1) := by decide +kernel
theorem dX8_looks_2 : decode cX8_looks 2 = .ok (.getfield 53, 3) := by decide +kernel
theorem dX8_looks_5 : decode cX8_looks 5 = .ok (.irem, 1) := by decide +kernel
theorem dX8_looks_6 : decode cX8_looks 6 = .ok (.aload_n 0, 1) := by decide +kernel
theorem dX8_looks_7 : decode cX8_looks 7 = .ok (.getfield 56, 3) := by decide +kernel
theorem dX8_looks_10 : decode cX8_looks 10 = .ok (.if_icmp .lt 7, 3) := by decide +kernel
theorem dX8_looks_13 : decode cX8_looks 13 = .ok (.iconst 1, 1) := by decide +kernel
theorem dX8_looks_14 : decode cX8_looks 14 = .ok (.goto 4, 3) := by decide +kernel
theorem dX8_looks_17 : decode cX8_looks 17 = .ok (.iconst 0, 1) := by decide +kernel
theorem dX8_looks_18 : decode cX8_looks 18 = .ok (.ireturn, 1) := by decide +kernel
theorem dX8_takes_0 : decode cX8_takes 0 = .ok (.aload_n 0, 1) := by decide +kernel
theorem dX8_takes_1 : decode cX8_takes 1 = .ok (.getfield 41, 3) := by decide +kernel
theorem dX8_takes_4 : decode cX8_takes 4 = .ok (.iload_n 1, 1) := by decide +kernel
theorem dX8_takes_5 : decode cX8_takes 5 = .ok (.iaload, 1) := by decide +kernel
theorem dX8_takes_6 : decode cX8_takes 6 = .ok (.iconst 5, 1) := by decide +kernel
theorem dX8_takes_7 : decode cX8_takes 7 = .ok (.if_icmp .ne 7, 3) := by decide +kernel
theorem dX8_takes_10 : decode cX8_takes 10 = .ok (.iconst 2, 1) := by decide +kernel
theorem dX8_takes_11 : decode cX8_takes 11 = .ok (.goto 4, 3) := by decide +kernel
theorem dX8_takes_14 : decode cX8_takes 14 = .ok (.iconst 1, 1) := by decide +kernel
theorem dX8_takes_15 : decode cX8_takes 15 = .ok (.ireturn, 1) := by decide +kernel
theorem dX8_lossAt_0 : decode cX8_lossAt 0 = .ok (.iload_n 3, 1) := by decide +kernel
theorem dX8_lossAt_1 : decode cX8_lossAt 1 = .ok (.ifCond .eq 7, 3) := by decide +kernel
theorem dX8_lossAt_4 : decode cX8_lossAt 4 = .ok (.iconst 0, 1) := by decide +kernel
theorem dX8_lossAt_5 : decode cX8_lossAt 5 = .ok (.goto 8, 3) := by decide +kernel
theorem dX8_lossAt_8 : decode cX8_lossAt 8 = .ok (.aload_n 0, 1) := by decide +kernel
theorem dX8_lossAt_9 : decode cX8_lossAt 9 = .ok (.iload_n 1, 1) := by decide +kernel
theorem dX8_lossAt_10 : decode cX8_lossAt 10 = .ok (.invokevirtual 138, 3) := by decide +kernel
theorem dX8_lossAt_13 : decode cX8_lossAt 13 = .ok (.aload_n 0, 1) := by decide +kernel
theorem dX8_lossAt_14 : decode cX8_lossAt 14 = .ok (.iload_n 2, 1) := by decide +kernel
theorem dX8_lossAt_15 : decode cX8_lossAt 15 = .ok (.invokevirtual 266, 3) := by decide +kernel
theorem dX8_lossAt_18 : decode cX8_lossAt 18 = .ok (.ifCond .eq 10, 3) := by decide +kernel
theorem dX8_lossAt_21 : decode cX8_lossAt 21 = .ok (.aload_n 0, 1) := by decide +kernel
theorem dX8_lossAt_22 : decode cX8_lossAt 22 = .ok (.getfield 59, 3) := by decide +kernel
theorem dX8_lossAt_25 : decode cX8_lossAt 25 = .ok (.goto 4, 3) := by decide +kernel
theorem dX8_lossAt_28 : decode cX8_lossAt 28 = .ok (.iconst 0, 1) := by decide +kernel
theorem dX8_lossAt_29 : decode cX8_lossAt 29 = .ok (.iadd, 1) := by decide +kernel
theorem dX8_lossAt_30 : decode cX8_lossAt 30 = .ok (.istore 4, 2) := by decide +kernel
theorem dX8_lossAt_32 : decode cX8_lossAt 32 = .ok (.iload 4, 2) := by decide +kernel
theorem dX8_lossAt_34 : decode cX8_lossAt 34 = .ok (.sipush 1000, 3) := by decide +kernel
theorem dX8_lossAt_37 : decode cX8_lossAt 37 = .ok (.if_icmp .ge 8, 3) := by decide +kernel
theorem dX8_lossAt_40 : decode cX8_lossAt 40 = .ok (.iload 4, 2) := by decide +kernel
theorem dX8_lossAt_42 : decode cX8_lossAt 42 = .ok (.goto 6, 3) := by decide +kernel
theorem dX8_lossAt_45 : decode cX8_lossAt 45 = .ok (.sipush 1000, 3) := by decide +kernel
theorem dX8_lossAt_48 : decode cX8_lossAt 48 = .ok (.ireturn, 1) := by decide +kernel
theorem dX8_loss_0 : decode cX8_loss 0 = .ok (.aload_n 0, 1) := by decide +kernel
theorem dX8_loss_1 : decode cX8_loss 1 = .ok (.iload_n 1, 1) := by decide +kernel
theorem dX8_loss_2 : decode cX8_loss 2 = .ok (.i2l, 1) := by decide +kernel
theorem dX8_loss_3 : decode cX8_loss 3 = .ok (.invokevirtual 102, 3) := by decide +kernel
theorem dX8_loss_6 : decode cX8_loss 6 = .ok (.ifCond .eq 25, 3) := by decide +kernel
theorem dX8_loss_9 : decode cX8_loss 9 = .ok (.iload_n 2, 1) := by decide +kernel
theorem dX8_loss_10 : decode cX8_loss 10 = .ok (.i2l, 1) := by decide +kernel
theorem dX8_loss_11 : decode cX8_loss 11 = .ok (.lconst 0, 1) := by decide +kernel
theorem dX8_loss_12 : decode cX8_loss 12 = .ok (.ldc2_w 269, 3) := by decide +kernel
theorem dX8_loss_15 : decode cX8_loss 15 = .ok (.invokestatic 98, 3) := by decide +kernel
theorem dX8_loss_18 : decode cX8_loss 18 = .ok (.ifCond .eq 13, 3) := by decide +kernel
theorem dX8_loss_21 : decode cX8_loss 21 = .ok (.aload_n 0, 1) := by decide +kernel
theorem dX8_loss_22 : decode cX8_loss 22 = .ok (.iload_n 1, 1) := by decide +kernel
theorem dX8_loss_23 : decode cX8_loss 23 = .ok (.iload_n 2, 1) := by decide +kernel
theorem dX8_loss_24 : decode cX8_loss 24 = .ok (.iconst 0, 1) := by decide +kernel
theorem dX8_loss_25 : decode cX8_loss 25 = .ok (.invokevirtual 271, 3) := by decide +kernel
theorem dX8_loss_28 : decode cX8_loss 28 = .ok (.goto 9, 3) := by decide +kernel
theorem dX8_loss_31 : decode cX8_loss 31 = .ok (.aload_n 0, 1) := by decide +kernel
theorem dX8_loss_32 : decode cX8_loss 32 = .ok (.bipush (-2), 2) := by decide +kernel
theorem dX8_loss_34 : decode cX8_loss 34 = .ok (.invokevirtual 112, 3) := by decide +kernel
theorem dX8_loss_37 : decode cX8_loss 37 = .ok (.ireturn, 1) := by decide +kernel
theorem dX8_seek_0 : decode cX8_seek 0 = .ok (.aload_n 0, 1) := by decide +kernel
theorem dX8_seek_1 : decode cX8_seek 1 = .ok (.getfield 77, 3) := by decide +kernel
theorem dX8_seek_4 : decode cX8_seek 4 = .ok (.iload_n 1, 1) := by decide +kernel
theorem dX8_seek_5 : decode cX8_seek 5 = .ok (.iconst 1, 1) := by decide +kernel
theorem dX8_seek_6 : decode cX8_seek 6 = .ok (.isub, 1) := by decide +kernel
theorem dX8_seek_7 : decode cX8_seek 7 = .ok (.iaload, 1) := by decide +kernel
theorem dX8_seek_8 : decode cX8_seek 8 = .ok (.istore 6, 2) := by decide +kernel
theorem dX8_seek_10 : decode cX8_seek 10 = .ok (.iload 6, 2) := by decide +kernel
theorem dX8_seek_12 : decode cX8_seek 12 = .ok (.aload_n 0, 1) := by decide +kernel
theorem dX8_seek_13 : decode cX8_seek 13 = .ok (.getfield 275, 3) := by decide +kernel
theorem dX8_seek_16 : decode cX8_seek 16 = .ok (.if_icmp .ne 15, 3) := by decide +kernel
theorem dX8_seek_19 : decode cX8_seek 19 = .ok (.aload_n 0, 1) := by decide +kernel
theorem dX8_seek_20 : decode cX8_seek 20 = .ok (.iload_n 1, 1) := by decide +kernel
theorem dX8_seek_21 : decode cX8_seek 21 = .ok (.iload_n 2, 1) := by decide +kernel
theorem dX8_seek_22 : decode cX8_seek 22 = .ok (.iload_n 3, 1) := by decide +kernel
theorem dX8_seek_23 : decode cX8_seek 23 = .ok (.iload 4, 2) := by decide +kernel
theorem dX8_seek_25 : decode cX8_seek 25 = .ok (.iload 5, 2) := by decide +kernel
theorem dX8_seek_27 : decode cX8_seek 27 = .ok (.invokevirtual 278, 3) := by decide +kernel
theorem dX8_seek_30 : decode cX8_seek 30 = .ok (.return_, 1) := by decide +kernel
theorem dX8_seek_31 : decode cX8_seek 31 = .ok (.iload_n 1, 1) := by decide +kernel
theorem dX8_seek_32 : decode cX8_seek 32 = .ok (.bipush 8, 2) := by decide +kernel
theorem dX8_seek_34 : decode cX8_seek 34 = .ok (.if_icmp .gt 19, 3) := by decide +kernel
theorem dX8_seek_37 : decode cX8_seek 37 = .ok (.aload_n 0, 1) := by decide +kernel
theorem dX8_seek_38 : decode cX8_seek 38 = .ok (.getfield 282, 3) := by decide +kernel
theorem dX8_seek_41 : decode cX8_seek 41 = .ok (.iconst 2, 1) := by decide +kernel
theorem dX8_seek_42 : decode cX8_seek 42 = .ok (.if_icmp .ne 12, 3) := by decide +kernel
theorem dX8_seek_45 : decode cX8_seek 45 = .ok (.aload_n 0, 1) := by decide +kernel
theorem dX8_seek_46 : decode cX8_seek 46 = .ok (.iload_n 3, 1) := by decide +kernel
theorem dX8_seek_47 : decode cX8_seek 47 = .ok (.invokevirtual 266, 3) := by decide +kernel
theorem dX8_seek_50 : decode cX8_seek 50 = .ok (.ifCond .eq 4, 3) := by decide +kernel
theorem dX8_seek_53 : decode cX8_seek 53 = .ok (.return_, 1) := by decide +kernel
theorem dX8_seek_54 : decode cX8_seek 54 = .ok (.iconst 0, 1) := by decide +kernel
theorem dX8_seek_55 : decode cX8_seek 55 = .ok (.istore 7, 2) := by decide +kernel
theorem dX8_seek_57 : decode cX8_seek 57 = .ok (.iload 7, 2) := by decide +kernel
theorem dX8_seek_59 : decode cX8_seek 59 = .ok (.aload_n 0, 1) := by decide +kernel
theorem dX8_seek_60 : decode cX8_seek 60 = .ok (.getfield 95, 3) := by decide +kernel
theorem dX8_seek_63 : decode cX8_seek 63 = .ok (.if_icmp .ge 169, 3) := by decide +kernel
theorem dX8_seek_66 : decode cX8_seek 66 = .ok (.aload_n 0, 1) := by decide +kernel
theorem dX8_seek_67 : decode cX8_seek 67 = .ok (.getfield 282, 3) := by decide +kernel
theorem dX8_seek_70 : decode cX8_seek 70 = .ok (.iconst 1, 1) := by decide +kernel
theorem dX8_seek_71 : decode cX8_seek 71 = .ok (.if_icmp .ne 29, 3) := by decide +kernel
theorem dX8_seek_74 : decode cX8_seek 74 = .ok (.iload 7, 2) := by decide +kernel
theorem dX8_seek_76 : decode cX8_seek 76 = .ok (.aload_n 0, 1) := by decide +kernel
theorem dX8_seek_77 : decode cX8_seek 77 = .ok (.getfield 275, 3) := by decide +kernel
theorem dX8_seek_80 : decode cX8_seek 80 = .ok (.if_icmp .eq 20, 3) := by decide +kernel
theorem dX8_seek_83 : decode cX8_seek 83 = .ok (.aload_n 0, 1) := by decide +kernel
theorem dX8_seek_84 : decode cX8_seek 84 = .ok (.getfield 41, 3) := by decide +kernel
theorem dX8_seek_87 : decode cX8_seek 87 = .ok (.iload 7, 2) := by decide +kernel
theorem dX8_seek_89 : decode cX8_seek 89 = .ok (.iaload, 1) := by decide +kernel
theorem dX8_seek_90 : decode cX8_seek 90 = .ok (.invokestatic 125, 3) := by decide +kernel
theorem dX8_seek_93 : decode cX8_seek 93 = .ok (.ifCond .eq 7, 3) := by decide +kernel
theorem dX8_seek_96 : decode cX8_seek 96 = .ok (.iconst 1, 1) := by decide +kernel
theorem dX8_seek_97 : decode cX8_seek 97 = .ok (.goto 4, 3) := by decide +kernel
theorem dX8_seek_100 : decode cX8_seek 100 = .ok (.iconst 0, 1) := by decide +kernel
theorem dX8_seek_101 : decode cX8_seek 101 = .ok (.istore 8, 2) := by decide +kernel
theorem dX8_seek_103 : decode cX8_seek 103 = .ok (.iload_n 2, 1) := by decide +kernel
theorem dX8_seek_104 : decode cX8_seek 104 = .ok (.iload 7, 2) := by decide +kernel
theorem dX8_seek_106 : decode cX8_seek 106 = .ok (.invokestatic 159, 3) := by decide +kernel
theorem dX8_seek_109 : decode cX8_seek 109 = .ok (.ifCond .ne 117, 3) := by decide +kernel
theorem dX8_seek_112 : decode cX8_seek 112 = .ok (.iload 8, 2) := by decide +kernel
theorem dX8_seek_114 : decode cX8_seek 114 = .ok (.ifCond .ne 112, 3) := by decide +kernel
theorem dX8_seek_117 : decode cX8_seek 117 = .ok (.aload_n 0, 1) := by decide +kernel
theorem dX8_seek_118 : decode cX8_seek 118 = .ok (.iload 6, 2) := by decide +kernel
theorem dX8_seek_120 : decode cX8_seek 120 = .ok (.iload 7, 2) := by decide +kernel
theorem dX8_seek_122 : decode cX8_seek 122 = .ok (.invokevirtual 263, 3) := by decide +kernel
theorem dX8_seek_125 : decode cX8_seek 125 = .ok (.ifCond .eq 101, 3) := by decide +kernel
theorem dX8_seek_128 : decode cX8_seek 128 = .ok (.aload_n 0, 1) := by decide +kernel
theorem dX8_seek_129 : decode cX8_seek 129 = .ok (.getfield 77, 3) := by decide +kernel
theorem dX8_seek_132 : decode cX8_seek 132 = .ok (.iload_n 1, 1) := by decide +kernel
theorem dX8_seek_133 : decode cX8_seek 133 = .ok (.iload 7, 2) := by decide +kernel
theorem dX8_seek_135 : decode cX8_seek 135 = .ok (.iastore, 1) := by decide +kernel
theorem dX8_seek_136 : decode cX8_seek 136 = .ok (.iload 4, 2) := by decide +kernel
theorem dX8_seek_138 : decode cX8_seek 138 = .ok (.i2l, 1) := by decide +kernel
theorem dX8_seek_139 : decode cX8_seek 139 = .ok (.sipush 1000, 3) := by decide +kernel
theorem dX8_seek_142 : decode cX8_seek 142 = .ok (.aload_n 0, 1) := by decide +kernel
theorem dX8_seek_143 : decode cX8_seek 143 = .ok (.iload 7, 2) := by decide +kernel
theorem dX8_seek_145 : decode cX8_seek 145 = .ok (.iload_n 3, 1) := by decide +kernel
theorem dX8_seek_146 : decode cX8_seek 146 = .ok (.iload 7, 2) := by decide +kernel
theorem dX8_seek_148 : decode cX8_seek 148 = .ok (.aload_n 0, 1) := by decide +kernel
theorem dX8_seek_149 : decode cX8_seek 149 = .ok (.getfield 275, 3) := by decide +kernel
theorem dX8_seek_152 : decode cX8_seek 152 = .ok (.if_icmp .ne 7, 3) := by decide +kernel
theorem dX8_seek_155 : decode cX8_seek 155 = .ok (.iconst 1, 1) := by decide +kernel
theorem dX8_seek_156 : decode cX8_seek 156 = .ok (.goto 4, 3) := by decide +kernel
theorem dX8_seek_159 : decode cX8_seek 159 = .ok (.iconst 0, 1) := by decide +kernel
theorem dX8_seek_160 : decode cX8_seek 160 = .ok (.invokevirtual 271, 3) := by decide +kernel
theorem dX8_seek_163 : decode cX8_seek 163 = .ok (.isub, 1) := by decide +kernel
theorem dX8_seek_164 : decode cX8_seek 164 = .ok (.i2l, 1) := by decide +kernel
theorem dX8_seek_165 : decode cX8_seek 165 = .ok (.lmul, 1) := by decide +kernel
theorem dX8_seek_166 : decode cX8_seek 166 = .ok (.ldc2_w 172, 3) := by decide +kernel
theorem dX8_seek_169 : decode cX8_seek 169 = .ok (.ldiv, 1) := by decide +kernel
theorem dX8_seek_170 : decode cX8_seek 170 = .ok (.l2i, 1) := by decide +kernel
theorem dX8_seek_171 : decode cX8_seek 171 = .ok (.istore 9, 2) := by decide +kernel
theorem dX8_seek_173 : decode cX8_seek 173 = .ok (.aload_n 0, 1) := by decide +kernel
theorem dX8_seek_174 : decode cX8_seek 174 = .ok (.iload_n 1, 1) := by decide +kernel
theorem dX8_seek_175 : decode cX8_seek 175 = .ok (.iconst 1, 1) := by decide +kernel
theorem dX8_seek_176 : decode cX8_seek 176 = .ok (.iadd, 1) := by decide +kernel
theorem dX8_seek_177 : decode cX8_seek 177 = .ok (.iload_n 2, 1) := by decide +kernel
theorem dX8_seek_178 : decode cX8_seek 178 = .ok (.iconst 1, 1) := by decide +kernel
theorem dX8_seek_179 : decode cX8_seek 179 = .ok (.iload 7, 2) := by decide +kernel
theorem dX8_seek_181 : decode cX8_seek 181 = .ok (.ishl, 1) := by decide +kernel
theorem dX8_seek_182 : decode cX8_seek 182 = .ok (.ior, 1) := by decide +kernel
theorem dX8_seek_183 : decode cX8_seek 183 = .ok (.iload_n 3, 1) := by decide +kernel
theorem dX8_seek_184 : decode cX8_seek 184 = .ok (.aload_n 0, 1) := by decide +kernel
theorem dX8_seek_185 : decode cX8_seek 185 = .ok (.iload 6, 2) := by decide +kernel
theorem dX8_seek_187 : decode cX8_seek 187 = .ok (.invokevirtual 135, 3) := by decide +kernel
theorem dX8_seek_190 : decode cX8_seek 190 = .ok (.iadd, 1) := by decide +kernel
theorem dX8_seek_191 : decode cX8_seek 191 = .ok (.iload 9, 2) := by decide +kernel
theorem dX8_seek_193 : decode cX8_seek 193 = .ok (.iload 5, 2) := by decide +kernel
theorem dX8_seek_195 : decode cX8_seek 195 = .ok (.iload 7, 2) := by decide +kernel
theorem dX8_seek_197 : decode cX8_seek 197 = .ok (.aload_n 0, 1) := by decide +kernel
theorem dX8_seek_198 : decode cX8_seek 198 = .ok (.getfield 275, 3) := by decide +kernel
theorem dX8_seek_201 : decode cX8_seek 201 = .ok (.if_icmp .eq 20, 3) := by decide +kernel
theorem dX8_seek_204 : decode cX8_seek 204 = .ok (.aload_n 0, 1) := by decide +kernel
theorem dX8_seek_205 : decode cX8_seek 205 = .ok (.getfield 41, 3) := by decide +kernel
theorem dX8_seek_208 : decode cX8_seek 208 = .ok (.iload 7, 2) := by decide +kernel
theorem dX8_seek_210 : decode cX8_seek 210 = .ok (.iaload, 1) := by decide +kernel
theorem dX8_seek_211 : decode cX8_seek 211 = .ok (.invokestatic 125, 3) := by decide +kernel
theorem dX8_seek_214 : decode cX8_seek 214 = .ok (.ifCond .eq 7, 3) := by decide +kernel
theorem dX8_seek_217 : decode cX8_seek 217 = .ok (.iconst 1, 1) := by decide +kernel
theorem dX8_seek_218 : decode cX8_seek 218 = .ok (.goto 4, 3) := by decide +kernel
theorem dX8_seek_221 : decode cX8_seek 221 = .ok (.iconst 0, 1) := by decide +kernel
theorem dX8_seek_222 : decode cX8_seek 222 = .ok (.iadd, 1) := by decide +kernel
theorem dX8_seek_223 : decode cX8_seek 223 = .ok (.invokevirtual 285, 3) := by decide +kernel
theorem dX8_seek_226 : decode cX8_seek 226 = .ok (.iinc 7 1, 3) := by decide +kernel
theorem dX8_seek_229 : decode cX8_seek 229 = .ok (.goto (-172), 3) := by decide +kernel
theorem dX8_seek_232 : decode cX8_seek 232 = .ok (.return_, 1) := by decide +kernel
theorem dX8_found_0 : decode cX8_found 0 = .ok (.aload_n 0, 1) := by decide +kernel
theorem dX8_found_1 : decode cX8_found 1 = .ok (.getfield 83, 3) := by decide +kernel
theorem dX8_found_4 : decode cX8_found 4 = .ok (.aload_n 0, 1) := by decide +kernel
theorem dX8_found_5 : decode cX8_found 5 = .ok (.getfield 288, 3) := by decide +kernel
theorem dX8_found_8 : decode cX8_found 8 = .ok (.iload_n 2, 1) := by decide +kernel
theorem dX8_found_9 : decode cX8_found 9 = .ok (.iastore, 1) := by decide +kernel
theorem dX8_found_10 : decode cX8_found 10 = .ok (.aload_n 0, 1) := by decide +kernel
theorem dX8_found_11 : decode cX8_found 11 = .ok (.getfield 86, 3) := by decide +kernel
theorem dX8_found_14 : decode cX8_found 14 = .ok (.aload_n 0, 1) := by decide +kernel
theorem dX8_found_15 : decode cX8_found 15 = .ok (.getfield 288, 3) := by decide +kernel
theorem dX8_found_18 : decode cX8_found 18 = .ok (.iload 4, 2) := by decide +kernel
theorem dX8_found_20 : decode cX8_found 20 = .ok (.iastore, 1) := by decide +kernel
theorem dX8_found_21 : decode cX8_found 21 = .ok (.aload_n 0, 1) := by decide +kernel
theorem dX8_found_22 : decode cX8_found 22 = .ok (.aload_n 0, 1) := by decide +kernel
theorem dX8_found_23 : decode cX8_found 23 = .ok (.getfield 288, 3) := by decide +kernel
theorem dX8_found_26 : decode cX8_found 26 = .ok (.ifCond .ne 7, 3) := by decide +kernel
theorem dX8_found_29 : decode cX8_found 29 = .ok (.iload_n 2, 1) := by decide +kernel
theorem dX8_found_30 : decode cX8_found 30 = .ok (.goto 9, 3) := by decide +kernel
theorem dX8_found_33 : decode cX8_found 33 = .ok (.aload_n 0, 1) := by decide +kernel
theorem dX8_found_34 : decode cX8_found 34 = .ok (.getfield 291, 3) := by decide +kernel
theorem dX8_found_37 : decode cX8_found 37 = .ok (.iload_n 2, 1) := by decide +kernel
theorem dX8_found_38 : decode cX8_found 38 = .ok (.iand, 1) := by decide +kernel
theorem dX8_found_39 : decode cX8_found 39 = .ok (.putfield 291, 3) := by decide +kernel
theorem dX8_found_42 : decode cX8_found 42 = .ok (.aload_n 0, 1) := by decide +kernel
theorem dX8_found_43 : decode cX8_found 43 = .ok (.aload_n 0, 1) := by decide +kernel
theorem dX8_found_44 : decode cX8_found 44 = .ok (.getfield 288, 3) := by decide +kernel
theorem dX8_found_47 : decode cX8_found 47 = .ok (.ifCond .eq 13, 3) := by decide +kernel
theorem dX8_found_50 : decode cX8_found 50 = .ok (.iload_n 1, 1) := by decide +kernel
theorem dX8_found_51 : decode cX8_found 51 = .ok (.iconst 1, 1) := by decide +kernel
theorem dX8_found_52 : decode cX8_found 52 = .ok (.isub, 1) := by decide +kernel
theorem dX8_found_53 : decode cX8_found 53 = .ok (.aload_n 0, 1) := by decide +kernel
theorem dX8_found_54 : decode cX8_found 54 = .ok (.getfield 294, 3) := by decide +kernel
theorem dX8_found_57 : decode cX8_found 57 = .ok (.if_icmp .ge 9, 3) := by decide +kernel
theorem dX8_found_60 : decode cX8_found 60 = .ok (.iload_n 1, 1) := by decide +kernel
theorem dX8_found_61 : decode cX8_found 61 = .ok (.iconst 1, 1) := by decide +kernel
theorem dX8_found_62 : decode cX8_found 62 = .ok (.isub, 1) := by decide +kernel
theorem dX8_found_63 : decode cX8_found 63 = .ok (.goto 7, 3) := by decide +kernel
theorem dX8_found_66 : decode cX8_found 66 = .ok (.aload_n 0, 1) := by decide +kernel
theorem dX8_found_67 : decode cX8_found 67 = .ok (.getfield 294, 3) := by decide +kernel
theorem dX8_found_70 : decode cX8_found 70 = .ok (.putfield 294, 3) := by decide +kernel
theorem dX8_found_73 : decode cX8_found 73 = .ok (.aload_n 0, 1) := by decide +kernel
theorem dX8_found_74 : decode cX8_found 74 = .ok (.aload_n 0, 1) := by decide +kernel
theorem dX8_found_75 : decode cX8_found 75 = .ok (.getfield 288, 3) := by decide +kernel
theorem dX8_found_78 : decode cX8_found 78 = .ok (.ifCond .eq 12, 3) := by decide +kernel
theorem dX8_found_81 : decode cX8_found 81 = .ok (.iload 5, 2) := by decide +kernel
theorem dX8_found_83 : decode cX8_found 83 = .ok (.aload_n 0, 1) := by decide +kernel
theorem dX8_found_84 : decode cX8_found 84 = .ok (.getfield 297, 3) := by decide +kernel
theorem dX8_found_87 : decode cX8_found 87 = .ok (.if_icmp .ge 8, 3) := by decide +kernel
theorem dX8_found_90 : decode cX8_found 90 = .ok (.iload 5, 2) := by decide +kernel
theorem dX8_found_92 : decode cX8_found 92 = .ok (.goto 7, 3) := by decide +kernel
theorem dX8_found_95 : decode cX8_found 95 = .ok (.aload_n 0, 1) := by decide +kernel
theorem dX8_found_96 : decode cX8_found 96 = .ok (.getfield 297, 3) := by decide +kernel
theorem dX8_found_99 : decode cX8_found 99 = .ok (.putfield 297, 3) := by decide +kernel
theorem dX8_found_102 : decode cX8_found 102 = .ok (.aload_n 0, 1) := by decide +kernel
theorem dX8_found_103 : decode cX8_found 103 = .ok (.getfield 288, 3) := by decide +kernel
theorem dX8_found_106 : decode cX8_found 106 = .ok (.ifCond .eq 31, 3) := by decide +kernel
theorem dX8_found_109 : decode cX8_found 109 = .ok (.iload 4, 2) := by decide +kernel
theorem dX8_found_111 : decode cX8_found 111 = .ok (.aload_n 0, 1) := by decide +kernel
theorem dX8_found_112 : decode cX8_found 112 = .ok (.getfield 300, 3) := by decide +kernel
theorem dX8_found_115 : decode cX8_found 115 = .ok (.if_icmp .gt 22, 3) := by decide +kernel
theorem dX8_found_118 : decode cX8_found 118 = .ok (.iload 4, 2) := by decide +kernel
theorem dX8_found_120 : decode cX8_found 120 = .ok (.aload_n 0, 1) := by decide +kernel
theorem dX8_found_121 : decode cX8_found 121 = .ok (.getfield 300, 3) := by decide +kernel
theorem dX8_found_124 : decode cX8_found 124 = .ok (.if_icmp .ne 42, 3) := by decide +kernel
theorem dX8_found_127 : decode cX8_found 127 = .ok (.iload_n 1, 1) := by decide +kernel
theorem dX8_found_128 : decode cX8_found 128 = .ok (.iconst 1, 1) := by decide +kernel
theorem dX8_found_129 : decode cX8_found 129 = .ok (.isub, 1) := by decide +kernel
theorem dX8_found_130 : decode cX8_found 130 = .ok (.aload_n 0, 1) := by decide +kernel
theorem dX8_found_131 : decode cX8_found 131 = .ok (.getfield 303, 3) := by decide +kernel
theorem dX8_found_134 : decode cX8_found 134 = .ok (.if_icmp .ge 32, 3) := by decide +kernel
theorem dX8_found_137 : decode cX8_found 137 = .ok (.aload_n 0, 1) := by decide +kernel
theorem dX8_found_138 : decode cX8_found 138 = .ok (.iload 4, 2) := by decide +kernel
theorem dX8_found_140 : decode cX8_found 140 = .ok (.putfield 300, 3) := by decide +kernel
theorem dX8_found_143 : decode cX8_found 143 = .ok (.aload_n 0, 1) := by decide +kernel
theorem dX8_found_144 : decode cX8_found 144 = .ok (.iload_n 1, 1) := by decide +kernel
theorem dX8_found_145 : decode cX8_found 145 = .ok (.iconst 1, 1) := by decide +kernel
theorem dX8_found_146 : decode cX8_found 146 = .ok (.isub, 1) := by decide +kernel
theorem dX8_found_147 : decode cX8_found 147 = .ok (.putfield 303, 3) := by decide +kernel
theorem dX8_found_150 : decode cX8_found 150 = .ok (.aload_n 0, 1) := by decide +kernel
theorem dX8_found_151 : decode cX8_found 151 = .ok (.iload_n 3, 1) := by decide +kernel
theorem dX8_found_152 : decode cX8_found 152 = .ok (.putfield 306, 3) := by decide +kernel
theorem dX8_found_155 : decode cX8_found 155 = .ok (.aload_n 0, 1) := by decide +kernel
theorem dX8_found_156 : decode cX8_found 156 = .ok (.getfield 77, 3) := by decide +kernel
theorem dX8_found_159 : decode cX8_found 159 = .ok (.aload_n 0, 1) := by decide +kernel
theorem dX8_found_160 : decode cX8_found 160 = .ok (.getfield 80, 3) := by decide +kernel
theorem dX8_found_163 : decode cX8_found 163 = .ok (.invokestatic 309, 3) := by decide +kernel
theorem dX8_found_166 : decode cX8_found 166 = .ok (.aload_n 0, 1) := by decide +kernel
theorem dX8_found_167 : decode cX8_found 167 = .ok (.dup, 1) := by decide +kernel
theorem dX8_found_168 : decode cX8_found 168 = .ok (.getfield 288, 3) := by decide +kernel
theorem dX8_found_171 : decode cX8_found 171 = .ok (.iconst 1, 1) := by decide +kernel
theorem dX8_found_172 : decode cX8_found 172 = .ok (.iadd, 1) := by decide +kernel
theorem dX8_found_173 : decode cX8_found 173 = .ok (.putfield 288, 3) := by decide +kernel
theorem dX8_found_176 : decode cX8_found 176 = .ok (.return_, 1) := by decide +kernel
theorem dX8_findWays_0 : decode cX8_findWays 0 = .ok (.aload_n 0, 1) := by decide +kernel
theorem dX8_findWays_1 : decode cX8_findWays 1 = .ok (.iconst 0, 1) := by decide +kernel
theorem dX8_findWays_2 : decode cX8_findWays 2 = .ok (.putfield 288, 3) := by decide +kernel
theorem dX8_findWays_5 : decode cX8_findWays 5 = .ok (.aload_n 0, 1) := by decide +kernel
theorem dX8_findWays_6 : decode cX8_findWays 6 = .ok (.iload_n 2, 1) := by decide +kernel
theorem dX8_findWays_7 : decode cX8_findWays 7 = .ok (.putfield 275, 3) := by decide +kernel
theorem dX8_findWays_10 : decode cX8_findWays 10 = .ok (.aload_n 0, 1) := by decide +kernel
theorem dX8_findWays_11 : decode cX8_findWays 11 = .ok (.iload 4, 2) := by decide +kernel
theorem dX8_findWays_13 : decode cX8_findWays 13 = .ok (.putfield 282, 3) := by decide +kernel
theorem dX8_findWays_16 : decode cX8_findWays 16 = .ok (.aload_n 0, 1) := by decide +kernel
theorem dX8_findWays_17 : decode cX8_findWays 17 = .ok (.getfield 77, 3) := by decide +kernel
theorem dX8_findWays_20 : decode cX8_findWays 20 = .ok (.iconst 0, 1) := by decide +kernel
theorem dX8_findWays_21 : decode cX8_findWays 21 = .ok (.iload_n 1, 1) := by decide +kernel
theorem dX8_findWays_22 : decode cX8_findWays 22 = .ok (.iastore, 1) := by decide +kernel
theorem dX8_findWays_23 : decode cX8_findWays 23 = .ok (.aload_n 0, 1) := by decide +kernel
theorem dX8_findWays_24 : decode cX8_findWays 24 = .ok (.iconst 1, 1) := by decide +kernel
theorem dX8_findWays_25 : decode cX8_findWays 25 = .ok (.iconst 1, 1) := by decide +kernel
theorem dX8_findWays_26 : decode cX8_findWays 26 = .ok (.iload_n 1, 1) := by decide +kernel
theorem dX8_findWays_27 : decode cX8_findWays 27 = .ok (.ishl, 1) := by decide +kernel
theorem dX8_findWays_28 : decode cX8_findWays 28 = .ok (.iload_n 3, 1) := by decide +kernel
theorem dX8_findWays_29 : decode cX8_findWays 29 = .ok (.ldc_w 313, 3) := by decide +kernel
theorem dX8_findWays_32 : decode cX8_findWays 32 = .ok (.iconst 0, 1) := by decide +kernel
theorem dX8_findWays_33 : decode cX8_findWays 33 = .ok (.invokevirtual 285, 3) := by decide +kernel
theorem dX8_findWays_36 : decode cX8_findWays 36 = .ok (.return_, 1) := by decide +kernel
theorem dX8_ways_0 : decode cX8_ways 0 = .ok (.aload_n 0, 1) := by decide +kernel
theorem dX8_ways_1 : decode cX8_ways 1 = .ok (.iload_n 1, 1) := by decide +kernel
theorem dX8_ways_2 : decode cX8_ways 2 = .ok (.iload_n 2, 1) := by decide +kernel
theorem dX8_ways_3 : decode cX8_ways 3 = .ok (.invokevirtual 155, 3) := by decide +kernel
theorem dX8_ways_6 : decode cX8_ways 6 = .ok (.ifCond .ne 10, 3) := by decide +kernel
theorem dX8_ways_9 : decode cX8_ways 9 = .ok (.aload_n 0, 1) := by decide +kernel
theorem dX8_ways_10 : decode cX8_ways 10 = .ok (.bipush (-2), 2) := by decide +kernel
theorem dX8_ways_12 : decode cX8_ways 12 = .ok (.invokevirtual 112, 3) := by decide +kernel
theorem dX8_ways_15 : decode cX8_ways 15 = .ok (.ireturn, 1) := by decide +kernel
theorem dX8_ways_16 : decode cX8_ways 16 = .ok (.aload_n 0, 1) := by decide +kernel
theorem dX8_ways_17 : decode cX8_ways 17 = .ok (.iload_n 1, 1) := by decide +kernel
theorem dX8_ways_18 : decode cX8_ways 18 = .ok (.iload_n 2, 1) := by decide +kernel
theorem dX8_ways_19 : decode cX8_ways 19 = .ok (.iconst 0, 1) := by decide +kernel
theorem dX8_ways_20 : decode cX8_ways 20 = .ok (.iconst 0, 1) := by decide +kernel
theorem dX8_ways_21 : decode cX8_ways 21 = .ok (.invokevirtual 314, 3) := by decide +kernel
theorem dX8_ways_24 : decode cX8_ways 24 = .ok (.aload_n 0, 1) := by decide +kernel
theorem dX8_ways_25 : decode cX8_ways 25 = .ok (.getfield 288, 3) := by decide +kernel
theorem dX8_ways_28 : decode cX8_ways 28 = .ok (.ireturn, 1) := by decide +kernel
theorem dX8_fewest_0 : decode cX8_fewest 0 = .ok (.aload_n 0, 1) := by decide +kernel
theorem dX8_fewest_1 : decode cX8_fewest 1 = .ok (.iload_n 1, 1) := by decide +kernel
theorem dX8_fewest_2 : decode cX8_fewest 2 = .ok (.iload_n 2, 1) := by decide +kernel
theorem dX8_fewest_3 : decode cX8_fewest 3 = .ok (.invokevirtual 155, 3) := by decide +kernel
theorem dX8_fewest_6 : decode cX8_fewest 6 = .ok (.ifCond .ne 10, 3) := by decide +kernel
theorem dX8_fewest_9 : decode cX8_fewest 9 = .ok (.aload_n 0, 1) := by decide +kernel
theorem dX8_fewest_10 : decode cX8_fewest 10 = .ok (.bipush (-2), 2) := by decide +kernel
theorem dX8_fewest_12 : decode cX8_fewest 12 = .ok (.invokevirtual 112, 3) := by decide +kernel
theorem dX8_fewest_15 : decode cX8_fewest 15 = .ok (.ireturn, 1) := by decide +kernel
theorem dX8_fewest_16 : decode cX8_fewest 16 = .ok (.aload_n 0, 1) := by decide +kernel
theorem dX8_fewest_17 : decode cX8_fewest 17 = .ok (.iload_n 1, 1) := by decide +kernel
theorem dX8_fewest_18 : decode cX8_fewest 18 = .ok (.iload_n 2, 1) := by decide +kernel
theorem dX8_fewest_19 : decode cX8_fewest 19 = .ok (.iconst 0, 1) := by decide +kernel
theorem dX8_fewest_20 : decode cX8_fewest 20 = .ok (.iconst 0, 1) := by decide +kernel
theorem dX8_fewest_21 : decode cX8_fewest 21 = .ok (.invokevirtual 314, 3) := by decide +kernel
theorem dX8_fewest_24 : decode cX8_fewest 24 = .ok (.aload_n 0, 1) := by decide +kernel
theorem dX8_fewest_25 : decode cX8_fewest 25 = .ok (.getfield 288, 3) := by decide +kernel
theorem dX8_fewest_28 : decode cX8_fewest 28 = .ok (.ifCond .ne 7, 3) := by decide +kernel
theorem dX8_fewest_31 : decode cX8_fewest 31 = .ok (.iconst (-1), 1) := by decide +kernel
theorem dX8_fewest_32 : decode cX8_fewest 32 = .ok (.goto 7, 3) := by decide +kernel
theorem dX8_fewest_35 : decode cX8_fewest 35 = .ok (.aload_n 0, 1) := by decide +kernel
theorem dX8_fewest_36 : decode cX8_fewest 36 = .ok (.getfield 294, 3) := by decide +kernel
theorem dX8_fewest_39 : decode cX8_fewest 39 = .ok (.ireturn, 1) := by decide +kernel
theorem dX8_surestOf_0 : decode cX8_surestOf 0 = .ok (.aload_n 0, 1) := by decide +kernel
theorem dX8_surestOf_1 : decode cX8_surestOf 1 = .ok (.iload_n 1, 1) := by decide +kernel
theorem dX8_surestOf_2 : decode cX8_surestOf 2 = .ok (.iload_n 2, 1) := by decide +kernel
theorem dX8_surestOf_3 : decode cX8_surestOf 3 = .ok (.invokevirtual 155, 3) := by decide +kernel
theorem dX8_surestOf_6 : decode cX8_surestOf 6 = .ok (.ifCond .eq 21, 3) := by decide +kernel
theorem dX8_surestOf_9 : decode cX8_surestOf 9 = .ok (.iload_n 3, 1) := by decide +kernel
theorem dX8_surestOf_10 : decode cX8_surestOf 10 = .ok (.i2l, 1) := by decide +kernel
theorem dX8_surestOf_11 : decode cX8_surestOf 11 = .ok (.lconst 0, 1) := by decide +kernel
theorem dX8_surestOf_12 : decode cX8_surestOf 12 = .ok (.ldc2_w 269, 3) := by decide +kernel
theorem dX8_surestOf_15 : decode cX8_surestOf 15 = .ok (.invokestatic 98, 3) := by decide +kernel
theorem dX8_surestOf_18 : decode cX8_surestOf 18 = .ok (.ifCond .eq 9, 3) := by decide +kernel
theorem dX8_surestOf_21 : decode cX8_surestOf 21 = .ok (.iload 4, 2) := by decide +kernel
theorem dX8_surestOf_23 : decode cX8_surestOf 23 = .ok (.iconst (-1), 1) := by decide +kernel
theorem dX8_surestOf_24 : decode cX8_surestOf 24 = .ok (.if_icmp .ge 10, 3) := by decide +kernel
theorem dX8_surestOf_27 : decode cX8_surestOf 27 = .ok (.aload_n 0, 1) := by decide +kernel
theorem dX8_surestOf_28 : decode cX8_surestOf 28 = .ok (.bipush (-2), 2) := by decide +kernel
theorem dX8_surestOf_30 : decode cX8_surestOf 30 = .ok (.invokevirtual 112, 3) := by decide +kernel
theorem dX8_surestOf_33 : decode cX8_surestOf 33 = .ok (.ireturn, 1) := by decide +kernel
theorem dX8_surestOf_34 : decode cX8_surestOf 34 = .ok (.aload_n 0, 1) := by decide +kernel
theorem dX8_surestOf_35 : decode cX8_surestOf 35 = .ok (.iload_n 1, 1) := by decide +kernel
theorem dX8_surestOf_36 : decode cX8_surestOf 36 = .ok (.iload_n 2, 1) := by decide +kernel
theorem dX8_surestOf_37 : decode cX8_surestOf 37 = .ok (.iload_n 3, 1) := by decide +kernel
theorem dX8_surestOf_38 : decode cX8_surestOf 38 = .ok (.iload 5, 2) := by decide +kernel
theorem dX8_surestOf_40 : decode cX8_surestOf 40 = .ok (.invokevirtual 314, 3) := by decide +kernel
theorem dX8_surestOf_43 : decode cX8_surestOf 43 = .ok (.aload_n 0, 1) := by decide +kernel
theorem dX8_surestOf_44 : decode cX8_surestOf 44 = .ok (.getfield 288, 3) := by decide +kernel
theorem dX8_surestOf_47 : decode cX8_surestOf 47 = .ok (.ifCond .eq 12, 3) := by decide +kernel
theorem dX8_surestOf_50 : decode cX8_surestOf 50 = .ok (.iload 4, 2) := by decide +kernel
theorem dX8_surestOf_52 : decode cX8_surestOf 52 = .ok (.aload_n 0, 1) := by decide +kernel
theorem dX8_surestOf_53 : decode cX8_surestOf 53 = .ok (.getfield 303, 3) := by decide +kernel
theorem dX8_surestOf_56 : decode cX8_surestOf 56 = .ok (.if_icmp .le 10, 3) := by decide +kernel
theorem dX8_surestOf_59 : decode cX8_surestOf 59 = .ok (.aload_n 0, 1) := by decide +kernel
theorem dX8_surestOf_60 : decode cX8_surestOf 60 = .ok (.bipush (-5), 2) := by decide +kernel
theorem dX8_surestOf_62 : decode cX8_surestOf 62 = .ok (.invokevirtual 112, 3) := by decide +kernel
theorem dX8_surestOf_65 : decode cX8_surestOf 65 = .ok (.ireturn, 1) := by decide +kernel
theorem dX8_surestOf_66 : decode cX8_surestOf 66 = .ok (.iload 4, 2) := by decide +kernel
theorem dX8_surestOf_68 : decode cX8_surestOf 68 = .ok (.iconst (-1), 1) := by decide +kernel
theorem dX8_surestOf_69 : decode cX8_surestOf 69 = .ok (.if_icmp .ne 10, 3) := by decide +kernel
theorem dX8_surestOf_72 : decode cX8_surestOf 72 = .ok (.aload_n 0, 1) := by decide +kernel
theorem dX8_surestOf_73 : decode cX8_surestOf 73 = .ok (.getfield 300, 3) := by decide +kernel
theorem dX8_surestOf_76 : decode cX8_surestOf 76 = .ok (.goto 10, 3) := by decide +kernel
theorem dX8_surestOf_79 : decode cX8_surestOf 79 = .ok (.aload_n 0, 1) := by decide +kernel
theorem dX8_surestOf_80 : decode cX8_surestOf 80 = .ok (.getfield 80, 3) := by decide +kernel
theorem dX8_surestOf_83 : decode cX8_surestOf 83 = .ok (.iload 4, 2) := by decide +kernel
theorem dX8_surestOf_85 : decode cX8_surestOf 85 = .ok (.iaload, 1) := by decide +kernel
theorem dX8_surestOf_86 : decode cX8_surestOf 86 = .ok (.ireturn, 1) := by decide +kernel
theorem dX8_surest_0 : decode cX8_surest 0 = .ok (.aload_n 0, 1) := by decide +kernel
theorem dX8_surest_1 : decode cX8_surest 1 = .ok (.iload_n 1, 1) := by decide +kernel
theorem dX8_surest_2 : decode cX8_surest 2 = .ok (.iload_n 2, 1) := by decide +kernel
theorem dX8_surest_3 : decode cX8_surest 3 = .ok (.iload_n 3, 1) := by decide +kernel
theorem dX8_surest_4 : decode cX8_surest 4 = .ok (.iload 4, 2) := by decide +kernel
theorem dX8_surest_6 : decode cX8_surest 6 = .ok (.iconst 0, 1) := by decide +kernel
theorem dX8_surest_7 : decode cX8_surest 7 = .ok (.invokevirtual 318, 3) := by decide +kernel
theorem dX8_surest_10 : decode cX8_surest 10 = .ok (.ireturn, 1) := by decide +kernel
theorem dX8_unread_0 : decode cX8_unread 0 = .ok (.aload_n 0, 1) := by decide +kernel
theorem dX8_unread_1 : decode cX8_unread 1 = .ok (.iload_n 1, 1) := by decide +kernel
theorem dX8_unread_2 : decode cX8_unread 2 = .ok (.iload_n 2, 1) := by decide +kernel
theorem dX8_unread_3 : decode cX8_unread 3 = .ok (.iload_n 3, 1) := by decide +kernel
theorem dX8_unread_4 : decode cX8_unread 4 = .ok (.iload 4, 2) := by decide +kernel
theorem dX8_unread_6 : decode cX8_unread 6 = .ok (.iconst 1, 1) := by decide +kernel
theorem dX8_unread_7 : decode cX8_unread 7 = .ok (.invokevirtual 318, 3) := by decide +kernel
theorem dX8_unread_10 : decode cX8_unread 10 = .ok (.ireturn, 1) := by decide +kernel
theorem dX8_unseen_0 : decode cX8_unseen 0 = .ok (.aload_n 0, 1) := by decide +kernel
theorem dX8_unseen_1 : decode cX8_unseen 1 = .ok (.iload_n 1, 1) := by decide +kernel
theorem dX8_unseen_2 : decode cX8_unseen 2 = .ok (.iload_n 2, 1) := by decide +kernel
theorem dX8_unseen_3 : decode cX8_unseen 3 = .ok (.iload_n 3, 1) := by decide +kernel
theorem dX8_unseen_4 : decode cX8_unseen 4 = .ok (.iload 4, 2) := by decide +kernel
theorem dX8_unseen_6 : decode cX8_unseen 6 = .ok (.iconst 2, 1) := by decide +kernel
theorem dX8_unseen_7 : decode cX8_unseen 7 = .ok (.invokevirtual 318, 3) := by decide +kernel
theorem dX8_unseen_10 : decode cX8_unseen 10 = .ok (.ireturn, 1) := by decide +kernel
theorem dX8_readers_0 : decode cX8_readers 0 = .ok (.aload_n 0, 1) := by decide +kernel
theorem dX8_readers_1 : decode cX8_readers 1 = .ok (.iload_n 1, 1) := by decide +kernel
theorem dX8_readers_2 : decode cX8_readers 2 = .ok (.iload_n 2, 1) := by decide +kernel
theorem dX8_readers_3 : decode cX8_readers 3 = .ok (.invokevirtual 155, 3) := by decide +kernel
theorem dX8_readers_6 : decode cX8_readers 6 = .ok (.ifCond .ne 10, 3) := by decide +kernel
theorem dX8_readers_9 : decode cX8_readers 9 = .ok (.aload_n 0, 1) := by decide +kernel
theorem dX8_readers_10 : decode cX8_readers 10 = .ok (.bipush (-2), 2) := by decide +kernel
theorem dX8_readers_12 : decode cX8_readers 12 = .ok (.invokevirtual 112, 3) := by decide +kernel
theorem dX8_readers_15 : decode cX8_readers 15 = .ok (.ireturn, 1) := by decide +kernel
theorem dX8_readers_16 : decode cX8_readers 16 = .ok (.aload_n 0, 1) := by decide +kernel
theorem dX8_readers_17 : decode cX8_readers 17 = .ok (.iload_n 1, 1) := by decide +kernel
theorem dX8_readers_18 : decode cX8_readers 18 = .ok (.iload_n 2, 1) := by decide +kernel
theorem dX8_readers_19 : decode cX8_readers 19 = .ok (.iconst 0, 1) := by decide +kernel
theorem dX8_readers_20 : decode cX8_readers 20 = .ok (.iconst 0, 1) := by decide +kernel
theorem dX8_readers_21 : decode cX8_readers 21 = .ok (.invokevirtual 314, 3) := by decide +kernel
theorem dX8_readers_24 : decode cX8_readers 24 = .ok (.aload_n 0, 1) := by decide +kernel
theorem dX8_readers_25 : decode cX8_readers 25 = .ok (.getfield 288, 3) := by decide +kernel
theorem dX8_readers_28 : decode cX8_readers 28 = .ok (.ifCond .ne 12, 3) := by decide +kernel
theorem dX8_readers_31 : decode cX8_readers 31 = .ok (.aload_n 0, 1) := by decide +kernel
theorem dX8_readers_32 : decode cX8_readers 32 = .ok (.bipush (-5), 2) := by decide +kernel
theorem dX8_readers_34 : decode cX8_readers 34 = .ok (.invokevirtual 112, 3) := by decide +kernel
theorem dX8_readers_37 : decode cX8_readers 37 = .ok (.goto 7, 3) := by decide +kernel
theorem dX8_readers_40 : decode cX8_readers 40 = .ok (.aload_n 0, 1) := by decide +kernel
theorem dX8_readers_41 : decode cX8_readers 41 = .ok (.getfield 297, 3) := by decide +kernel
theorem dX8_readers_44 : decode cX8_readers 44 = .ok (.ireturn, 1) := by decide +kernel
theorem dX8_both_0 : decode cX8_both 0 = .ok (.iload_n 0, 1) := by decide +kernel
theorem dX8_both_1 : decode cX8_both 1 = .ok (.i2l, 1) := by decide +kernel
theorem dX8_both_2 : decode cX8_both 2 = .ok (.iload_n 1, 1) := by decide +kernel
theorem dX8_both_3 : decode cX8_both 3 = .ok (.i2l, 1) := by decide +kernel
theorem dX8_both_4 : decode cX8_both 4 = .ok (.lmul, 1) := by decide +kernel
theorem dX8_both_5 : decode cX8_both 5 = .ok (.ldc2_w 322, 3) := by decide +kernel
theorem dX8_both_8 : decode cX8_both 8 = .ok (.ldiv, 1) := by decide +kernel
theorem dX8_both_9 : decode cX8_both 9 = .ok (.l2i, 1) := by decide +kernel
theorem dX8_both_10 : decode cX8_both 10 = .ok (.ireturn, 1) := by decide +kernel
theorem dX8_together_0 : decode cX8_together 0 = .ok (.aload_n 0, 1) := by decide +kernel
theorem dX8_together_1 : decode cX8_together 1 = .ok (.iload_n 1, 1) := by decide +kernel
theorem dX8_together_2 : decode cX8_together 2 = .ok (.iload_n 2, 1) := by decide +kernel
theorem dX8_together_3 : decode cX8_together 3 = .ok (.invokevirtual 155, 3) := by decide +kernel
theorem dX8_together_6 : decode cX8_together 6 = .ok (.ifCond .eq 26, 3) := by decide +kernel
theorem dX8_together_9 : decode cX8_together 9 = .ok (.aload_n 0, 1) := by decide +kernel
theorem dX8_together_10 : decode cX8_together 10 = .ok (.iload_n 3, 1) := by decide +kernel
theorem dX8_together_11 : decode cX8_together 11 = .ok (.iload 4, 2) := by decide +kernel
theorem dX8_together_13 : decode cX8_together 13 = .ok (.invokevirtual 155, 3) := by decide +kernel
theorem dX8_together_16 : decode cX8_together 16 = .ok (.ifCond .eq 16, 3) := by decide +kernel
theorem dX8_together_19 : decode cX8_together 19 = .ok (.iload 5, 2) := by decide +kernel
theorem dX8_together_21 : decode cX8_together 21 = .ok (.i2l, 1) := by decide +kernel
theorem dX8_together_22 : decode cX8_together 22 = .ok (.lconst 0, 1) := by decide +kernel
theorem dX8_together_23 : decode cX8_together 23 = .ok (.ldc2_w 269, 3) := by decide +kernel
theorem dX8_together_26 : decode cX8_together 26 = .ok (.invokestatic 98, 3) := by decide +kernel
theorem dX8_together_29 : decode cX8_together 29 = .ok (.ifCond .ne 10, 3) := by decide +kernel
theorem dX8_together_32 : decode cX8_together 32 = .ok (.aload_n 0, 1) := by decide +kernel
theorem dX8_together_33 : decode cX8_together 33 = .ok (.bipush (-2), 2) := by decide +kernel
theorem dX8_together_35 : decode cX8_together 35 = .ok (.invokevirtual 112, 3) := by decide +kernel
theorem dX8_together_38 : decode cX8_together 38 = .ok (.ireturn, 1) := by decide +kernel
theorem dX8_together_39 : decode cX8_together 39 = .ok (.aload_n 0, 1) := by decide +kernel
theorem dX8_together_40 : decode cX8_together 40 = .ok (.iload_n 1, 1) := by decide +kernel
theorem dX8_together_41 : decode cX8_together 41 = .ok (.iload_n 2, 1) := by decide +kernel
theorem dX8_together_42 : decode cX8_together 42 = .ok (.iload 5, 2) := by decide +kernel
theorem dX8_together_44 : decode cX8_together 44 = .ok (.iconst 0, 1) := by decide +kernel
theorem dX8_together_45 : decode cX8_together 45 = .ok (.invokevirtual 314, 3) := by decide +kernel
theorem dX8_together_48 : decode cX8_together 48 = .ok (.aload_n 0, 1) := by decide +kernel
theorem dX8_together_49 : decode cX8_together 49 = .ok (.getfield 288, 3) := by decide +kernel
theorem dX8_together_52 : decode cX8_together 52 = .ok (.istore 6, 2) := by decide +kernel
theorem dX8_together_54 : decode cX8_together 54 = .ok (.aload_n 0, 1) := by decide +kernel
theorem dX8_together_55 : decode cX8_together 55 = .ok (.getfield 83, 3) := by decide +kernel
theorem dX8_together_58 : decode cX8_together 58 = .ok (.aload_n 0, 1) := by decide +kernel
theorem dX8_together_59 : decode cX8_together 59 = .ok (.getfield 89, 3) := by decide +kernel
theorem dX8_together_62 : decode cX8_together 62 = .ok (.invokestatic 309, 3) := by decide +kernel
theorem dX8_together_65 : decode cX8_together 65 = .ok (.aload_n 0, 1) := by decide +kernel
theorem dX8_together_66 : decode cX8_together 66 = .ok (.getfield 86, 3) := by decide +kernel
theorem dX8_together_69 : decode cX8_together 69 = .ok (.aload_n 0, 1) := by decide +kernel
theorem dX8_together_70 : decode cX8_together 70 = .ok (.getfield 92, 3) := by decide +kernel
theorem dX8_together_73 : decode cX8_together 73 = .ok (.invokestatic 309, 3) := by decide +kernel
theorem dX8_together_76 : decode cX8_together 76 = .ok (.aload_n 0, 1) := by decide +kernel
theorem dX8_together_77 : decode cX8_together 77 = .ok (.iload_n 3, 1) := by decide +kernel
theorem dX8_together_78 : decode cX8_together 78 = .ok (.iload 4, 2) := by decide +kernel
theorem dX8_together_80 : decode cX8_together 80 = .ok (.iload 5, 2) := by decide +kernel
theorem dX8_together_82 : decode cX8_together 82 = .ok (.iconst 0, 1) := by decide +kernel
theorem dX8_together_83 : decode cX8_together 83 = .ok (.invokevirtual 314, 3) := by decide +kernel
theorem dX8_together_86 : decode cX8_together 86 = .ok (.iconst (-1), 1) := by decide +kernel
theorem dX8_together_87 : decode cX8_together 87 = .ok (.istore 7, 2) := by decide +kernel
theorem dX8_together_89 : decode cX8_together 89 = .ok (.iconst 0, 1) := by decide +kernel
theorem dX8_together_90 : decode cX8_together 90 = .ok (.istore 8, 2) := by decide +kernel
theorem dX8_together_92 : decode cX8_together 92 = .ok (.iload 8, 2) := by decide +kernel
theorem dX8_together_94 : decode cX8_together 94 = .ok (.iload 6, 2) := by decide +kernel
theorem dX8_together_96 : decode cX8_together 96 = .ok (.if_icmp .ge 80, 3) := by decide +kernel
theorem dX8_together_99 : decode cX8_together 99 = .ok (.iconst 0, 1) := by decide +kernel
theorem dX8_together_100 : decode cX8_together 100 = .ok (.istore 9, 2) := by decide +kernel
theorem dX8_together_102 : decode cX8_together 102 = .ok (.iload 9, 2) := by decide +kernel
theorem dX8_together_104 : decode cX8_together 104 = .ok (.aload_n 0, 1) := by decide +kernel
theorem dX8_together_105 : decode cX8_together 105 = .ok (.getfield 288, 3) := by decide +kernel
theorem dX8_together_108 : decode cX8_together 108 = .ok (.if_icmp .ge 62, 3) := by decide +kernel
theorem dX8_together_111 : decode cX8_together 111 = .ok (.aload_n 0, 1) := by decide +kernel
theorem dX8_together_112 : decode cX8_together 112 = .ok (.getfield 92, 3) := by decide +kernel
theorem dX8_together_115 : decode cX8_together 115 = .ok (.iload 8, 2) := by decide +kernel
theorem dX8_together_117 : decode cX8_together 117 = .ok (.iaload, 1) := by decide +kernel
theorem dX8_together_118 : decode cX8_together 118 = .ok (.aload_n 0, 1) := by decide +kernel
theorem dX8_together_119 : decode cX8_together 119 = .ok (.getfield 86, 3) := by decide +kernel
theorem dX8_together_122 : decode cX8_together 122 = .ok (.iload 9, 2) := by decide +kernel
theorem dX8_together_124 : decode cX8_together 124 = .ok (.iaload, 1) := by decide +kernel
theorem dX8_together_125 : decode cX8_together 125 = .ok (.invokestatic 324, 3) := by decide +kernel
theorem dX8_together_128 : decode cX8_together 128 = .ok (.istore 10, 2) := by decide +kernel
theorem dX8_together_130 : decode cX8_together 130 = .ok (.aload_n 0, 1) := by decide +kernel
theorem dX8_together_131 : decode cX8_together 131 = .ok (.getfield 89, 3) := by decide +kernel
theorem dX8_together_134 : decode cX8_together 134 = .ok (.iload 8, 2) := by decide +kernel
theorem dX8_together_136 : decode cX8_together 136 = .ok (.iaload, 1) := by decide +kernel
theorem dX8_together_137 : decode cX8_together 137 = .ok (.aload_n 0, 1) := by decide +kernel
theorem dX8_together_138 : decode cX8_together 138 = .ok (.getfield 83, 3) := by decide +kernel
theorem dX8_together_141 : decode cX8_together 141 = .ok (.iload 9, 2) := by decide +kernel
theorem dX8_together_143 : decode cX8_together 143 = .ok (.iaload, 1) := by decide +kernel
theorem dX8_together_144 : decode cX8_together 144 = .ok (.iand, 1) := by decide +kernel
theorem dX8_together_145 : decode cX8_together 145 = .ok (.ifCond .ne 15, 3) := by decide +kernel
theorem dX8_together_148 : decode cX8_together 148 = .ok (.iload 10, 2) := by decide +kernel
theorem dX8_together_150 : decode cX8_together 150 = .ok (.iload 7, 2) := by decide +kernel
theorem dX8_together_152 : decode cX8_together 152 = .ok (.if_icmp .le 8, 3) := by decide +kernel
theorem dX8_together_155 : decode cX8_together 155 = .ok (.iload 10, 2) := by decide +kernel
theorem dX8_together_157 : decode cX8_together 157 = .ok (.goto 5, 3) := by decide +kernel
theorem dX8_together_160 : decode cX8_together 160 = .ok (.iload 7, 2) := by decide +kernel
theorem dX8_together_162 : decode cX8_together 162 = .ok (.istore 7, 2) := by decide +kernel
theorem dX8_together_164 : decode cX8_together 164 = .ok (.iinc 9 1, 3) := by decide +kernel
theorem dX8_together_167 : decode cX8_together 167 = .ok (.goto (-65), 3) := by decide +kernel
theorem dX8_together_170 : decode cX8_together 170 = .ok (.iinc 8 1, 3) := by decide +kernel
theorem dX8_together_173 : decode cX8_together 173 = .ok (.goto (-81), 3) := by decide +kernel
theorem dX8_together_176 : decode cX8_together 176 = .ok (.iload 7, 2) := by decide +kernel
theorem dX8_together_178 : decode cX8_together 178 = .ok (.iconst (-1), 1) := by decide +kernel
theorem dX8_together_179 : decode cX8_together 179 = .ok (.if_icmp .ne 12, 3) := by decide +kernel
theorem dX8_together_182 : decode cX8_together 182 = .ok (.aload_n 0, 1) := by decide +kernel
theorem dX8_together_183 : decode cX8_together 183 = .ok (.bipush (-5), 2) := by decide +kernel
theorem dX8_together_185 : decode cX8_together 185 = .ok (.invokevirtual 112, 3) := by decide +kernel
theorem dX8_together_188 : decode cX8_together 188 = .ok (.goto 5, 3) := by decide +kernel
theorem dX8_together_191 : decode cX8_together 191 = .ok (.iload 7, 2) := by decide +kernel
theorem dX8_together_193 : decode cX8_together 193 = .ok (.ireturn, 1) := by decide +kernel
theorem dX8_halves_0 : decode cX8_halves 0 = .ok (.aload_n 0, 1) := by decide +kernel
theorem dX8_halves_1 : decode cX8_halves 1 = .ok (.iload_n 1, 1) := by decide +kernel
theorem dX8_halves_2 : decode cX8_halves 2 = .ok (.iload_n 2, 1) := by decide +kernel
theorem dX8_halves_3 : decode cX8_halves 3 = .ok (.invokevirtual 155, 3) := by decide +kernel
theorem dX8_halves_6 : decode cX8_halves 6 = .ok (.ifCond .eq 15, 3) := by decide +kernel
theorem dX8_halves_9 : decode cX8_halves 9 = .ok (.iload_n 3, 1) := by decide +kernel
theorem dX8_halves_10 : decode cX8_halves 10 = .ok (.i2l, 1) := by decide +kernel
theorem dX8_halves_11 : decode cX8_halves 11 = .ok (.lconst 0, 1) := by decide +kernel
theorem dX8_halves_12 : decode cX8_halves 12 = .ok (.ldc2_w 269, 3) := by decide +kernel
theorem dX8_halves_15 : decode cX8_halves 15 = .ok (.invokestatic 98, 3) := by decide +kernel
theorem dX8_halves_18 : decode cX8_halves 18 = .ok (.ifCond .ne 10, 3) := by decide +kernel
theorem dX8_halves_21 : decode cX8_halves 21 = .ok (.aload_n 0, 1) := by decide +kernel
theorem dX8_halves_22 : decode cX8_halves 22 = .ok (.bipush (-2), 2) := by decide +kernel
theorem dX8_halves_24 : decode cX8_halves 24 = .ok (.invokevirtual 112, 3) := by decide +kernel
theorem dX8_halves_27 : decode cX8_halves 27 = .ok (.ireturn, 1) := by decide +kernel
theorem dX8_halves_28 : decode cX8_halves 28 = .ok (.aload_n 0, 1) := by decide +kernel
theorem dX8_halves_29 : decode cX8_halves 29 = .ok (.iload_n 1, 1) := by decide +kernel
theorem dX8_halves_30 : decode cX8_halves 30 = .ok (.iload_n 2, 1) := by decide +kernel
theorem dX8_halves_31 : decode cX8_halves 31 = .ok (.iload_n 3, 1) := by decide +kernel
theorem dX8_halves_32 : decode cX8_halves 32 = .ok (.iconst 0, 1) := by decide +kernel
theorem dX8_halves_33 : decode cX8_halves 33 = .ok (.invokevirtual 314, 3) := by decide +kernel
theorem dX8_halves_36 : decode cX8_halves 36 = .ok (.iconst 1, 1) := by decide +kernel
theorem dX8_halves_37 : decode cX8_halves 37 = .ok (.iload_n 1, 1) := by decide +kernel
theorem dX8_halves_38 : decode cX8_halves 38 = .ok (.ishl, 1) := by decide +kernel
theorem dX8_halves_39 : decode cX8_halves 39 = .ok (.iconst 1, 1) := by decide +kernel
theorem dX8_halves_40 : decode cX8_halves 40 = .ok (.iload_n 2, 1) := by decide +kernel
theorem dX8_halves_41 : decode cX8_halves 41 = .ok (.ishl, 1) := by decide +kernel
theorem dX8_halves_42 : decode cX8_halves 42 = .ok (.ior, 1) := by decide +kernel
theorem dX8_halves_43 : decode cX8_halves 43 = .ok (.istore 4, 2) := by decide +kernel
theorem dX8_halves_45 : decode cX8_halves 45 = .ok (.iconst (-1), 1) := by decide +kernel
theorem dX8_halves_46 : decode cX8_halves 46 = .ok (.istore 5, 2) := by decide +kernel
theorem dX8_halves_48 : decode cX8_halves 48 = .ok (.iconst 0, 1) := by decide +kernel
theorem dX8_halves_49 : decode cX8_halves 49 = .ok (.istore 6, 2) := by decide +kernel
theorem dX8_halves_51 : decode cX8_halves 51 = .ok (.iload 6, 2) := by decide +kernel
theorem dX8_halves_53 : decode cX8_halves 53 = .ok (.aload_n 0, 1) := by decide +kernel
theorem dX8_halves_54 : decode cX8_halves 54 = .ok (.getfield 288, 3) := by decide +kernel
theorem dX8_halves_57 : decode cX8_halves 57 = .ok (.if_icmp .ge 80, 3) := by decide +kernel
theorem dX8_halves_60 : decode cX8_halves 60 = .ok (.iconst 0, 1) := by decide +kernel
theorem dX8_halves_61 : decode cX8_halves 61 = .ok (.istore 7, 2) := by decide +kernel
theorem dX8_halves_63 : decode cX8_halves 63 = .ok (.iload 7, 2) := by decide +kernel
theorem dX8_halves_65 : decode cX8_halves 65 = .ok (.iload 6, 2) := by decide +kernel
theorem dX8_halves_67 : decode cX8_halves 67 = .ok (.if_icmp .ge 64, 3) := by decide +kernel
theorem dX8_halves_70 : decode cX8_halves 70 = .ok (.aload_n 0, 1) := by decide +kernel
theorem dX8_halves_71 : decode cX8_halves 71 = .ok (.getfield 86, 3) := by decide +kernel
theorem dX8_halves_74 : decode cX8_halves 74 = .ok (.iload 6, 2) := by decide +kernel
theorem dX8_halves_76 : decode cX8_halves 76 = .ok (.iaload, 1) := by decide +kernel
theorem dX8_halves_77 : decode cX8_halves 77 = .ok (.aload_n 0, 1) := by decide +kernel
theorem dX8_halves_78 : decode cX8_halves 78 = .ok (.getfield 86, 3) := by decide +kernel
theorem dX8_halves_81 : decode cX8_halves 81 = .ok (.iload 7, 2) := by decide +kernel
theorem dX8_halves_83 : decode cX8_halves 83 = .ok (.iaload, 1) := by decide +kernel
theorem dX8_halves_84 : decode cX8_halves 84 = .ok (.invokestatic 324, 3) := by decide +kernel
theorem dX8_halves_87 : decode cX8_halves 87 = .ok (.istore 8, 2) := by decide +kernel
theorem dX8_halves_89 : decode cX8_halves 89 = .ok (.aload_n 0, 1) := by decide +kernel
theorem dX8_halves_90 : decode cX8_halves 90 = .ok (.getfield 83, 3) := by decide +kernel
theorem dX8_halves_93 : decode cX8_halves 93 = .ok (.iload 6, 2) := by decide +kernel
theorem dX8_halves_95 : decode cX8_halves 95 = .ok (.iaload, 1) := by decide +kernel
theorem dX8_halves_96 : decode cX8_halves 96 = .ok (.aload_n 0, 1) := by decide +kernel
theorem dX8_halves_97 : decode cX8_halves 97 = .ok (.getfield 83, 3) := by decide +kernel
theorem dX8_halves_100 : decode cX8_halves 100 = .ok (.iload 7, 2) := by decide +kernel
theorem dX8_halves_102 : decode cX8_halves 102 = .ok (.iaload, 1) := by decide +kernel
theorem dX8_halves_103 : decode cX8_halves 103 = .ok (.iand, 1) := by decide +kernel
theorem dX8_halves_104 : decode cX8_halves 104 = .ok (.iload 4, 2) := by decide +kernel
theorem dX8_halves_106 : decode cX8_halves 106 = .ok (.if_icmp .ne 15, 3) := by decide +kernel
theorem dX8_halves_109 : decode cX8_halves 109 = .ok (.iload 8, 2) := by decide +kernel
theorem dX8_halves_111 : decode cX8_halves 111 = .ok (.iload 5, 2) := by decide +kernel
theorem dX8_halves_113 : decode cX8_halves 113 = .ok (.if_icmp .le 8, 3) := by decide +kernel
theorem dX8_halves_116 : decode cX8_halves 116 = .ok (.iload 8, 2) := by decide +kernel
theorem dX8_halves_118 : decode cX8_halves 118 = .ok (.goto 5, 3) := by decide +kernel
theorem dX8_halves_121 : decode cX8_halves 121 = .ok (.iload 5, 2) := by decide +kernel
theorem dX8_halves_123 : decode cX8_halves 123 = .ok (.istore 5, 2) := by decide +kernel
theorem dX8_halves_125 : decode cX8_halves 125 = .ok (.iinc 7 1, 3) := by decide +kernel
theorem dX8_halves_128 : decode cX8_halves 128 = .ok (.goto (-65), 3) := by decide +kernel
theorem dX8_halves_131 : decode cX8_halves 131 = .ok (.iinc 6 1, 3) := by decide +kernel
theorem dX8_halves_134 : decode cX8_halves 134 = .ok (.goto (-83), 3) := by decide +kernel
theorem dX8_halves_137 : decode cX8_halves 137 = .ok (.iload 5, 2) := by decide +kernel
theorem dX8_halves_139 : decode cX8_halves 139 = .ok (.iconst (-1), 1) := by decide +kernel
theorem dX8_halves_140 : decode cX8_halves 140 = .ok (.if_icmp .ne 12, 3) := by decide +kernel
theorem dX8_halves_143 : decode cX8_halves 143 = .ok (.aload_n 0, 1) := by decide +kernel
theorem dX8_halves_144 : decode cX8_halves 144 = .ok (.bipush (-5), 2) := by decide +kernel
theorem dX8_halves_146 : decode cX8_halves 146 = .ok (.invokevirtual 112, 3) := by decide +kernel
theorem dX8_halves_149 : decode cX8_halves 149 = .ok (.goto 5, 3) := by decide +kernel
theorem dX8_halves_152 : decode cX8_halves 152 = .ok (.iload 5, 2) := by decide +kernel
theorem dX8_halves_154 : decode cX8_halves 154 = .ok (.ireturn, 1) := by decide +kernel
theorem dX8_spot_0 : decode cX8_spot 0 = .ok (.iload_n 1, 1) := by decide +kernel
theorem dX8_spot_1 : decode cX8_spot 1 = .ok (.i2l, 1) := by decide +kernel
theorem dX8_spot_2 : decode cX8_spot 2 = .ok (.lconst 0, 1) := by decide +kernel
theorem dX8_spot_3 : decode cX8_spot 3 = .ok (.ldc2_w 123, 3) := by decide +kernel
theorem dX8_spot_6 : decode cX8_spot 6 = .ok (.invokestatic 98, 3) := by decide +kernel
theorem dX8_spot_9 : decode cX8_spot 9 = .ok (.ifCond .eq 25, 3) := by decide +kernel
theorem dX8_spot_12 : decode cX8_spot 12 = .ok (.iload_n 2, 1) := by decide +kernel
theorem dX8_spot_13 : decode cX8_spot 13 = .ok (.i2l, 1) := by decide +kernel
theorem dX8_spot_14 : decode cX8_spot 14 = .ok (.lconst 0, 1) := by decide +kernel
theorem dX8_spot_15 : decode cX8_spot 15 = .ok (.ldc2_w 146, 3) := by decide +kernel
theorem dX8_spot_18 : decode cX8_spot 18 = .ok (.invokestatic 98, 3) := by decide +kernel
theorem dX8_spot_21 : decode cX8_spot 21 = .ok (.ifCond .eq 13, 3) := by decide +kernel
theorem dX8_spot_24 : decode cX8_spot 24 = .ok (.aload_n 0, 1) := by decide +kernel
theorem dX8_spot_25 : decode cX8_spot 25 = .ok (.iload_n 3, 1) := by decide +kernel
theorem dX8_spot_26 : decode cX8_spot 26 = .ok (.iload 4, 2) := by decide +kernel
theorem dX8_spot_28 : decode cX8_spot 28 = .ok (.invokevirtual 155, 3) := by decide +kernel
theorem dX8_spot_31 : decode cX8_spot 31 = .ok (.ifCond .ne 10, 3) := by decide +kernel
theorem dX8_spot_34 : decode cX8_spot 34 = .ok (.aload_n 0, 1) := by decide +kernel
theorem dX8_spot_35 : decode cX8_spot 35 = .ok (.bipush (-2), 2) := by decide +kernel
theorem dX8_spot_37 : decode cX8_spot 37 = .ok (.invokevirtual 112, 3) := by decide +kernel
theorem dX8_spot_40 : decode cX8_spot 40 = .ok (.ireturn, 1) := by decide +kernel
theorem dX8_spot_41 : decode cX8_spot 41 = .ok (.aload_n 0, 1) := by decide +kernel
theorem dX8_spot_42 : decode cX8_spot 42 = .ok (.getfield 95, 3) := by decide +kernel
theorem dX8_spot_45 : decode cX8_spot 45 = .ok (.bipush 12, 2) := by decide +kernel
theorem dX8_spot_47 : decode cX8_spot 47 = .ok (.if_icmp .ne 10, 3) := by decide +kernel
theorem dX8_spot_50 : decode cX8_spot 50 = .ok (.aload_n 0, 1) := by decide +kernel
theorem dX8_spot_51 : decode cX8_spot 51 = .ok (.bipush (-6), 2) := by decide +kernel
theorem dX8_spot_53 : decode cX8_spot 53 = .ok (.invokevirtual 112, 3) := by decide +kernel
theorem dX8_spot_56 : decode cX8_spot 56 = .ok (.ireturn, 1) := by decide +kernel
theorem dX8_spot_57 : decode cX8_spot 57 = .ok (.aload_n 0, 1) := by decide +kernel
theorem dX8_spot_58 : decode cX8_spot 58 = .ok (.getfield 95, 3) := by decide +kernel
theorem dX8_spot_61 : decode cX8_spot 61 = .ok (.iconst 4, 1) := by decide +kernel
theorem dX8_spot_62 : decode cX8_spot 62 = .ok (.aload_n 0, 1) := by decide +kernel
theorem dX8_spot_63 : decode cX8_spot 63 = .ok (.getfield 37, 3) := by decide +kernel
theorem dX8_spot_66 : decode cX8_spot 66 = .ok (.imul, 1) := by decide +kernel
theorem dX8_spot_67 : decode cX8_spot 67 = .ok (.if_icmp .ne 10, 3) := by decide +kernel
theorem dX8_spot_70 : decode cX8_spot 70 = .ok (.aload_n 0, 1) := by decide +kernel
theorem dX8_spot_71 : decode cX8_spot 71 = .ok (.bipush (-5), 2) := by decide +kernel
theorem dX8_spot_73 : decode cX8_spot 73 = .ok (.invokevirtual 112, 3) := by decide +kernel
theorem dX8_spot_76 : decode cX8_spot 76 = .ok (.ireturn, 1) := by decide +kernel
theorem dX8_spot_77 : decode cX8_spot 77 = .ok (.iconst (-1), 1) := by decide +kernel
theorem dX8_spot_78 : decode cX8_spot 78 = .ok (.istore 5, 2) := by decide +kernel
theorem dX8_spot_80 : decode cX8_spot 80 = .ok (.iconst 0, 1) := by decide +kernel
theorem dX8_spot_81 : decode cX8_spot 81 = .ok (.istore 6, 2) := by decide +kernel
theorem dX8_spot_83 : decode cX8_spot 83 = .ok (.iconst 0, 1) := by decide +kernel
theorem dX8_spot_84 : decode cX8_spot 84 = .ok (.istore 7, 2) := by decide +kernel
theorem dX8_spot_86 : decode cX8_spot 86 = .ok (.iload 7, 2) := by decide +kernel
theorem dX8_spot_88 : decode cX8_spot 88 = .ok (.iconst 4, 1) := by decide +kernel
theorem dX8_spot_89 : decode cX8_spot 89 = .ok (.aload_n 0, 1) := by decide +kernel
theorem dX8_spot_90 : decode cX8_spot 90 = .ok (.getfield 37, 3) := by decide +kernel
theorem dX8_spot_93 : decode cX8_spot 93 = .ok (.imul, 1) := by decide +kernel
theorem dX8_spot_94 : decode cX8_spot 94 = .ok (.if_icmp .ge 66, 3) := by decide +kernel
theorem dX8_spot_97 : decode cX8_spot 97 = .ok (.aload_n 0, 1) := by decide +kernel
theorem dX8_spot_98 : decode cX8_spot 98 = .ok (.iload 7, 2) := by decide +kernel
theorem dX8_spot_100 : decode cX8_spot 100 = .ok (.invokevirtual 148, 3) := by decide +kernel
theorem dX8_spot_103 : decode cX8_spot 103 = .ok (.iconst (-1), 1) := by decide +kernel
theorem dX8_spot_104 : decode cX8_spot 104 = .ok (.if_icmp .ne 50, 3) := by decide +kernel
theorem dX8_spot_107 : decode cX8_spot 107 = .ok (.aload_n 0, 1) := by decide +kernel
theorem dX8_spot_108 : decode cX8_spot 108 = .ok (.invokevirtual 256, 3) := by decide +kernel
theorem dX8_spot_111 : decode cX8_spot 111 = .ok (.astore 8, 2) := by decide +kernel
theorem dX8_spot_113 : decode cX8_spot 113 = .ok (.aload 8, 2) := by decide +kernel
theorem dX8_spot_115 : decode cX8_spot 115 = .ok (.iload_n 1, 1) := by decide +kernel
theorem dX8_spot_116 : decode cX8_spot 116 = .ok (.iload 7, 2) := by decide +kernel
theorem dX8_spot_118 : decode cX8_spot 118 = .ok (.iload_n 2, 1) := by decide +kernel
theorem dX8_spot_119 : decode cX8_spot 119 = .ok (.invokevirtual 151, 3) := by decide +kernel
theorem dX8_spot_122 : decode cX8_spot 122 = .ok (.aload 8, 2) := by decide +kernel
theorem dX8_spot_124 : decode cX8_spot 124 = .ok (.iload_n 3, 1) := by decide +kernel
theorem dX8_spot_125 : decode cX8_spot 125 = .ok (.iload 4, 2) := by decide +kernel
theorem dX8_spot_127 : decode cX8_spot 127 = .ok (.iconst 0, 1) := by decide +kernel
theorem dX8_spot_128 : decode cX8_spot 128 = .ok (.invokevirtual 328, 3) := by decide +kernel
theorem dX8_spot_131 : decode cX8_spot 131 = .ok (.istore 9, 2) := by decide +kernel
theorem dX8_spot_133 : decode cX8_spot 133 = .ok (.iload 5, 2) := by decide +kernel
theorem dX8_spot_135 : decode cX8_spot 135 = .ok (.iconst (-1), 1) := by decide +kernel
theorem dX8_spot_136 : decode cX8_spot 136 = .ok (.if_icmp .eq 10, 3) := by decide +kernel
theorem dX8_spot_139 : decode cX8_spot 139 = .ok (.iload 9, 2) := by decide +kernel
theorem dX8_spot_141 : decode cX8_spot 141 = .ok (.iload 6, 2) := by decide +kernel
theorem dX8_spot_143 : decode cX8_spot 143 = .ok (.if_icmp .le 11, 3) := by decide +kernel
theorem dX8_spot_146 : decode cX8_spot 146 = .ok (.iload 7, 2) := by decide +kernel
theorem dX8_spot_148 : decode cX8_spot 148 = .ok (.istore 5, 2) := by decide +kernel
theorem dX8_spot_150 : decode cX8_spot 150 = .ok (.iload 9, 2) := by decide +kernel
theorem dX8_spot_152 : decode cX8_spot 152 = .ok (.istore 6, 2) := by decide +kernel
theorem dX8_spot_154 : decode cX8_spot 154 = .ok (.iinc 7 1, 3) := by decide +kernel
theorem dX8_spot_157 : decode cX8_spot 157 = .ok (.goto (-71), 3) := by decide +kernel
theorem dX8_spot_160 : decode cX8_spot 160 = .ok (.iload 5, 2) := by decide +kernel
theorem dX8_spot_162 : decode cX8_spot 162 = .ok (.ireturn, 1) := by decide +kernel
theorem dX8_chanceNow_0 : decode cX8_chanceNow 0 = .ok (.aload_n 0, 1) := by decide +kernel
theorem dX8_chanceNow_1 : decode cX8_chanceNow 1 = .ok (.iload_n 1, 1) := by decide +kernel
theorem dX8_chanceNow_2 : decode cX8_chanceNow 2 = .ok (.iload_n 2, 1) := by decide +kernel
theorem dX8_chanceNow_3 : decode cX8_chanceNow 3 = .ok (.iload_n 3, 1) := by decide +kernel
theorem dX8_chanceNow_4 : decode cX8_chanceNow 4 = .ok (.iconst 0, 1) := by decide +kernel
theorem dX8_chanceNow_5 : decode cX8_chanceNow 5 = .ok (.invokevirtual 314, 3) := by decide +kernel
theorem dX8_chanceNow_8 : decode cX8_chanceNow 8 = .ok (.aload_n 0, 1) := by decide +kernel
theorem dX8_chanceNow_9 : decode cX8_chanceNow 9 = .ok (.getfield 288, 3) := by decide +kernel
theorem dX8_chanceNow_12 : decode cX8_chanceNow 12 = .ok (.ifCond .ne 7, 3) := by decide +kernel
theorem dX8_chanceNow_15 : decode cX8_chanceNow 15 = .ok (.iconst (-1), 1) := by decide +kernel
theorem dX8_chanceNow_16 : decode cX8_chanceNow 16 = .ok (.goto 7, 3) := by decide +kernel
theorem dX8_chanceNow_19 : decode cX8_chanceNow 19 = .ok (.aload_n 0, 1) := by decide +kernel
theorem dX8_chanceNow_20 : decode cX8_chanceNow 20 = .ok (.getfield 300, 3) := by decide +kernel
theorem dX8_chanceNow_23 : decode cX8_chanceNow 23 = .ok (.ireturn, 1) := by decide +kernel
theorem dX8_crowd_0 : decode cX8_crowd 0 = .ok (.aload_n 0, 1) := by decide +kernel
theorem dX8_crowd_1 : decode cX8_crowd 1 = .ok (.getfield 95, 3) := by decide +kernel
theorem dX8_crowd_4 : decode cX8_crowd 4 = .ok (.ifCond .ne 10, 3) := by decide +kernel
theorem dX8_crowd_7 : decode cX8_crowd 7 = .ok (.aload_n 0, 1) := by decide +kernel
theorem dX8_crowd_8 : decode cX8_crowd 8 = .ok (.bipush (-5), 2) := by decide +kernel
theorem dX8_crowd_10 : decode cX8_crowd 10 = .ok (.invokevirtual 112, 3) := by decide +kernel
theorem dX8_crowd_13 : decode cX8_crowd 13 = .ok (.ireturn, 1) := by decide +kernel
theorem dX8_crowd_14 : decode cX8_crowd 14 = .ok (.iconst 0, 1) := by decide +kernel
theorem dX8_crowd_15 : decode cX8_crowd 15 = .ok (.istore_n 1, 1) := by decide +kernel
theorem dX8_crowd_16 : decode cX8_crowd 16 = .ok (.iconst 1, 1) := by decide +kernel
theorem dX8_crowd_17 : decode cX8_crowd 17 = .ok (.istore_n 2, 1) := by decide +kernel
theorem dX8_crowd_18 : decode cX8_crowd 18 = .ok (.iload_n 2, 1) := by decide +kernel
theorem dX8_crowd_19 : decode cX8_crowd 19 = .ok (.aload_n 0, 1) := by decide +kernel
theorem dX8_crowd_20 : decode cX8_crowd 20 = .ok (.getfield 95, 3) := by decide +kernel
theorem dX8_crowd_23 : decode cX8_crowd 23 = .ok (.if_icmp .ge 34, 3) := by decide +kernel
theorem dX8_crowd_26 : decode cX8_crowd 26 = .ok (.aload_n 0, 1) := by decide +kernel
theorem dX8_crowd_27 : decode cX8_crowd 27 = .ok (.iload_n 2, 1) := by decide +kernel
theorem dX8_crowd_28 : decode cX8_crowd 28 = .ok (.invokevirtual 129, 3) := by decide +kernel
theorem dX8_crowd_31 : decode cX8_crowd 31 = .ok (.invokestatic 132, 3) := by decide +kernel
theorem dX8_crowd_34 : decode cX8_crowd 34 = .ok (.aload_n 0, 1) := by decide +kernel
theorem dX8_crowd_35 : decode cX8_crowd 35 = .ok (.iload_n 1, 1) := by decide +kernel
theorem dX8_crowd_36 : decode cX8_crowd 36 = .ok (.invokevirtual 129, 3) := by decide +kernel
theorem dX8_crowd_39 : decode cX8_crowd 39 = .ok (.invokestatic 132, 3) := by decide +kernel
theorem dX8_crowd_42 : decode cX8_crowd 42 = .ok (.if_icmp .le 7, 3) := by decide +kernel
theorem dX8_crowd_45 : decode cX8_crowd 45 = .ok (.iload_n 2, 1) := by decide +kernel
theorem dX8_crowd_46 : decode cX8_crowd 46 = .ok (.goto 4, 3) := by decide +kernel
theorem dX8_crowd_49 : decode cX8_crowd 49 = .ok (.iload_n 1, 1) := by decide +kernel
theorem dX8_crowd_50 : decode cX8_crowd 50 = .ok (.istore_n 1, 1) := by decide +kernel
theorem dX8_crowd_51 : decode cX8_crowd 51 = .ok (.iinc 2 1, 3) := by decide +kernel
theorem dX8_crowd_54 : decode cX8_crowd 54 = .ok (.goto (-36), 3) := by decide +kernel
theorem dX8_crowd_57 : decode cX8_crowd 57 = .ok (.iload_n 1, 1) := by decide +kernel
theorem dX8_crowd_58 : decode cX8_crowd 58 = .ok (.ireturn, 1) := by decide +kernel
theorem dX8_inRow_0 : decode cX8_inRow 0 = .ok (.iload_n 1, 1) := by decide +kernel
theorem dX8_inRow_1 : decode cX8_inRow 1 = .ok (.i2l, 1) := by decide +kernel
theorem dX8_inRow_2 : decode cX8_inRow 2 = .ok (.lconst 0, 1) := by decide +kernel
theorem dX8_inRow_3 : decode cX8_inRow 3 = .ok (.aload_n 0, 1) := by decide +kernel
theorem dX8_inRow_4 : decode cX8_inRow 4 = .ok (.getfield 37, 3) := by decide +kernel
theorem dX8_inRow_7 : decode cX8_inRow 7 = .ok (.iconst 1, 1) := by decide +kernel
theorem dX8_inRow_8 : decode cX8_inRow 8 = .ok (.isub, 1) := by decide +kernel
theorem dX8_inRow_9 : decode cX8_inRow 9 = .ok (.i2l, 1) := by decide +kernel
theorem dX8_inRow_10 : decode cX8_inRow 10 = .ok (.invokestatic 98, 3) := by decide +kernel
theorem dX8_inRow_13 : decode cX8_inRow 13 = .ok (.ifCond .ne 10, 3) := by decide +kernel
theorem dX8_inRow_16 : decode cX8_inRow 16 = .ok (.aload_n 0, 1) := by decide +kernel
theorem dX8_inRow_17 : decode cX8_inRow 17 = .ok (.bipush (-2), 2) := by decide +kernel
theorem dX8_inRow_19 : decode cX8_inRow 19 = .ok (.invokevirtual 112, 3) := by decide +kernel
theorem dX8_inRow_22 : decode cX8_inRow 22 = .ok (.ireturn, 1) := by decide +kernel
theorem dX8_inRow_23 : decode cX8_inRow 23 = .ok (.iconst 0, 1) := by decide +kernel
theorem dX8_inRow_24 : decode cX8_inRow 24 = .ok (.istore_n 2, 1) := by decide +kernel
theorem dX8_inRow_25 : decode cX8_inRow 25 = .ok (.iconst 0, 1) := by decide +kernel
theorem dX8_inRow_26 : decode cX8_inRow 26 = .ok (.istore_n 3, 1) := by decide +kernel
theorem dX8_inRow_27 : decode cX8_inRow 27 = .ok (.iload_n 3, 1) := by decide +kernel
theorem dX8_inRow_28 : decode cX8_inRow 28 = .ok (.aload_n 0, 1) := by decide +kernel
theorem dX8_inRow_29 : decode cX8_inRow 29 = .ok (.getfield 95, 3) := by decide +kernel
theorem dX8_inRow_32 : decode cX8_inRow 32 = .ok (.if_icmp .ge 31, 3) := by decide +kernel
theorem dX8_inRow_35 : decode cX8_inRow 35 = .ok (.iload_n 2, 1) := by decide +kernel
theorem dX8_inRow_36 : decode cX8_inRow 36 = .ok (.aload_n 0, 1) := by decide +kernel
theorem dX8_inRow_37 : decode cX8_inRow 37 = .ok (.getfield 44, 3) := by decide +kernel
theorem dX8_inRow_40 : decode cX8_inRow 40 = .ok (.iload_n 3, 1) := by decide +kernel
theorem dX8_inRow_41 : decode cX8_inRow 41 = .ok (.iaload, 1) := by decide +kernel
theorem dX8_inRow_42 : decode cX8_inRow 42 = .ok (.iconst 4, 1) := by decide +kernel
theorem dX8_inRow_43 : decode cX8_inRow 43 = .ok (.idiv, 1) := by decide +kernel
theorem dX8_inRow_44 : decode cX8_inRow 44 = .ok (.iload_n 1, 1) := by decide +kernel
theorem dX8_inRow_45 : decode cX8_inRow 45 = .ok (.if_icmp .ne 9, 3) := by decide +kernel
theorem dX8_inRow_48 : decode cX8_inRow 48 = .ok (.iconst 1, 1) := by decide +kernel
theorem dX8_inRow_49 : decode cX8_inRow 49 = .ok (.iload_n 3, 1) := by decide +kernel
theorem dX8_inRow_50 : decode cX8_inRow 50 = .ok (.ishl, 1) := by decide +kernel
theorem dX8_inRow_51 : decode cX8_inRow 51 = .ok (.goto 4, 3) := by decide +kernel
theorem dX8_inRow_54 : decode cX8_inRow 54 = .ok (.iconst 0, 1) := by decide +kernel
theorem dX8_inRow_55 : decode cX8_inRow 55 = .ok (.ior, 1) := by decide +kernel
theorem dX8_inRow_56 : decode cX8_inRow 56 = .ok (.istore_n 2, 1) := by decide +kernel
theorem dX8_inRow_57 : decode cX8_inRow 57 = .ok (.iinc 3 1, 3) := by decide +kernel
theorem dX8_inRow_60 : decode cX8_inRow 60 = .ok (.goto (-33), 3) := by decide +kernel
theorem dX8_inRow_63 : decode cX8_inRow 63 = .ok (.iload_n 2, 1) := by decide +kernel
theorem dX8_inRow_64 : decode cX8_inRow 64 = .ok (.ireturn, 1) := by decide +kernel
theorem dX8_edges_0 : decode cX8_edges 0 = .ok (.iconst 0, 1) := by decide +kernel
theorem dX8_edges_1 : decode cX8_edges 1 = .ok (.istore_n 1, 1) := by decide +kernel
theorem dX8_edges_2 : decode cX8_edges 2 = .ok (.iconst 0, 1) := by decide +kernel
theorem dX8_edges_3 : decode cX8_edges 3 = .ok (.istore_n 2, 1) := by decide +kernel
theorem dX8_edges_4 : decode cX8_edges 4 = .ok (.iload_n 2, 1) := by decide +kernel
theorem dX8_edges_5 : decode cX8_edges 5 = .ok (.aload_n 0, 1) := by decide +kernel
theorem dX8_edges_6 : decode cX8_edges 6 = .ok (.getfield 95, 3) := by decide +kernel
theorem dX8_edges_9 : decode cX8_edges 9 = .ok (.if_icmp .ge 20, 3) := by decide +kernel
theorem dX8_edges_12 : decode cX8_edges 12 = .ok (.iload_n 1, 1) := by decide +kernel
theorem dX8_edges_13 : decode cX8_edges 13 = .ok (.aload_n 0, 1) := by decide +kernel
theorem dX8_edges_14 : decode cX8_edges 14 = .ok (.iload_n 2, 1) := by decide +kernel
theorem dX8_edges_15 : decode cX8_edges 15 = .ok (.invokevirtual 129, 3) := by decide +kernel
theorem dX8_edges_18 : decode cX8_edges 18 = .ok (.invokestatic 132, 3) := by decide +kernel
theorem dX8_edges_21 : decode cX8_edges 21 = .ok (.iadd, 1) := by decide +kernel
theorem dX8_edges_22 : decode cX8_edges 22 = .ok (.istore_n 1, 1) := by decide +kernel
theorem dX8_edges_23 : decode cX8_edges 23 = .ok (.iinc 2 1, 3) := by decide +kernel
theorem dX8_edges_26 : decode cX8_edges 26 = .ok (.goto (-22), 3) := by decide +kernel
theorem dX8_edges_29 : decode cX8_edges 29 = .ok (.iload_n 1, 1) := by decide +kernel
theorem dX8_edges_30 : decode cX8_edges 30 = .ok (.iconst 2, 1) := by decide +kernel
theorem dX8_edges_31 : decode cX8_edges 31 = .ok (.idiv, 1) := by decide +kernel
theorem dX8_edges_32 : decode cX8_edges 32 = .ok (.ireturn, 1) := by decide +kernel
theorem dX8_lonely_0 : decode cX8_lonely 0 = .ok (.iconst 0, 1) := by decide +kernel
theorem dX8_lonely_1 : decode cX8_lonely 1 = .ok (.istore_n 1, 1) := by decide +kernel
theorem dX8_lonely_2 : decode cX8_lonely 2 = .ok (.iconst 0, 1) := by decide +kernel
theorem dX8_lonely_3 : decode cX8_lonely 3 = .ok (.istore_n 2, 1) := by decide +kernel
theorem dX8_lonely_4 : decode cX8_lonely 4 = .ok (.iload_n 2, 1) := by decide +kernel
theorem dX8_lonely_5 : decode cX8_lonely 5 = .ok (.aload_n 0, 1) := by decide +kernel
theorem dX8_lonely_6 : decode cX8_lonely 6 = .ok (.getfield 95, 3) := by decide +kernel
theorem dX8_lonely_9 : decode cX8_lonely 9 = .ok (.if_icmp .ge 27, 3) := by decide +kernel
theorem dX8_lonely_12 : decode cX8_lonely 12 = .ok (.iload_n 1, 1) := by decide +kernel
theorem dX8_lonely_13 : decode cX8_lonely 13 = .ok (.aload_n 0, 1) := by decide +kernel
theorem dX8_lonely_14 : decode cX8_lonely 14 = .ok (.iload_n 2, 1) := by decide +kernel
theorem dX8_lonely_15 : decode cX8_lonely 15 = .ok (.invokevirtual 129, 3) := by decide +kernel
theorem dX8_lonely_18 : decode cX8_lonely 18 = .ok (.ifCond .ne 9, 3) := by decide +kernel
theorem dX8_lonely_21 : decode cX8_lonely 21 = .ok (.iconst 1, 1) := by decide +kernel
theorem dX8_lonely_22 : decode cX8_lonely 22 = .ok (.iload_n 2, 1) := by decide +kernel
theorem dX8_lonely_23 : decode cX8_lonely 23 = .ok (.ishl, 1) := by decide +kernel
theorem dX8_lonely_24 : decode cX8_lonely 24 = .ok (.goto 4, 3) := by decide +kernel
theorem dX8_lonely_27 : decode cX8_lonely 27 = .ok (.iconst 0, 1) := by decide +kernel
theorem dX8_lonely_28 : decode cX8_lonely 28 = .ok (.ior, 1) := by decide +kernel
theorem dX8_lonely_29 : decode cX8_lonely 29 = .ok (.istore_n 1, 1) := by decide +kernel
theorem dX8_lonely_30 : decode cX8_lonely 30 = .ok (.iinc 2 1, 3) := by decide +kernel
theorem dX8_lonely_33 : decode cX8_lonely 33 = .ok (.goto (-29), 3) := by decide +kernel
theorem dX8_lonely_36 : decode cX8_lonely 36 = .ok (.iload_n 1, 1) := by decide +kernel
theorem dX8_lonely_37 : decode cX8_lonely 37 = .ok (.ireturn, 1) := by decide +kernel
theorem dX8_when_0 : decode cX8_when 0 = .ok (.aload_n 0, 1) := by decide +kernel
theorem dX8_when_1 : decode cX8_when 1 = .ok (.iload_n 1, 1) := by decide +kernel
theorem dX8_when_2 : decode cX8_when 2 = .ok (.iload_n 2, 1) := by decide +kernel
theorem dX8_when_3 : decode cX8_when 3 = .ok (.invokevirtual 155, 3) := by decide +kernel
theorem dX8_when_6 : decode cX8_when 6 = .ok (.ifCond .ne 10, 3) := by decide +kernel
theorem dX8_when_9 : decode cX8_when 9 = .ok (.aload_n 0, 1) := by decide +kernel
theorem dX8_when_10 : decode cX8_when 10 = .ok (.bipush (-2), 2) := by decide +kernel
theorem dX8_when_12 : decode cX8_when 12 = .ok (.invokevirtual 112, 3) := by decide +kernel
theorem dX8_when_15 : decode cX8_when 15 = .ok (.ireturn, 1) := by decide +kernel
theorem dX8_when_16 : decode cX8_when 16 = .ok (.iconst (-1), 1) := by decide +kernel
theorem dX8_when_17 : decode cX8_when 17 = .ok (.istore_n 3, 1) := by decide +kernel
theorem dX8_when_18 : decode cX8_when 18 = .ok (.iconst (-1), 1) := by decide +kernel
theorem dX8_when_19 : decode cX8_when 19 = .ok (.istore 4, 2) := by decide +kernel
theorem dX8_when_21 : decode cX8_when 21 = .ok (.iconst 0, 1) := by decide +kernel
theorem dX8_when_22 : decode cX8_when 22 = .ok (.istore 5, 2) := by decide +kernel
theorem dX8_when_24 : decode cX8_when 24 = .ok (.iload 5, 2) := by decide +kernel
theorem dX8_when_26 : decode cX8_when 26 = .ok (.aload_n 0, 1) := by decide +kernel
theorem dX8_when_27 : decode cX8_when 27 = .ok (.getfield 53, 3) := by decide +kernel
theorem dX8_when_30 : decode cX8_when 30 = .ok (.if_icmp .ge 33, 3) := by decide +kernel
theorem dX8_when_33 : decode cX8_when 33 = .ok (.aload_n 0, 1) := by decide +kernel
theorem dX8_when_34 : decode cX8_when 34 = .ok (.iload_n 1, 1) := by decide +kernel
theorem dX8_when_35 : decode cX8_when 35 = .ok (.iload_n 2, 1) := by decide +kernel
theorem dX8_when_36 : decode cX8_when 36 = .ok (.iload 5, 2) := by decide +kernel
theorem dX8_when_38 : decode cX8_when 38 = .ok (.invokevirtual 328, 3) := by decide +kernel
theorem dX8_when_41 : decode cX8_when 41 = .ok (.istore 6, 2) := by decide +kernel
theorem dX8_when_43 : decode cX8_when 43 = .ok (.iload 6, 2) := by decide +kernel
theorem dX8_when_45 : decode cX8_when 45 = .ok (.iload 4, 2) := by decide +kernel
theorem dX8_when_47 : decode cX8_when 47 = .ok (.if_icmp .le 10, 3) := by decide +kernel
theorem dX8_when_50 : decode cX8_when 50 = .ok (.iload 5, 2) := by decide +kernel
theorem dX8_when_52 : decode cX8_when 52 = .ok (.istore_n 3, 1) := by decide +kernel
theorem dX8_when_53 : decode cX8_when 53 = .ok (.iload 6, 2) := by decide +kernel
theorem dX8_when_55 : decode cX8_when 55 = .ok (.istore 4, 2) := by decide +kernel
theorem dX8_when_57 : decode cX8_when 57 = .ok (.iinc 5 1, 3) := by decide +kernel
theorem dX8_when_60 : decode cX8_when 60 = .ok (.goto (-36), 3) := by decide +kernel
theorem dX8_when_63 : decode cX8_when 63 = .ok (.iload_n 3, 1) := by decide +kernel
theorem dX8_when_64 : decode cX8_when 64 = .ok (.iconst (-1), 1) := by decide +kernel
theorem dX8_when_65 : decode cX8_when 65 = .ok (.if_icmp .ne 12, 3) := by decide +kernel
theorem dX8_when_68 : decode cX8_when 68 = .ok (.aload_n 0, 1) := by decide +kernel
theorem dX8_when_69 : decode cX8_when 69 = .ok (.bipush (-5), 2) := by decide +kernel
theorem dX8_when_71 : decode cX8_when 71 = .ok (.invokevirtual 112, 3) := by decide +kernel
theorem dX8_when_74 : decode cX8_when 74 = .ok (.goto 4, 3) := by decide +kernel
theorem dX8_when_77 : decode cX8_when 77 = .ok (.iload_n 3, 1) := by decide +kernel
theorem dX8_when_78 : decode cX8_when 78 = .ok (.ireturn, 1) := by decide +kernel
theorem dX8_answer_0 : decode cX8_answer 0 = .ok (.aload_n 0, 1) := by decide +kernel
theorem dX8_answer_1 : decode cX8_answer 1 = .ok (.iload_n 1, 1) := by decide +kernel
theorem dX8_answer_2 : decode cX8_answer 2 = .ok (.iload_n 2, 1) := by decide +kernel
theorem dX8_answer_3 : decode cX8_answer 3 = .ok (.invokevirtual 155, 3) := by decide +kernel
theorem dX8_answer_6 : decode cX8_answer 6 = .ok (.ifCond .eq 15, 3) := by decide +kernel
theorem dX8_answer_9 : decode cX8_answer 9 = .ok (.iload_n 3, 1) := by decide +kernel
theorem dX8_answer_10 : decode cX8_answer 10 = .ok (.i2l, 1) := by decide +kernel
theorem dX8_answer_11 : decode cX8_answer 11 = .ok (.lconst 0, 1) := by decide +kernel
theorem dX8_answer_12 : decode cX8_answer 12 = .ok (.ldc2_w 269, 3) := by decide +kernel
theorem dX8_answer_15 : decode cX8_answer 15 = .ok (.invokestatic 98, 3) := by decide +kernel
theorem dX8_answer_18 : decode cX8_answer 18 = .ok (.ifCond .ne 10, 3) := by decide +kernel
theorem dX8_answer_21 : decode cX8_answer 21 = .ok (.aload_n 0, 1) := by decide +kernel
theorem dX8_answer_22 : decode cX8_answer 22 = .ok (.bipush (-2), 2) := by decide +kernel
theorem dX8_answer_24 : decode cX8_answer 24 = .ok (.invokevirtual 112, 3) := by decide +kernel
theorem dX8_answer_27 : decode cX8_answer 27 = .ok (.ireturn, 1) := by decide +kernel
theorem dX8_answer_28 : decode cX8_answer 28 = .ok (.aload_n 0, 1) := by decide +kernel
theorem dX8_answer_29 : decode cX8_answer 29 = .ok (.iload_n 1, 1) := by decide +kernel
theorem dX8_answer_30 : decode cX8_answer 30 = .ok (.iload_n 2, 1) := by decide +kernel
theorem dX8_answer_31 : decode cX8_answer 31 = .ok (.iload_n 3, 1) := by decide +kernel
theorem dX8_answer_32 : decode cX8_answer 32 = .ok (.invokevirtual 328, 3) := by decide +kernel
theorem dX8_answer_35 : decode cX8_answer 35 = .ok (.istore 4, 2) := by decide +kernel
theorem dX8_answer_37 : decode cX8_answer 37 = .ok (.iload 4, 2) := by decide +kernel
theorem dX8_answer_39 : decode cX8_answer 39 = .ok (.iconst (-1), 1) := by decide +kernel
theorem dX8_answer_40 : decode cX8_answer 40 = .ok (.if_icmp .ne 10, 3) := by decide +kernel
theorem dX8_answer_43 : decode cX8_answer 43 = .ok (.aload_n 0, 1) := by decide +kernel
theorem dX8_answer_44 : decode cX8_answer 44 = .ok (.bipush (-5), 2) := by decide +kernel
theorem dX8_answer_46 : decode cX8_answer 46 = .ok (.invokevirtual 112, 3) := by decide +kernel
theorem dX8_answer_49 : decode cX8_answer 49 = .ok (.ireturn, 1) := by decide +kernel
theorem dX8_answer_50 : decode cX8_answer 50 = .ok (.iload 4, 2) := by decide +kernel
theorem dX8_answer_52 : decode cX8_answer 52 = .ok (.aload_n 0, 1) := by decide +kernel
theorem dX8_answer_53 : decode cX8_answer 53 = .ok (.iload_n 2, 1) := by decide +kernel
theorem dX8_answer_54 : decode cX8_answer 54 = .ok (.iload_n 1, 1) := by decide +kernel
theorem dX8_answer_55 : decode cX8_answer 55 = .ok (.aload_n 0, 1) := by decide +kernel
theorem dX8_answer_56 : decode cX8_answer 56 = .ok (.getfield 306, 3) := by decide +kernel
theorem dX8_answer_59 : decode cX8_answer 59 = .ok (.invokevirtual 328, 3) := by decide +kernel
theorem dX8_answer_62 : decode cX8_answer 62 = .ok (.invokestatic 324, 3) := by decide +kernel
theorem dX8_answer_65 : decode cX8_answer 65 = .ok (.ireturn, 1) := by decide +kernel
theorem dX8_must_0 : decode cX8_must 0 = .ok (.aload_n 0, 1) := by decide +kernel
theorem dX8_must_1 : decode cX8_must 1 = .ok (.iload_n 1, 1) := by decide +kernel
theorem dX8_must_2 : decode cX8_must 2 = .ok (.iload_n 2, 1) := by decide +kernel
theorem dX8_must_3 : decode cX8_must 3 = .ok (.invokevirtual 155, 3) := by decide +kernel
theorem dX8_must_6 : decode cX8_must 6 = .ok (.ifCond .ne 10, 3) := by decide +kernel
theorem dX8_must_9 : decode cX8_must 9 = .ok (.aload_n 0, 1) := by decide +kernel
theorem dX8_must_10 : decode cX8_must 10 = .ok (.bipush (-2), 2) := by decide +kernel
theorem dX8_must_12 : decode cX8_must 12 = .ok (.invokevirtual 112, 3) := by decide +kernel
theorem dX8_must_15 : decode cX8_must 15 = .ok (.ireturn, 1) := by decide +kernel
theorem dX8_must_16 : decode cX8_must 16 = .ok (.aload_n 0, 1) := by decide +kernel
theorem dX8_must_17 : decode cX8_must 17 = .ok (.iload_n 1, 1) := by decide +kernel
theorem dX8_must_18 : decode cX8_must 18 = .ok (.iload_n 2, 1) := by decide +kernel
theorem dX8_must_19 : decode cX8_must 19 = .ok (.iconst 0, 1) := by decide +kernel
theorem dX8_must_20 : decode cX8_must 20 = .ok (.iconst 0, 1) := by decide +kernel
theorem dX8_must_21 : decode cX8_must 21 = .ok (.invokevirtual 314, 3) := by decide +kernel
theorem dX8_must_24 : decode cX8_must 24 = .ok (.aload_n 0, 1) := by decide +kernel
theorem dX8_must_25 : decode cX8_must 25 = .ok (.getfield 288, 3) := by decide +kernel
theorem dX8_must_28 : decode cX8_must 28 = .ok (.ifCond .ne 12, 3) := by decide +kernel
theorem dX8_must_31 : decode cX8_must 31 = .ok (.aload_n 0, 1) := by decide +kernel
theorem dX8_must_32 : decode cX8_must 32 = .ok (.bipush (-5), 2) := by decide +kernel
theorem dX8_must_34 : decode cX8_must 34 = .ok (.invokevirtual 112, 3) := by decide +kernel
theorem dX8_must_37 : decode cX8_must 37 = .ok (.goto 17, 3) := by decide +kernel
theorem dX8_must_40 : decode cX8_must 40 = .ok (.aload_n 0, 1) := by decide +kernel
theorem dX8_must_41 : decode cX8_must 41 = .ok (.getfield 291, 3) := by decide +kernel
theorem dX8_must_44 : decode cX8_must 44 = .ok (.iconst 1, 1) := by decide +kernel
theorem dX8_must_45 : decode cX8_must 45 = .ok (.iload_n 1, 1) := by decide +kernel
theorem dX8_must_46 : decode cX8_must 46 = .ok (.ishl, 1) := by decide +kernel
theorem dX8_must_47 : decode cX8_must 47 = .ok (.iconst 1, 1) := by decide +kernel
theorem dX8_must_48 : decode cX8_must 48 = .ok (.iload_n 2, 1) := by decide +kernel
theorem dX8_must_49 : decode cX8_must 49 = .ok (.ishl, 1) := by decide +kernel
theorem dX8_must_50 : decode cX8_must 50 = .ok (.ior, 1) := by decide +kernel
theorem dX8_must_51 : decode cX8_must 51 = .ok (.iconst (-1), 1) := by decide +kernel
theorem dX8_must_52 : decode cX8_must 52 = .ok (.ixor, 1) := by decide +kernel
theorem dX8_must_53 : decode cX8_must 53 = .ok (.iand, 1) := by decide +kernel
theorem dX8_must_54 : decode cX8_must 54 = .ok (.ireturn, 1) := by decide +kernel
theorem dX8_comesTo_0 : decode cX8_comesTo 0 = .ok (.iconst 1, 1) := by decide +kernel
theorem dX8_comesTo_1 : decode cX8_comesTo 1 = .ok (.iload_n 1, 1) := by decide +kernel
theorem dX8_comesTo_2 : decode cX8_comesTo 2 = .ok (.ishl, 1) := by decide +kernel
theorem dX8_comesTo_3 : decode cX8_comesTo 3 = .ok (.istore 4, 2) := by decide +kernel
theorem dX8_comesTo_5 : decode cX8_comesTo 5 = .ok (.iconst 1, 1) := by decide +kernel
theorem dX8_comesTo_6 : decode cX8_comesTo 6 = .ok (.istore 5, 2) := by decide +kernel
theorem dX8_comesTo_8 : decode cX8_comesTo 8 = .ok (.iload 5, 2) := by decide +kernel
theorem dX8_comesTo_10 : decode cX8_comesTo 10 = .ok (.ifCond .eq 98, 3) := by decide +kernel
theorem dX8_comesTo_13 : decode cX8_comesTo 13 = .ok (.iload 4, 2) := by decide +kernel
theorem dX8_comesTo_15 : decode cX8_comesTo 15 = .ok (.istore 6, 2) := by decide +kernel
theorem dX8_comesTo_17 : decode cX8_comesTo 17 = .ok (.iconst 0, 1) := by decide +kernel
theorem dX8_comesTo_18 : decode cX8_comesTo 18 = .ok (.istore 7, 2) := by decide +kernel
theorem dX8_comesTo_20 : decode cX8_comesTo 20 = .ok (.iload 7, 2) := by decide +kernel
theorem dX8_comesTo_22 : decode cX8_comesTo 22 = .ok (.aload_n 0, 1) := by decide +kernel
theorem dX8_comesTo_23 : decode cX8_comesTo 23 = .ok (.getfield 95, 3) := by decide +kernel
theorem dX8_comesTo_26 : decode cX8_comesTo 26 = .ok (.if_icmp .ge 65, 3) := by decide +kernel
theorem dX8_comesTo_29 : decode cX8_comesTo 29 = .ok (.iload 4, 2) := by decide +kernel
theorem dX8_comesTo_31 : decode cX8_comesTo 31 = .ok (.iload 7, 2) := by decide +kernel
theorem dX8_comesTo_33 : decode cX8_comesTo 33 = .ok (.invokestatic 159, 3) := by decide +kernel
theorem dX8_comesTo_36 : decode cX8_comesTo 36 = .ok (.ifCond .eq 22, 3) := by decide +kernel
theorem dX8_comesTo_39 : decode cX8_comesTo 39 = .ok (.iload 7, 2) := by decide +kernel
theorem dX8_comesTo_41 : decode cX8_comesTo 41 = .ok (.iload_n 1, 1) := by decide +kernel
theorem dX8_comesTo_42 : decode cX8_comesTo 42 = .ok (.if_icmp .eq 12, 3) := by decide +kernel
theorem dX8_comesTo_45 : decode cX8_comesTo 45 = .ok (.iload_n 2, 1) := by decide +kernel
theorem dX8_comesTo_46 : decode cX8_comesTo 46 = .ok (.iload 7, 2) := by decide +kernel
theorem dX8_comesTo_48 : decode cX8_comesTo 48 = .ok (.invokestatic 159, 3) := by decide +kernel
theorem dX8_comesTo_51 : decode cX8_comesTo 51 = .ok (.ifCond .eq 7, 3) := by decide +kernel
theorem dX8_comesTo_54 : decode cX8_comesTo 54 = .ok (.iconst 1, 1) := by decide +kernel
theorem dX8_comesTo_55 : decode cX8_comesTo 55 = .ok (.goto 4, 3) := by decide +kernel
theorem dX8_comesTo_58 : decode cX8_comesTo 58 = .ok (.iconst 0, 1) := by decide +kernel
theorem dX8_comesTo_59 : decode cX8_comesTo 59 = .ok (.istore 8, 2) := by decide +kernel
theorem dX8_comesTo_61 : decode cX8_comesTo 61 = .ok (.iload 4, 2) := by decide +kernel
theorem dX8_comesTo_63 : decode cX8_comesTo 63 = .ok (.iload 8, 2) := by decide +kernel
theorem dX8_comesTo_65 : decode cX8_comesTo 65 = .ok (.ifCond .eq 16, 3) := by decide +kernel
theorem dX8_comesTo_68 : decode cX8_comesTo 68 = .ok (.aload_n 0, 1) := by decide +kernel
theorem dX8_comesTo_69 : decode cX8_comesTo 69 = .ok (.iload 7, 2) := by decide +kernel
theorem dX8_comesTo_71 : decode cX8_comesTo 71 = .ok (.invokevirtual 129, 3) := by decide +kernel
theorem dX8_comesTo_74 : decode cX8_comesTo 74 = .ok (.iload_n 3, 1) := by decide +kernel
theorem dX8_comesTo_75 : decode cX8_comesTo 75 = .ok (.iconst (-1), 1) := by decide +kernel
theorem dX8_comesTo_76 : decode cX8_comesTo 76 = .ok (.ixor, 1) := by decide +kernel
theorem dX8_comesTo_77 : decode cX8_comesTo 77 = .ok (.iand, 1) := by decide +kernel
theorem dX8_comesTo_78 : decode cX8_comesTo 78 = .ok (.goto 4, 3) := by decide +kernel
theorem dX8_comesTo_81 : decode cX8_comesTo 81 = .ok (.iconst 0, 1) := by decide +kernel
theorem dX8_comesTo_82 : decode cX8_comesTo 82 = .ok (.ior, 1) := by decide +kernel
theorem dX8_comesTo_83 : decode cX8_comesTo 83 = .ok (.istore 4, 2) := by decide +kernel
theorem dX8_comesTo_85 : decode cX8_comesTo 85 = .ok (.iinc 7 1, 3) := by decide +kernel
theorem dX8_comesTo_88 : decode cX8_comesTo 88 = .ok (.goto (-68), 3) := by decide +kernel
theorem dX8_comesTo_91 : decode cX8_comesTo 91 = .ok (.iload 4, 2) := by decide +kernel
theorem dX8_comesTo_93 : decode cX8_comesTo 93 = .ok (.iload 6, 2) := by decide +kernel
theorem dX8_comesTo_95 : decode cX8_comesTo 95 = .ok (.if_icmp .eq 7, 3) := by decide +kernel
theorem dX8_comesTo_98 : decode cX8_comesTo 98 = .ok (.iconst 1, 1) := by decide +kernel
theorem dX8_comesTo_99 : decode cX8_comesTo 99 = .ok (.goto 4, 3) := by decide +kernel
theorem dX8_comesTo_102 : decode cX8_comesTo 102 = .ok (.iconst 0, 1) := by decide +kernel
theorem dX8_comesTo_103 : decode cX8_comesTo 103 = .ok (.istore 5, 2) := by decide +kernel
theorem dX8_comesTo_105 : decode cX8_comesTo 105 = .ok (.goto (-97), 3) := by decide +kernel
theorem dX8_comesTo_108 : decode cX8_comesTo 108 = .ok (.iload 4, 2) := by decide +kernel
theorem dX8_comesTo_110 : decode cX8_comesTo 110 = .ok (.ireturn, 1) := by decide +kernel
theorem dX8_cut_0 : decode cX8_cut 0 = .ok (.aload_n 0, 1) := by decide +kernel
theorem dX8_cut_1 : decode cX8_cut 1 = .ok (.iload_n 1, 1) := by decide +kernel
theorem dX8_cut_2 : decode cX8_cut 2 = .ok (.iload_n 2, 1) := by decide +kernel
theorem dX8_cut_3 : decode cX8_cut 3 = .ok (.invokevirtual 155, 3) := by decide +kernel
theorem dX8_cut_6 : decode cX8_cut 6 = .ok (.ifCond .ne 10, 3) := by decide +kernel
theorem dX8_cut_9 : decode cX8_cut 9 = .ok (.aload_n 0, 1) := by decide +kernel
theorem dX8_cut_10 : decode cX8_cut 10 = .ok (.bipush (-2), 2) := by decide +kernel
theorem dX8_cut_12 : decode cX8_cut 12 = .ok (.invokevirtual 112, 3) := by decide +kernel
theorem dX8_cut_15 : decode cX8_cut 15 = .ok (.ireturn, 1) := by decide +kernel
theorem dX8_cut_16 : decode cX8_cut 16 = .ok (.aload_n 0, 1) := by decide +kernel
theorem dX8_cut_17 : decode cX8_cut 17 = .ok (.iload_n 1, 1) := by decide +kernel
theorem dX8_cut_18 : decode cX8_cut 18 = .ok (.iload_n 2, 1) := by decide +kernel
theorem dX8_cut_19 : decode cX8_cut 19 = .ok (.invokevirtual 263, 3) := by decide +kernel
theorem dX8_cut_22 : decode cX8_cut 22 = .ok (.ifCond .eq 5, 3) := by decide +kernel
theorem dX8_cut_25 : decode cX8_cut 25 = .ok (.iconst (-1), 1) := by decide +kernel
theorem dX8_cut_26 : decode cX8_cut 26 = .ok (.ireturn, 1) := by decide +kernel
theorem dX8_cut_27 : decode cX8_cut 27 = .ok (.aload_n 0, 1) := by decide +kernel
theorem dX8_cut_28 : decode cX8_cut 28 = .ok (.getfield 95, 3) := by decide +kernel
theorem dX8_cut_31 : decode cX8_cut 31 = .ok (.istore_n 3, 1) := by decide +kernel
theorem dX8_cut_32 : decode cX8_cut 32 = .ok (.iconst 0, 1) := by decide +kernel
theorem dX8_cut_33 : decode cX8_cut 33 = .ok (.istore 4, 2) := by decide +kernel
theorem dX8_cut_35 : decode cX8_cut 35 = .ok (.iload 4, 2) := by decide +kernel
theorem dX8_cut_37 : decode cX8_cut 37 = .ok (.iconst 1, 1) := by decide +kernel
theorem dX8_cut_38 : decode cX8_cut 38 = .ok (.aload_n 0, 1) := by decide +kernel
theorem dX8_cut_39 : decode cX8_cut 39 = .ok (.getfield 95, 3) := by decide +kernel
theorem dX8_cut_42 : decode cX8_cut 42 = .ok (.ishl, 1) := by decide +kernel
theorem dX8_cut_43 : decode cX8_cut 43 = .ok (.if_icmp .ge 73, 3) := by decide +kernel
theorem dX8_cut_46 : decode cX8_cut 46 = .ok (.iload 4, 2) := by decide +kernel
theorem dX8_cut_48 : decode cX8_cut 48 = .ok (.iload_n 1, 1) := by decide +kernel
theorem dX8_cut_49 : decode cX8_cut 49 = .ok (.invokestatic 159, 3) := by decide +kernel
theorem dX8_cut_52 : decode cX8_cut 52 = .ok (.ifCond .ne 25, 3) := by decide +kernel
theorem dX8_cut_55 : decode cX8_cut 55 = .ok (.iload 4, 2) := by decide +kernel
theorem dX8_cut_57 : decode cX8_cut 57 = .ok (.iload_n 2, 1) := by decide +kernel
theorem dX8_cut_58 : decode cX8_cut 58 = .ok (.invokestatic 159, 3) := by decide +kernel
theorem dX8_cut_61 : decode cX8_cut 61 = .ok (.ifCond .ne 16, 3) := by decide +kernel
theorem dX8_cut_64 : decode cX8_cut 64 = .ok (.iload 4, 2) := by decide +kernel
theorem dX8_cut_66 : decode cX8_cut 66 = .ok (.invokestatic 132, 3) := by decide +kernel
theorem dX8_cut_69 : decode cX8_cut 69 = .ok (.iload_n 3, 1) := by decide +kernel
theorem dX8_cut_70 : decode cX8_cut 70 = .ok (.if_icmp .ge 7, 3) := by decide +kernel
theorem dX8_cut_73 : decode cX8_cut 73 = .ok (.iconst 1, 1) := by decide +kernel
theorem dX8_cut_74 : decode cX8_cut 74 = .ok (.goto 4, 3) := by decide +kernel
theorem dX8_cut_77 : decode cX8_cut 77 = .ok (.iconst 0, 1) := by decide +kernel
theorem dX8_cut_78 : decode cX8_cut 78 = .ok (.istore 5, 2) := by decide +kernel
theorem dX8_cut_80 : decode cX8_cut 80 = .ok (.iload 5, 2) := by decide +kernel
theorem dX8_cut_82 : decode cX8_cut 82 = .ok (.ifCond .eq 26, 3) := by decide +kernel
theorem dX8_cut_85 : decode cX8_cut 85 = .ok (.aload_n 0, 1) := by decide +kernel
theorem dX8_cut_86 : decode cX8_cut 86 = .ok (.iload_n 1, 1) := by decide +kernel
theorem dX8_cut_87 : decode cX8_cut 87 = .ok (.iconst (-1), 1) := by decide +kernel
theorem dX8_cut_88 : decode cX8_cut 88 = .ok (.iload 4, 2) := by decide +kernel
theorem dX8_cut_90 : decode cX8_cut 90 = .ok (.invokevirtual 332, 3) := by decide +kernel
theorem dX8_cut_93 : decode cX8_cut 93 = .ok (.iload_n 2, 1) := by decide +kernel
theorem dX8_cut_94 : decode cX8_cut 94 = .ok (.invokestatic 159, 3) := by decide +kernel
theorem dX8_cut_97 : decode cX8_cut 97 = .ok (.ifCond .ne 11, 3) := by decide +kernel
theorem dX8_cut_100 : decode cX8_cut 100 = .ok (.iload 4, 2) := by decide +kernel
theorem dX8_cut_102 : decode cX8_cut 102 = .ok (.invokestatic 132, 3) := by decide +kernel
theorem dX8_cut_105 : decode cX8_cut 105 = .ok (.goto 4, 3) := by decide +kernel
theorem dX8_cut_108 : decode cX8_cut 108 = .ok (.iload_n 3, 1) := by decide +kernel
theorem dX8_cut_109 : decode cX8_cut 109 = .ok (.istore_n 3, 1) := by decide +kernel
theorem dX8_cut_110 : decode cX8_cut 110 = .ok (.iinc 4 1, 3) := by decide +kernel
theorem dX8_cut_113 : decode cX8_cut 113 = .ok (.goto (-78), 3) := by decide +kernel
theorem dX8_cut_116 : decode cX8_cut 116 = .ok (.iload_n 3, 1) := by decide +kernel
theorem dX8_cut_117 : decode cX8_cut 117 = .ok (.ireturn, 1) := by decide +kernel
theorem dX8_reach_0 : decode cX8_reach 0 = .ok (.aload_n 0, 1) := by decide +kernel
theorem dX8_reach_1 : decode cX8_reach 1 = .ok (.iload_n 1, 1) := by decide +kernel
theorem dX8_reach_2 : decode cX8_reach 2 = .ok (.i2l, 1) := by decide +kernel
theorem dX8_reach_3 : decode cX8_reach 3 = .ok (.invokevirtual 102, 3) := by decide +kernel
theorem dX8_reach_6 : decode cX8_reach 6 = .ok (.ifCond .ne 10, 3) := by decide +kernel
theorem dX8_reach_9 : decode cX8_reach 9 = .ok (.aload_n 0, 1) := by decide +kernel
theorem dX8_reach_10 : decode cX8_reach 10 = .ok (.bipush (-2), 2) := by decide +kernel
theorem dX8_reach_12 : decode cX8_reach 12 = .ok (.invokevirtual 112, 3) := by decide +kernel
theorem dX8_reach_15 : decode cX8_reach 15 = .ok (.ireturn, 1) := by decide +kernel
theorem dX8_reach_16 : decode cX8_reach 16 = .ok (.iconst 0, 1) := by decide +kernel
theorem dX8_reach_17 : decode cX8_reach 17 = .ok (.istore_n 2, 1) := by decide +kernel
theorem dX8_reach_18 : decode cX8_reach 18 = .ok (.iconst 0, 1) := by decide +kernel
theorem dX8_reach_19 : decode cX8_reach 19 = .ok (.istore_n 3, 1) := by decide +kernel
theorem dX8_reach_20 : decode cX8_reach 20 = .ok (.iload_n 3, 1) := by decide +kernel
theorem dX8_reach_21 : decode cX8_reach 21 = .ok (.aload_n 0, 1) := by decide +kernel
theorem dX8_reach_22 : decode cX8_reach 22 = .ok (.getfield 95, 3) := by decide +kernel
theorem dX8_reach_25 : decode cX8_reach 25 = .ok (.if_icmp .ge 31, 3) := by decide +kernel
theorem dX8_reach_28 : decode cX8_reach 28 = .ok (.iload_n 2, 1) := by decide +kernel
theorem dX8_reach_29 : decode cX8_reach 29 = .ok (.aload_n 0, 1) := by decide +kernel
theorem dX8_reach_30 : decode cX8_reach 30 = .ok (.getfield 41, 3) := by decide +kernel
theorem dX8_reach_33 : decode cX8_reach 33 = .ok (.iload_n 3, 1) := by decide +kernel
theorem dX8_reach_34 : decode cX8_reach 34 = .ok (.iaload, 1) := by decide +kernel
theorem dX8_reach_35 : decode cX8_reach 35 = .ok (.invokestatic 125, 3) := by decide +kernel
theorem dX8_reach_38 : decode cX8_reach 38 = .ok (.ifCond .eq 7, 3) := by decide +kernel
theorem dX8_reach_41 : decode cX8_reach 41 = .ok (.iconst 0, 1) := by decide +kernel
theorem dX8_reach_42 : decode cX8_reach 42 = .ok (.goto 6, 3) := by decide +kernel
theorem dX8_reach_45 : decode cX8_reach 45 = .ok (.iconst 1, 1) := by decide +kernel
theorem dX8_reach_46 : decode cX8_reach 46 = .ok (.iload_n 3, 1) := by decide +kernel
theorem dX8_reach_47 : decode cX8_reach 47 = .ok (.ishl, 1) := by decide +kernel
theorem dX8_reach_48 : decode cX8_reach 48 = .ok (.ior, 1) := by decide +kernel
theorem dX8_reach_49 : decode cX8_reach 49 = .ok (.istore_n 2, 1) := by decide +kernel
theorem dX8_reach_50 : decode cX8_reach 50 = .ok (.iinc 3 1, 3) := by decide +kernel
theorem dX8_reach_53 : decode cX8_reach 53 = .ok (.goto (-33), 3) := by decide +kernel
theorem dX8_reach_56 : decode cX8_reach 56 = .ok (.aload_n 0, 1) := by decide +kernel
theorem dX8_reach_57 : decode cX8_reach 57 = .ok (.iload_n 1, 1) := by decide +kernel
theorem dX8_reach_58 : decode cX8_reach 58 = .ok (.iload_n 2, 1) := by decide +kernel
theorem dX8_reach_59 : decode cX8_reach 59 = .ok (.iconst 0, 1) := by decide +kernel
theorem dX8_reach_60 : decode cX8_reach 60 = .ok (.invokevirtual 332, 3) := by decide +kernel
theorem dX8_reach_63 : decode cX8_reach 63 = .ok (.iconst 1, 1) := by decide +kernel
theorem dX8_reach_64 : decode cX8_reach 64 = .ok (.iload_n 1, 1) := by decide +kernel
theorem dX8_reach_65 : decode cX8_reach 65 = .ok (.ishl, 1) := by decide +kernel
theorem dX8_reach_66 : decode cX8_reach 66 = .ok (.iconst (-1), 1) := by decide +kernel
theorem dX8_reach_67 : decode cX8_reach 67 = .ok (.ixor, 1) := by decide +kernel
theorem dX8_reach_68 : decode cX8_reach 68 = .ok (.iand, 1) := by decide +kernel
theorem dX8_reach_69 : decode cX8_reach 69 = .ok (.ireturn, 1) := by decide +kernel
theorem dX8_noWay_0 : decode cX8_noWay 0 = .ok (.iload_n 1, 1) := by decide +kernel
theorem dX8_noWay_1 : decode cX8_noWay 1 = .ok (.i2l, 1) := by decide +kernel
theorem dX8_noWay_2 : decode cX8_noWay 2 = .ok (.lconst 0, 1) := by decide +kernel
theorem dX8_noWay_3 : decode cX8_noWay 3 = .ok (.ldc2_w 106, 3) := by decide +kernel
theorem dX8_noWay_6 : decode cX8_noWay 6 = .ok (.invokestatic 98, 3) := by decide +kernel
theorem dX8_noWay_9 : decode cX8_noWay 9 = .ok (.ifCond .eq 15, 3) := by decide +kernel
theorem dX8_noWay_12 : decode cX8_noWay 12 = .ok (.iload_n 2, 1) := by decide +kernel
theorem dX8_noWay_13 : decode cX8_noWay 13 = .ok (.i2l, 1) := by decide +kernel
theorem dX8_noWay_14 : decode cX8_noWay 14 = .ok (.lconst 0, 1) := by decide +kernel
theorem dX8_noWay_15 : decode cX8_noWay 15 = .ok (.ldc2_w 146, 3) := by decide +kernel
theorem dX8_noWay_18 : decode cX8_noWay 18 = .ok (.invokestatic 98, 3) := by decide +kernel
theorem dX8_noWay_21 : decode cX8_noWay 21 = .ok (.ifCond .ne 10, 3) := by decide +kernel
theorem dX8_noWay_24 : decode cX8_noWay 24 = .ok (.aload_n 0, 1) := by decide +kernel
theorem dX8_noWay_25 : decode cX8_noWay 25 = .ok (.bipush (-2), 2) := by decide +kernel
theorem dX8_noWay_27 : decode cX8_noWay 27 = .ok (.invokevirtual 112, 3) := by decide +kernel
theorem dX8_noWay_30 : decode cX8_noWay 30 = .ok (.ireturn, 1) := by decide +kernel
theorem dX8_noWay_31 : decode cX8_noWay 31 = .ok (.aload_n 0, 1) := by decide +kernel
theorem dX8_noWay_32 : decode cX8_noWay 32 = .ok (.iload_n 1, 1) := by decide +kernel
theorem dX8_noWay_33 : decode cX8_noWay 33 = .ok (.invokevirtual 116, 3) := by decide +kernel
theorem dX8_noWay_36 : decode cX8_noWay 36 = .ok (.istore_n 3, 1) := by decide +kernel
theorem dX8_noWay_37 : decode cX8_noWay 37 = .ok (.iload_n 3, 1) := by decide +kernel
theorem dX8_noWay_38 : decode cX8_noWay 38 = .ok (.ifCond .eq 5, 3) := by decide +kernel
theorem dX8_noWay_41 : decode cX8_noWay 41 = .ok (.iload_n 3, 1) := by decide +kernel
theorem dX8_noWay_42 : decode cX8_noWay 42 = .ok (.ireturn, 1) := by decide +kernel
theorem dX8_noWay_43 : decode cX8_noWay 43 = .ok (.aload_n 0, 1) := by decide +kernel
theorem dX8_noWay_44 : decode cX8_noWay 44 = .ok (.getfield 16, 3) := by decide +kernel
theorem dX8_noWay_47 : decode cX8_noWay 47 = .ok (.iload_n 1, 1) := by decide +kernel
theorem dX8_noWay_48 : decode cX8_noWay 48 = .ok (.iaload, 1) := by decide +kernel
theorem dX8_noWay_49 : decode cX8_noWay 49 = .ok (.iload_n 2, 1) := by decide +kernel
theorem dX8_noWay_50 : decode cX8_noWay 50 = .ok (.if_icmp .ge 12, 3) := by decide +kernel
theorem dX8_noWay_53 : decode cX8_noWay 53 = .ok (.aload_n 0, 1) := by decide +kernel
theorem dX8_noWay_54 : decode cX8_noWay 54 = .ok (.bipush (-2), 2) := by decide +kernel
theorem dX8_noWay_56 : decode cX8_noWay 56 = .ok (.invokevirtual 112, 3) := by decide +kernel
theorem dX8_noWay_59 : decode cX8_noWay 59 = .ok (.goto 4, 3) := by decide +kernel
theorem dX8_noWay_62 : decode cX8_noWay 62 = .ok (.iconst 0, 1) := by decide +kernel
theorem dX8_noWay_63 : decode cX8_noWay 63 = .ok (.ireturn, 1) := by decide +kernel
theorem dX8_wrongIn_0 : decode cX8_wrongIn 0 = .ok (.iconst 0, 1) := by decide +kernel
theorem dX8_wrongIn_1 : decode cX8_wrongIn 1 = .ok (.istore_n 3, 1) := by decide +kernel
theorem dX8_wrongIn_2 : decode cX8_wrongIn 2 = .ok (.iconst 0, 1) := by decide +kernel
theorem dX8_wrongIn_3 : decode cX8_wrongIn 3 = .ok (.istore 4, 2) := by decide +kernel
theorem dX8_wrongIn_5 : decode cX8_wrongIn 5 = .ok (.iload 4, 2) := by decide +kernel
theorem dX8_wrongIn_7 : decode cX8_wrongIn 7 = .ok (.iload_n 2, 1) := by decide +kernel
theorem dX8_wrongIn_8 : decode cX8_wrongIn 8 = .ok (.if_icmp .ge 69, 3) := by decide +kernel
theorem dX8_wrongIn_11 : decode cX8_wrongIn 11 = .ok (.aload_n 0, 1) := by decide +kernel
theorem dX8_wrongIn_12 : decode cX8_wrongIn 12 = .ok (.aload_n 1, 1) := by decide +kernel
theorem dX8_wrongIn_13 : decode cX8_wrongIn 13 = .ok (.iload 4, 2) := by decide +kernel
theorem dX8_wrongIn_15 : decode cX8_wrongIn 15 = .ok (.laload, 1) := by decide +kernel
theorem dX8_wrongIn_16 : decode cX8_wrongIn 16 = .ok (.invokevirtual 102, 3) := by decide +kernel
theorem dX8_wrongIn_19 : decode cX8_wrongIn 19 = .ok (.ifCond .eq 39, 3) := by decide +kernel
theorem dX8_wrongIn_22 : decode cX8_wrongIn 22 = .ok (.iload_n 3, 1) := by decide +kernel
theorem dX8_wrongIn_23 : decode cX8_wrongIn 23 = .ok (.aload_n 1, 1) := by decide +kernel
theorem dX8_wrongIn_24 : decode cX8_wrongIn 24 = .ok (.iload 4, 2) := by decide +kernel
theorem dX8_wrongIn_26 : decode cX8_wrongIn 26 = .ok (.laload, 1) := by decide +kernel
theorem dX8_wrongIn_27 : decode cX8_wrongIn 27 = .ok (.l2i, 1) := by decide +kernel
theorem dX8_wrongIn_28 : decode cX8_wrongIn 28 = .ok (.invokestatic 159, 3) := by decide +kernel
theorem dX8_wrongIn_31 : decode cX8_wrongIn 31 = .ok (.ifCond .ne 27, 3) := by decide +kernel
theorem dX8_wrongIn_34 : decode cX8_wrongIn 34 = .ok (.iload 4, 2) := by decide +kernel
theorem dX8_wrongIn_36 : decode cX8_wrongIn 36 = .ok (.ifCond .le 25, 3) := by decide +kernel
theorem dX8_wrongIn_39 : decode cX8_wrongIn 39 = .ok (.aload_n 0, 1) := by decide +kernel
theorem dX8_wrongIn_40 : decode cX8_wrongIn 40 = .ok (.aload_n 1, 1) := by decide +kernel
theorem dX8_wrongIn_41 : decode cX8_wrongIn 41 = .ok (.iload 4, 2) := by decide +kernel
theorem dX8_wrongIn_43 : decode cX8_wrongIn 43 = .ok (.iconst 1, 1) := by decide +kernel
theorem dX8_wrongIn_44 : decode cX8_wrongIn 44 = .ok (.isub, 1) := by decide +kernel
theorem dX8_wrongIn_45 : decode cX8_wrongIn 45 = .ok (.laload, 1) := by decide +kernel
theorem dX8_wrongIn_46 : decode cX8_wrongIn 46 = .ok (.l2i, 1) := by decide +kernel
theorem dX8_wrongIn_47 : decode cX8_wrongIn 47 = .ok (.aload_n 1, 1) := by decide +kernel
theorem dX8_wrongIn_48 : decode cX8_wrongIn 48 = .ok (.iload 4, 2) := by decide +kernel
theorem dX8_wrongIn_50 : decode cX8_wrongIn 50 = .ok (.laload, 1) := by decide +kernel
theorem dX8_wrongIn_51 : decode cX8_wrongIn 51 = .ok (.l2i, 1) := by decide +kernel
theorem dX8_wrongIn_52 : decode cX8_wrongIn 52 = .ok (.invokevirtual 263, 3) := by decide +kernel
theorem dX8_wrongIn_55 : decode cX8_wrongIn 55 = .ok (.ifCond .ne 6, 3) := by decide +kernel
theorem dX8_wrongIn_58 : decode cX8_wrongIn 58 = .ok (.iload 4, 2) := by decide +kernel
theorem dX8_wrongIn_60 : decode cX8_wrongIn 60 = .ok (.ireturn, 1) := by decide +kernel
theorem dX8_wrongIn_61 : decode cX8_wrongIn 61 = .ok (.iload_n 3, 1) := by decide +kernel
theorem dX8_wrongIn_62 : decode cX8_wrongIn 62 = .ok (.iconst 1, 1) := by decide +kernel
theorem dX8_wrongIn_63 : decode cX8_wrongIn 63 = .ok (.aload_n 1, 1) := by decide +kernel
theorem dX8_wrongIn_64 : decode cX8_wrongIn 64 = .ok (.iload 4, 2) := by decide +kernel
theorem dX8_wrongIn_66 : decode cX8_wrongIn 66 = .ok (.laload, 1) := by decide +kernel
theorem dX8_wrongIn_67 : decode cX8_wrongIn 67 = .ok (.l2i, 1) := by decide +kernel
theorem dX8_wrongIn_68 : decode cX8_wrongIn 68 = .ok (.ishl, 1) := by decide +kernel
theorem dX8_wrongIn_69 : decode cX8_wrongIn 69 = .ok (.ior, 1) := by decide +kernel
theorem dX8_wrongIn_70 : decode cX8_wrongIn 70 = .ok (.istore_n 3, 1) := by decide +kernel
theorem dX8_wrongIn_71 : decode cX8_wrongIn 71 = .ok (.iinc 4 1, 3) := by decide +kernel
theorem dX8_wrongIn_74 : decode cX8_wrongIn 74 = .ok (.goto (-69), 3) := by decide +kernel
theorem dX8_wrongIn_77 : decode cX8_wrongIn 77 = .ok (.iconst (-1), 1) := by decide +kernel
theorem dX8_wrongIn_78 : decode cX8_wrongIn 78 = .ok (.ireturn, 1) := by decide +kernel
theorem dX8_judge_0 : decode cX8_judge 0 = .ok (.aload_n 0, 1) := by decide +kernel
theorem dX8_judge_1 : decode cX8_judge 1 = .ok (.iload_n 1, 1) := by decide +kernel
theorem dX8_judge_2 : decode cX8_judge 2 = .ok (.iload_n 2, 1) := by decide +kernel
theorem dX8_judge_3 : decode cX8_judge 3 = .ok (.invokevirtual 335, 3) := by decide +kernel
theorem dX8_judge_6 : decode cX8_judge 6 = .ok (.istore_n 3, 1) := by decide +kernel
theorem dX8_judge_7 : decode cX8_judge 7 = .ok (.iload_n 3, 1) := by decide +kernel
theorem dX8_judge_8 : decode cX8_judge 8 = .ok (.ifCond .eq 7, 3) := by decide +kernel
theorem dX8_judge_11 : decode cX8_judge 11 = .ok (.iload_n 3, 1) := by decide +kernel
theorem dX8_judge_12 : decode cX8_judge 12 = .ok (.goto 14, 3) := by decide +kernel
theorem dX8_judge_15 : decode cX8_judge 15 = .ok (.aload_n 0, 1) := by decide +kernel
theorem dX8_judge_16 : decode cX8_judge 16 = .ok (.aload_n 0, 1) := by decide +kernel
theorem dX8_judge_17 : decode cX8_judge 17 = .ok (.getfield 21, 3) := by decide +kernel
theorem dX8_judge_20 : decode cX8_judge 20 = .ok (.iload_n 1, 1) := by decide +kernel
theorem dX8_judge_21 : decode cX8_judge 21 = .ok (.aaload, 1) := by decide +kernel
theorem dX8_judge_22 : decode cX8_judge 22 = .ok (.iload_n 2, 1) := by decide +kernel
theorem dX8_judge_23 : decode cX8_judge 23 = .ok (.invokevirtual 338, 3) := by decide +kernel
theorem dX8_judge_26 : decode cX8_judge 26 = .ok (.ireturn, 1) := by decide +kernel
theorem dX8_told_0 : decode cX8_told 0 = .ok (.iload_n 1, 1) := by decide +kernel
theorem dX8_told_1 : decode cX8_told 1 = .ok (.i2l, 1) := by decide +kernel
theorem dX8_told_2 : decode cX8_told 2 = .ok (.lconst 0, 1) := by decide +kernel
theorem dX8_told_3 : decode cX8_told 3 = .ok (.ldc2_w 106, 3) := by decide +kernel
theorem dX8_told_6 : decode cX8_told 6 = .ok (.invokestatic 98, 3) := by decide +kernel
theorem dX8_told_9 : decode cX8_told 9 = .ok (.ifCond .eq 42, 3) := by decide +kernel
theorem dX8_told_12 : decode cX8_told 12 = .ok (.iload_n 2, 1) := by decide +kernel
theorem dX8_told_13 : decode cX8_told 13 = .ok (.i2l, 1) := by decide +kernel
theorem dX8_told_14 : decode cX8_told 14 = .ok (.ldc2_w 141, 3) := by decide +kernel
theorem dX8_told_17 : decode cX8_told 17 = .ok (.ldc2_w 146, 3) := by decide +kernel
theorem dX8_told_20 : decode cX8_told 20 = .ok (.invokestatic 98, 3) := by decide +kernel
theorem dX8_told_23 : decode cX8_told 23 = .ok (.ifCond .eq 28, 3) := by decide +kernel
theorem dX8_told_26 : decode cX8_told 26 = .ok (.iload_n 3, 1) := by decide +kernel
theorem dX8_told_27 : decode cX8_told 27 = .ok (.i2l, 1) := by decide +kernel
theorem dX8_told_28 : decode cX8_told 28 = .ok (.lconst 0, 1) := by decide +kernel
theorem dX8_told_29 : decode cX8_told 29 = .ok (.ldc2_w 269, 3) := by decide +kernel
theorem dX8_told_32 : decode cX8_told 32 = .ok (.invokestatic 98, 3) := by decide +kernel
theorem dX8_told_35 : decode cX8_told 35 = .ok (.ifCond .eq 16, 3) := by decide +kernel
theorem dX8_told_38 : decode cX8_told 38 = .ok (.iload 4, 2) := by decide +kernel
theorem dX8_told_40 : decode cX8_told 40 = .ok (.i2l, 1) := by decide +kernel
theorem dX8_told_41 : decode cX8_told 41 = .ok (.lconst 0, 1) := by decide +kernel
theorem dX8_told_42 : decode cX8_told 42 = .ok (.ldc2_w 141, 3) := by decide +kernel
theorem dX8_told_45 : decode cX8_told 45 = .ok (.invokestatic 98, 3) := by decide +kernel
theorem dX8_told_48 : decode cX8_told 48 = .ok (.ifCond .ne 10, 3) := by decide +kernel
theorem dX8_told_51 : decode cX8_told 51 = .ok (.aload_n 0, 1) := by decide +kernel
theorem dX8_told_52 : decode cX8_told 52 = .ok (.bipush (-2), 2) := by decide +kernel
theorem dX8_told_54 : decode cX8_told 54 = .ok (.invokevirtual 112, 3) := by decide +kernel
theorem dX8_told_57 : decode cX8_told 57 = .ok (.ireturn, 1) := by decide +kernel
theorem dX8_told_58 : decode cX8_told 58 = .ok (.aload_n 0, 1) := by decide +kernel
theorem dX8_told_59 : decode cX8_told 59 = .ok (.iload_n 1, 1) := by decide +kernel
theorem dX8_told_60 : decode cX8_told 60 = .ok (.iload_n 2, 1) := by decide +kernel
theorem dX8_told_61 : decode cX8_told 61 = .ok (.invokevirtual 335, 3) := by decide +kernel
theorem dX8_told_64 : decode cX8_told 64 = .ok (.istore 5, 2) := by decide +kernel
theorem dX8_told_66 : decode cX8_told 66 = .ok (.iload 5, 2) := by decide +kernel
theorem dX8_told_68 : decode cX8_told 68 = .ok (.ifCond .eq 6, 3) := by decide +kernel
theorem dX8_told_71 : decode cX8_told 71 = .ok (.iload 5, 2) := by decide +kernel
theorem dX8_told_73 : decode cX8_told 73 = .ok (.ireturn, 1) := by decide +kernel
theorem dX8_told_74 : decode cX8_told 74 = .ok (.aload_n 0, 1) := by decide +kernel
theorem dX8_told_75 : decode cX8_told 75 = .ok (.aload_n 0, 1) := by decide +kernel
theorem dX8_told_76 : decode cX8_told 76 = .ok (.getfield 21, 3) := by decide +kernel
theorem dX8_told_79 : decode cX8_told 79 = .ok (.iload_n 1, 1) := by decide +kernel
theorem dX8_told_80 : decode cX8_told 80 = .ok (.aaload, 1) := by decide +kernel
theorem dX8_told_81 : decode cX8_told 81 = .ok (.iload_n 2, 1) := by decide +kernel
theorem dX8_told_82 : decode cX8_told 82 = .ok (.invokevirtual 338, 3) := by decide +kernel
theorem dX8_told_85 : decode cX8_told 85 = .ok (.iconst (-1), 1) := by decide +kernel
theorem dX8_told_86 : decode cX8_told 86 = .ok (.if_icmp .eq 10, 3) := by decide +kernel
theorem dX8_told_89 : decode cX8_told 89 = .ok (.aload_n 0, 1) := by decide +kernel
theorem dX8_told_90 : decode cX8_told 90 = .ok (.bipush (-5), 2) := by decide +kernel
theorem dX8_told_92 : decode cX8_told 92 = .ok (.invokevirtual 112, 3) := by decide +kernel
theorem dX8_told_95 : decode cX8_told 95 = .ok (.ireturn, 1) := by decide +kernel
theorem dX8_told_96 : decode cX8_told 96 = .ok (.iload_n 3, 1) := by decide +kernel
theorem dX8_told_97 : decode cX8_told 97 = .ok (.istore 6, 2) := by decide +kernel
theorem dX8_told_99 : decode cX8_told 99 = .ok (.iconst 0, 1) := by decide +kernel
theorem dX8_told_100 : decode cX8_told 100 = .ok (.istore 7, 2) := by decide +kernel
theorem dX8_told_102 : decode cX8_told 102 = .ok (.ldc2_w 322, 3) := by decide +kernel
theorem dX8_told_105 : decode cX8_told 105 = .ok (.lstore 8, 2) := by decide +kernel
theorem dX8_told_107 : decode cX8_told 107 = .ok (.iconst 1, 1) := by decide +kernel
theorem dX8_told_108 : decode cX8_told 108 = .ok (.istore 10, 2) := by decide +kernel
theorem dX8_told_110 : decode cX8_told 110 = .ok (.iload 10, 2) := by decide +kernel
theorem dX8_told_112 : decode cX8_told 112 = .ok (.iload_n 2, 1) := by decide +kernel
theorem dX8_told_113 : decode cX8_told 113 = .ok (.if_icmp .ge 111, 3) := by decide +kernel
theorem dX8_told_116 : decode cX8_told 116 = .ok (.aload_n 0, 1) := by decide +kernel
theorem dX8_told_117 : decode cX8_told 117 = .ok (.getfield 21, 3) := by decide +kernel
theorem dX8_told_120 : decode cX8_told 120 = .ok (.iload_n 1, 1) := by decide +kernel
theorem dX8_told_121 : decode cX8_told 121 = .ok (.aaload, 1) := by decide +kernel
theorem dX8_told_122 : decode cX8_told 122 = .ok (.iload 10, 2) := by decide +kernel
theorem dX8_told_124 : decode cX8_told 124 = .ok (.laload, 1) := by decide +kernel
theorem dX8_told_125 : decode cX8_told 125 = .ok (.l2i, 1) := by decide +kernel
theorem dX8_told_126 : decode cX8_told 126 = .ok (.istore 11, 2) := by decide +kernel
theorem dX8_told_128 : decode cX8_told 128 = .ok (.lload 8, 2) := by decide +kernel
theorem dX8_told_130 : decode cX8_told 130 = .ok (.sipush 1000, 3) := by decide +kernel
theorem dX8_told_133 : decode cX8_told 133 = .ok (.aload_n 0, 1) := by decide +kernel
theorem dX8_told_134 : decode cX8_told 134 = .ok (.iload 11, 2) := by decide +kernel
theorem dX8_told_136 : decode cX8_told 136 = .ok (.iload 6, 2) := by decide +kernel
theorem dX8_told_138 : decode cX8_told 138 = .ok (.iload 10, 2) := by decide +kernel
theorem dX8_told_140 : decode cX8_told 140 = .ok (.iload_n 2, 1) := by decide +kernel
theorem dX8_told_141 : decode cX8_told 141 = .ok (.iconst 1, 1) := by decide +kernel
theorem dX8_told_142 : decode cX8_told 142 = .ok (.isub, 1) := by decide +kernel
theorem dX8_told_143 : decode cX8_told 143 = .ok (.if_icmp .ne 7, 3) := by decide +kernel
theorem dX8_told_146 : decode cX8_told 146 = .ok (.iconst 1, 1) := by decide +kernel
theorem dX8_told_147 : decode cX8_told 147 = .ok (.goto 4, 3) := by decide +kernel
theorem dX8_told_150 : decode cX8_told 150 = .ok (.iconst 0, 1) := by decide +kernel
theorem dX8_told_151 : decode cX8_told 151 = .ok (.invokevirtual 271, 3) := by decide +kernel
theorem dX8_told_154 : decode cX8_told 154 = .ok (.isub, 1) := by decide +kernel
theorem dX8_told_155 : decode cX8_told 155 = .ok (.i2l, 1) := by decide +kernel
theorem dX8_told_156 : decode cX8_told 156 = .ok (.lmul, 1) := by decide +kernel
theorem dX8_told_157 : decode cX8_told 157 = .ok (.ldc2_w 172, 3) := by decide +kernel
theorem dX8_told_160 : decode cX8_told 160 = .ok (.ldiv, 1) := by decide +kernel
theorem dX8_told_161 : decode cX8_told 161 = .ok (.lstore 8, 2) := by decide +kernel
theorem dX8_told_163 : decode cX8_told 163 = .ok (.iload 6, 2) := by decide +kernel
theorem dX8_told_165 : decode cX8_told 165 = .ok (.aload_n 0, 1) := by decide +kernel
theorem dX8_told_166 : decode cX8_told 166 = .ok (.aload_n 0, 1) := by decide +kernel
theorem dX8_told_167 : decode cX8_told 167 = .ok (.getfield 21, 3) := by decide +kernel
theorem dX8_told_170 : decode cX8_told 170 = .ok (.iload_n 1, 1) := by decide +kernel
theorem dX8_told_171 : decode cX8_told 171 = .ok (.aaload, 1) := by decide +kernel
theorem dX8_told_172 : decode cX8_told 172 = .ok (.iload 10, 2) := by decide +kernel
theorem dX8_told_174 : decode cX8_told 174 = .ok (.iconst 1, 1) := by decide +kernel
theorem dX8_told_175 : decode cX8_told 175 = .ok (.isub, 1) := by decide +kernel
theorem dX8_told_176 : decode cX8_told 176 = .ok (.laload, 1) := by decide +kernel
theorem dX8_told_177 : decode cX8_told 177 = .ok (.l2i, 1) := by decide +kernel
theorem dX8_told_178 : decode cX8_told 178 = .ok (.invokevirtual 135, 3) := by decide +kernel
theorem dX8_told_181 : decode cX8_told 181 = .ok (.iadd, 1) := by decide +kernel
theorem dX8_told_182 : decode cX8_told 182 = .ok (.istore 6, 2) := by decide +kernel
theorem dX8_told_184 : decode cX8_told 184 = .ok (.iload 7, 2) := by decide +kernel
theorem dX8_told_186 : decode cX8_told 186 = .ok (.iload 10, 2) := by decide +kernel
theorem dX8_told_188 : decode cX8_told 188 = .ok (.iload_n 2, 1) := by decide +kernel
theorem dX8_told_189 : decode cX8_told 189 = .ok (.iconst 1, 1) := by decide +kernel
theorem dX8_told_190 : decode cX8_told 190 = .ok (.isub, 1) := by decide +kernel
theorem dX8_told_191 : decode cX8_told 191 = .ok (.if_icmp .ge 23, 3) := by decide +kernel
theorem dX8_told_194 : decode cX8_told 194 = .ok (.aload_n 0, 1) := by decide +kernel
theorem dX8_told_195 : decode cX8_told 195 = .ok (.getfield 41, 3) := by decide +kernel
theorem dX8_told_198 : decode cX8_told 198 = .ok (.iload 11, 2) := by decide +kernel
theorem dX8_told_200 : decode cX8_told 200 = .ok (.iaload, 1) := by decide +kernel
theorem dX8_told_201 : decode cX8_told 201 = .ok (.invokestatic 125, 3) := by decide +kernel
theorem dX8_told_204 : decode cX8_told 204 = .ok (.ifCond .eq 10, 3) := by decide +kernel
theorem dX8_told_207 : decode cX8_told 207 = .ok (.iconst 1, 1) := by decide +kernel
theorem dX8_told_208 : decode cX8_told 208 = .ok (.iload 11, 2) := by decide +kernel
theorem dX8_told_210 : decode cX8_told 210 = .ok (.ishl, 1) := by decide +kernel
theorem dX8_told_211 : decode cX8_told 211 = .ok (.goto 4, 3) := by decide +kernel
theorem dX8_told_214 : decode cX8_told 214 = .ok (.iconst 0, 1) := by decide +kernel
theorem dX8_told_215 : decode cX8_told 215 = .ok (.ior, 1) := by decide +kernel
theorem dX8_told_216 : decode cX8_told 216 = .ok (.istore 7, 2) := by decide +kernel
theorem dX8_told_218 : decode cX8_told 218 = .ok (.iinc 10 1, 3) := by decide +kernel
theorem dX8_told_221 : decode cX8_told 221 = .ok (.goto (-111), 3) := by decide +kernel
theorem dX8_told_224 : decode cX8_told 224 = .ok (.iload 4, 2) := by decide +kernel
theorem dX8_told_226 : decode cX8_told 226 = .ok (.ifCond .ne 9, 3) := by decide +kernel
theorem dX8_told_229 : decode cX8_told 229 = .ok (.lload 8, 2) := by decide +kernel
theorem dX8_told_231 : decode cX8_told 231 = .ok (.l2i, 1) := by decide +kernel
theorem dX8_told_232 : decode cX8_told 232 = .ok (.goto 18, 3) := by decide +kernel
theorem dX8_told_235 : decode cX8_told 235 = .ok (.iload 4, 2) := by decide +kernel
theorem dX8_told_237 : decode cX8_told 237 = .ok (.iconst 1, 1) := by decide +kernel
theorem dX8_told_238 : decode cX8_told 238 = .ok (.if_icmp .ne 10, 3) := by decide +kernel
theorem dX8_told_241 : decode cX8_told 241 = .ok (.iload 6, 2) := by decide +kernel
theorem dX8_told_243 : decode cX8_told 243 = .ok (.iload_n 3, 1) := by decide +kernel
theorem dX8_told_244 : decode cX8_told 244 = .ok (.isub, 1) := by decide +kernel
theorem dX8_told_245 : decode cX8_told 245 = .ok (.goto 5, 3) := by decide +kernel
theorem dX8_told_248 : decode cX8_told 248 = .ok (.iload 7, 2) := by decide +kernel
theorem dX8_told_250 : decode cX8_told 250 = .ok (.ireturn, 1) := by decide +kernel
theorem dX8_changes_0 : decode cX8_changes 0 = .ok (.aload_n 0, 1) := by decide +kernel
theorem dX8_changes_1 : decode cX8_changes 1 = .ok (.getfield 44, 3) := by decide +kernel
theorem dX8_changes_4 : decode cX8_changes 4 = .ok (.iload_n 1, 1) := by decide +kernel
theorem dX8_changes_5 : decode cX8_changes 5 = .ok (.iaload, 1) := by decide +kernel
theorem dX8_changes_6 : decode cX8_changes 6 = .ok (.istore_n 3, 1) := by decide +kernel
theorem dX8_changes_7 : decode cX8_changes 7 = .ok (.aload_n 0, 1) := by decide +kernel
theorem dX8_changes_8 : decode cX8_changes 8 = .ok (.getfield 44, 3) := by decide +kernel
theorem dX8_changes_11 : decode cX8_changes 11 = .ok (.iload_n 1, 1) := by decide +kernel
theorem dX8_changes_12 : decode cX8_changes 12 = .ok (.aload_n 0, 1) := by decide +kernel
theorem dX8_changes_13 : decode cX8_changes 13 = .ok (.getfield 44, 3) := by decide +kernel
theorem dX8_changes_16 : decode cX8_changes 16 = .ok (.iload_n 2, 1) := by decide +kernel
theorem dX8_changes_17 : decode cX8_changes 17 = .ok (.iaload, 1) := by decide +kernel
theorem dX8_changes_18 : decode cX8_changes 18 = .ok (.iastore, 1) := by decide +kernel
theorem dX8_changes_19 : decode cX8_changes 19 = .ok (.aload_n 0, 1) := by decide +kernel
theorem dX8_changes_20 : decode cX8_changes 20 = .ok (.getfield 44, 3) := by decide +kernel
theorem dX8_changes_23 : decode cX8_changes 23 = .ok (.iload_n 2, 1) := by decide +kernel
theorem dX8_changes_24 : decode cX8_changes 24 = .ok (.iload_n 3, 1) := by decide +kernel
theorem dX8_changes_25 : decode cX8_changes 25 = .ok (.iastore, 1) := by decide +kernel
theorem dX8_changes_26 : decode cX8_changes 26 = .ok (.return_, 1) := by decide +kernel
theorem dX8_change_0 : decode cX8_change 0 = .ok (.aload_n 0, 1) := by decide +kernel
theorem dX8_change_1 : decode cX8_change 1 = .ok (.iload_n 1, 1) := by decide +kernel
theorem dX8_change_2 : decode cX8_change 2 = .ok (.iload_n 2, 1) := by decide +kernel
theorem dX8_change_3 : decode cX8_change 3 = .ok (.invokevirtual 155, 3) := by decide +kernel
theorem dX8_change_6 : decode cX8_change 6 = .ok (.ifCond .eq 15, 3) := by decide +kernel
theorem dX8_change_9 : decode cX8_change 9 = .ok (.iload_n 3, 1) := by decide +kernel
theorem dX8_change_10 : decode cX8_change 10 = .ok (.i2l, 1) := by decide +kernel
theorem dX8_change_11 : decode cX8_change 11 = .ok (.lconst 0, 1) := by decide +kernel
theorem dX8_change_12 : decode cX8_change 12 = .ok (.ldc2_w 269, 3) := by decide +kernel
theorem dX8_change_15 : decode cX8_change 15 = .ok (.invokestatic 98, 3) := by decide +kernel
theorem dX8_change_18 : decode cX8_change 18 = .ok (.ifCond .ne 10, 3) := by decide +kernel
theorem dX8_change_21 : decode cX8_change 21 = .ok (.aload_n 0, 1) := by decide +kernel
theorem dX8_change_22 : decode cX8_change 22 = .ok (.bipush (-2), 2) := by decide +kernel
theorem dX8_change_24 : decode cX8_change 24 = .ok (.invokevirtual 112, 3) := by decide +kernel
theorem dX8_change_27 : decode cX8_change 27 = .ok (.ireturn, 1) := by decide +kernel
theorem dX8_change_28 : decode cX8_change 28 = .ok (.aload_n 0, 1) := by decide +kernel
theorem dX8_change_29 : decode cX8_change 29 = .ok (.iload_n 1, 1) := by decide +kernel
theorem dX8_change_30 : decode cX8_change 30 = .ok (.iload_n 2, 1) := by decide +kernel
theorem dX8_change_31 : decode cX8_change 31 = .ok (.iload_n 3, 1) := by decide +kernel
theorem dX8_change_32 : decode cX8_change 32 = .ok (.invokevirtual 328, 3) := by decide +kernel
theorem dX8_change_35 : decode cX8_change 35 = .ok (.istore 4, 2) := by decide +kernel
theorem dX8_change_37 : decode cX8_change 37 = .ok (.iconst (-1), 1) := by decide +kernel
theorem dX8_change_38 : decode cX8_change 38 = .ok (.istore 5, 2) := by decide +kernel
theorem dX8_change_40 : decode cX8_change 40 = .ok (.iconst 0, 1) := by decide +kernel
theorem dX8_change_41 : decode cX8_change 41 = .ok (.istore 6, 2) := by decide +kernel
theorem dX8_change_43 : decode cX8_change 43 = .ok (.iload 6, 2) := by decide +kernel
theorem dX8_change_45 : decode cX8_change 45 = .ok (.aload_n 0, 1) := by decide +kernel
theorem dX8_change_46 : decode cX8_change 46 = .ok (.getfield 95, 3) := by decide +kernel
theorem dX8_change_49 : decode cX8_change 49 = .ok (.if_icmp .ge 100, 3) := by decide +kernel
theorem dX8_change_52 : decode cX8_change 52 = .ok (.iload 6, 2) := by decide +kernel
theorem dX8_change_54 : decode cX8_change 54 = .ok (.iconst 1, 1) := by decide +kernel
theorem dX8_change_55 : decode cX8_change 55 = .ok (.iadd, 1) := by decide +kernel
theorem dX8_change_56 : decode cX8_change 56 = .ok (.istore 7, 2) := by decide +kernel
theorem dX8_change_58 : decode cX8_change 58 = .ok (.iload 7, 2) := by decide +kernel
theorem dX8_change_60 : decode cX8_change 60 = .ok (.aload_n 0, 1) := by decide +kernel
theorem dX8_change_61 : decode cX8_change 61 = .ok (.getfield 95, 3) := by decide +kernel
theorem dX8_change_64 : decode cX8_change 64 = .ok (.if_icmp .ge 79, 3) := by decide +kernel
theorem dX8_change_67 : decode cX8_change 67 = .ok (.iload 6, 2) := by decide +kernel
theorem dX8_change_69 : decode cX8_change 69 = .ok (.iload_n 1, 1) := by decide +kernel
theorem dX8_change_70 : decode cX8_change 70 = .ok (.if_icmp .eq 67, 3) := by decide +kernel
theorem dX8_change_73 : decode cX8_change 73 = .ok (.iload 6, 2) := by decide +kernel
theorem dX8_change_75 : decode cX8_change 75 = .ok (.iload_n 2, 1) := by decide +kernel
theorem dX8_change_76 : decode cX8_change 76 = .ok (.if_icmp .eq 61, 3) := by decide +kernel
theorem dX8_change_79 : decode cX8_change 79 = .ok (.iload 7, 2) := by decide +kernel
theorem dX8_change_81 : decode cX8_change 81 = .ok (.iload_n 1, 1) := by decide +kernel
theorem dX8_change_82 : decode cX8_change 82 = .ok (.if_icmp .eq 55, 3) := by decide +kernel
theorem dX8_change_85 : decode cX8_change 85 = .ok (.iload 7, 2) := by decide +kernel
theorem dX8_change_87 : decode cX8_change 87 = .ok (.iload_n 2, 1) := by decide +kernel
theorem dX8_change_88 : decode cX8_change 88 = .ok (.if_icmp .eq 49, 3) := by decide +kernel
theorem dX8_change_91 : decode cX8_change 91 = .ok (.aload_n 0, 1) := by decide +kernel
theorem dX8_change_92 : decode cX8_change 92 = .ok (.iload 6, 2) := by decide +kernel
theorem dX8_change_94 : decode cX8_change 94 = .ok (.iload 7, 2) := by decide +kernel
theorem dX8_change_96 : decode cX8_change 96 = .ok (.invokevirtual 342, 3) := by decide +kernel
theorem dX8_change_99 : decode cX8_change 99 = .ok (.aload_n 0, 1) := by decide +kernel
theorem dX8_change_100 : decode cX8_change 100 = .ok (.iload_n 1, 1) := by decide +kernel
theorem dX8_change_101 : decode cX8_change 101 = .ok (.iload_n 2, 1) := by decide +kernel
theorem dX8_change_102 : decode cX8_change 102 = .ok (.iload_n 3, 1) := by decide +kernel
theorem dX8_change_103 : decode cX8_change 103 = .ok (.invokevirtual 328, 3) := by decide +kernel
theorem dX8_change_106 : decode cX8_change 106 = .ok (.istore 8, 2) := by decide +kernel
theorem dX8_change_108 : decode cX8_change 108 = .ok (.aload_n 0, 1) := by decide +kernel
theorem dX8_change_109 : decode cX8_change 109 = .ok (.iload 6, 2) := by decide +kernel
theorem dX8_change_111 : decode cX8_change 111 = .ok (.iload 7, 2) := by decide +kernel
theorem dX8_change_113 : decode cX8_change 113 = .ok (.invokevirtual 342, 3) := by decide +kernel
theorem dX8_change_116 : decode cX8_change 116 = .ok (.iload 8, 2) := by decide +kernel
theorem dX8_change_118 : decode cX8_change 118 = .ok (.iload 4, 2) := by decide +kernel
theorem dX8_change_120 : decode cX8_change 120 = .ok (.if_icmp .le 17, 3) := by decide +kernel
theorem dX8_change_123 : decode cX8_change 123 = .ok (.iload 8, 2) := by decide +kernel
theorem dX8_change_125 : decode cX8_change 125 = .ok (.istore 4, 2) := by decide +kernel
theorem dX8_change_127 : decode cX8_change 127 = .ok (.bipush 100, 2) := by decide +kernel
theorem dX8_change_129 : decode cX8_change 129 = .ok (.iload 6, 2) := by decide +kernel
theorem dX8_change_131 : decode cX8_change 131 = .ok (.imul, 1) := by decide +kernel
theorem dX8_change_132 : decode cX8_change 132 = .ok (.iload 7, 2) := by decide +kernel
theorem dX8_change_134 : decode cX8_change 134 = .ok (.iadd, 1) := by decide +kernel
theorem dX8_change_135 : decode cX8_change 135 = .ok (.istore 5, 2) := by decide +kernel
theorem dX8_change_137 : decode cX8_change 137 = .ok (.iinc 7 1, 3) := by decide +kernel
theorem dX8_change_140 : decode cX8_change 140 = .ok (.goto (-82), 3) := by decide +kernel
theorem dX8_change_143 : decode cX8_change 143 = .ok (.iinc 6 1, 3) := by decide +kernel
theorem dX8_change_146 : decode cX8_change 146 = .ok (.goto (-103), 3) := by decide +kernel
theorem dX8_change_149 : decode cX8_change 149 = .ok (.iload 5, 2) := by decide +kernel
theorem dX8_change_151 : decode cX8_change 151 = .ok (.ireturn, 1) := by decide +kernel
theorem dX8_noTwoRows_0 : decode cX8_noTwoRows 0 = .ok (.iload_n 1, 1) := by decide +kernel
theorem dX8_noTwoRows_1 : decode cX8_noTwoRows 1 = .ok (.i2l, 1) := by decide +kernel
theorem dX8_noTwoRows_2 : decode cX8_noTwoRows 2 = .ok (.lconst 0, 1) := by decide +kernel
theorem dX8_noTwoRows_3 : decode cX8_noTwoRows 3 = .ok (.ldc2_w 106, 3) := by decide +kernel
theorem dX8_noTwoRows_6 : decode cX8_noTwoRows 6 = .ok (.invokestatic 98, 3) := by decide +kernel
theorem dX8_noTwoRows_9 : decode cX8_noTwoRows 9 = .ok (.ifCond .eq 27, 3) := by decide +kernel
theorem dX8_noTwoRows_12 : decode cX8_noTwoRows 12 = .ok (.iload_n 2, 1) := by decide +kernel
theorem dX8_noTwoRows_13 : decode cX8_noTwoRows 13 = .ok (.i2l, 1) := by decide +kernel
theorem dX8_noTwoRows_14 : decode cX8_noTwoRows 14 = .ok (.lconst 0, 1) := by decide +kernel
theorem dX8_noTwoRows_15 : decode cX8_noTwoRows 15 = .ok (.ldc2_w 106, 3) := by decide +kernel
theorem dX8_noTwoRows_18 : decode cX8_noTwoRows 18 = .ok (.invokestatic 98, 3) := by decide +kernel
theorem dX8_noTwoRows_21 : decode cX8_noTwoRows 21 = .ok (.ifCond .eq 15, 3) := by decide +kernel
theorem dX8_noTwoRows_24 : decode cX8_noTwoRows 24 = .ok (.iload_n 3, 1) := by decide +kernel
theorem dX8_noTwoRows_25 : decode cX8_noTwoRows 25 = .ok (.i2l, 1) := by decide +kernel
theorem dX8_noTwoRows_26 : decode cX8_noTwoRows 26 = .ok (.lconst 0, 1) := by decide +kernel
theorem dX8_noTwoRows_27 : decode cX8_noTwoRows 27 = .ok (.ldc2_w 110, 3) := by decide +kernel
theorem dX8_noTwoRows_30 : decode cX8_noTwoRows 30 = .ok (.invokestatic 98, 3) := by decide +kernel
theorem dX8_noTwoRows_33 : decode cX8_noTwoRows 33 = .ok (.ifCond .ne 10, 3) := by decide +kernel
theorem dX8_noTwoRows_36 : decode cX8_noTwoRows 36 = .ok (.aload_n 0, 1) := by decide +kernel
theorem dX8_noTwoRows_37 : decode cX8_noTwoRows 37 = .ok (.bipush (-2), 2) := by decide +kernel
theorem dX8_noTwoRows_39 : decode cX8_noTwoRows 39 = .ok (.invokevirtual 112, 3) := by decide +kernel
theorem dX8_noTwoRows_42 : decode cX8_noTwoRows 42 = .ok (.ireturn, 1) := by decide +kernel
theorem dX8_noTwoRows_43 : decode cX8_noTwoRows 43 = .ok (.aload_n 0, 1) := by decide +kernel
theorem dX8_noTwoRows_44 : decode cX8_noTwoRows 44 = .ok (.getfield 7, 3) := by decide +kernel
theorem dX8_noTwoRows_47 : decode cX8_noTwoRows 47 = .ok (.iload_n 1, 1) := by decide +kernel
theorem dX8_noTwoRows_48 : decode cX8_noTwoRows 48 = .ok (.iaload, 1) := by decide +kernel
theorem dX8_noTwoRows_49 : decode cX8_noTwoRows 49 = .ok (.iconst 2, 1) := by decide +kernel
theorem dX8_noTwoRows_50 : decode cX8_noTwoRows 50 = .ok (.if_icmp .eq 13, 3) := by decide +kernel
theorem dX8_noTwoRows_53 : decode cX8_noTwoRows 53 = .ok (.aload_n 0, 1) := by decide +kernel
theorem dX8_noTwoRows_54 : decode cX8_noTwoRows 54 = .ok (.getfield 7, 3) := by decide +kernel
theorem dX8_noTwoRows_57 : decode cX8_noTwoRows 57 = .ok (.iload_n 2, 1) := by decide +kernel
theorem dX8_noTwoRows_58 : decode cX8_noTwoRows 58 = .ok (.iaload, 1) := by decide +kernel
theorem dX8_noTwoRows_59 : decode cX8_noTwoRows 59 = .ok (.iconst 2, 1) := by decide +kernel
theorem dX8_noTwoRows_60 : decode cX8_noTwoRows 60 = .ok (.if_icmp .ne 10, 3) := by decide +kernel
theorem dX8_noTwoRows_63 : decode cX8_noTwoRows 63 = .ok (.aload_n 0, 1) := by decide +kernel
theorem dX8_noTwoRows_64 : decode cX8_noTwoRows 64 = .ok (.bipush (-3), 2) := by decide +kernel
theorem dX8_noTwoRows_66 : decode cX8_noTwoRows 66 = .ok (.invokevirtual 112, 3) := by decide +kernel
theorem dX8_noTwoRows_69 : decode cX8_noTwoRows 69 = .ok (.ireturn, 1) := by decide +kernel
theorem dX8_noTwoRows_70 : decode cX8_noTwoRows 70 = .ok (.aload_n 0, 1) := by decide +kernel
theorem dX8_noTwoRows_71 : decode cX8_noTwoRows 71 = .ok (.getfield 7, 3) := by decide +kernel
theorem dX8_noTwoRows_74 : decode cX8_noTwoRows 74 = .ok (.iload_n 1, 1) := by decide +kernel
theorem dX8_noTwoRows_75 : decode cX8_noTwoRows 75 = .ok (.iaload, 1) := by decide +kernel
theorem dX8_noTwoRows_76 : decode cX8_noTwoRows 76 = .ok (.ifCond .eq 12, 3) := by decide +kernel
theorem dX8_noTwoRows_79 : decode cX8_noTwoRows 79 = .ok (.aload_n 0, 1) := by decide +kernel
theorem dX8_noTwoRows_80 : decode cX8_noTwoRows 80 = .ok (.getfield 7, 3) := by decide +kernel
theorem dX8_noTwoRows_83 : decode cX8_noTwoRows 83 = .ok (.iload_n 2, 1) := by decide +kernel
theorem dX8_noTwoRows_84 : decode cX8_noTwoRows 84 = .ok (.iaload, 1) := by decide +kernel
theorem dX8_noTwoRows_85 : decode cX8_noTwoRows 85 = .ok (.ifCond .ne 10, 3) := by decide +kernel
theorem dX8_noTwoRows_88 : decode cX8_noTwoRows 88 = .ok (.aload_n 0, 1) := by decide +kernel
theorem dX8_noTwoRows_89 : decode cX8_noTwoRows 89 = .ok (.bipush (-4), 2) := by decide +kernel
theorem dX8_noTwoRows_91 : decode cX8_noTwoRows 91 = .ok (.invokevirtual 112, 3) := by decide +kernel
theorem dX8_noTwoRows_94 : decode cX8_noTwoRows 94 = .ok (.ireturn, 1) := by decide +kernel
theorem dX8_noTwoRows_95 : decode cX8_noTwoRows 95 = .ok (.aload_n 0, 1) := by decide +kernel
theorem dX8_noTwoRows_96 : decode cX8_noTwoRows 96 = .ok (.getfield 16, 3) := by decide +kernel
theorem dX8_noTwoRows_99 : decode cX8_noTwoRows 99 = .ok (.iload_n 1, 1) := by decide +kernel
theorem dX8_noTwoRows_100 : decode cX8_noTwoRows 100 = .ok (.iaload, 1) := by decide +kernel
theorem dX8_noTwoRows_101 : decode cX8_noTwoRows 101 = .ok (.iload_n 3, 1) := by decide +kernel
theorem dX8_noTwoRows_102 : decode cX8_noTwoRows 102 = .ok (.if_icmp .ge 12, 3) := by decide +kernel
theorem dX8_noTwoRows_105 : decode cX8_noTwoRows 105 = .ok (.aload_n 0, 1) := by decide +kernel
theorem dX8_noTwoRows_106 : decode cX8_noTwoRows 106 = .ok (.bipush (-2), 2) := by decide +kernel
theorem dX8_noTwoRows_108 : decode cX8_noTwoRows 108 = .ok (.invokevirtual 112, 3) := by decide +kernel
theorem dX8_noTwoRows_111 : decode cX8_noTwoRows 111 = .ok (.goto 4, 3) := by decide +kernel
theorem dX8_noTwoRows_114 : decode cX8_noTwoRows 114 = .ok (.iconst 0, 1) := by decide +kernel
theorem dX8_noTwoRows_115 : decode cX8_noTwoRows 115 = .ok (.ireturn, 1) := by decide +kernel
theorem dX8_areLetters_0 : decode cX8_areLetters 0 = .ok (.iconst 0, 1) := by decide +kernel
theorem dX8_areLetters_1 : decode cX8_areLetters 1 = .ok (.istore_n 3, 1) := by decide +kernel
theorem dX8_areLetters_2 : decode cX8_areLetters 2 = .ok (.iload_n 3, 1) := by decide +kernel
theorem dX8_areLetters_3 : decode cX8_areLetters 3 = .ok (.iload_n 2, 1) := by decide +kernel
theorem dX8_areLetters_4 : decode cX8_areLetters 4 = .ok (.if_icmp .ge 24, 3) := by decide +kernel
theorem dX8_areLetters_7 : decode cX8_areLetters 7 = .ok (.aload_n 1, 1) := by decide +kernel
theorem dX8_areLetters_8 : decode cX8_areLetters 8 = .ok (.iload_n 3, 1) := by decide +kernel
theorem dX8_areLetters_9 : decode cX8_areLetters 9 = .ok (.laload, 1) := by decide +kernel
theorem dX8_areLetters_10 : decode cX8_areLetters 10 = .ok (.lconst 0, 1) := by decide +kernel
theorem dX8_areLetters_11 : decode cX8_areLetters 11 = .ok (.ldc2_w 346, 3) := by decide +kernel
theorem dX8_areLetters_14 : decode cX8_areLetters 14 = .ok (.invokestatic 98, 3) := by decide +kernel
theorem dX8_areLetters_17 : decode cX8_areLetters 17 = .ok (.ifCond .ne 5, 3) := by decide +kernel
theorem dX8_areLetters_20 : decode cX8_areLetters 20 = .ok (.iconst 0, 1) := by decide +kernel
theorem dX8_areLetters_21 : decode cX8_areLetters 21 = .ok (.ireturn, 1) := by decide +kernel
theorem dX8_areLetters_22 : decode cX8_areLetters 22 = .ok (.iinc 3 1, 3) := by decide +kernel
theorem dX8_areLetters_25 : decode cX8_areLetters 25 = .ok (.goto (-23), 3) := by decide +kernel
theorem dX8_areLetters_28 : decode cX8_areLetters 28 = .ok (.iconst 1, 1) := by decide +kernel
theorem dX8_areLetters_29 : decode cX8_areLetters 29 = .ok (.ireturn, 1) := by decide +kernel
theorem dX8_code_0 : decode cX8_code 0 = .ok (.aload_n 0, 1) := by decide +kernel
theorem dX8_code_1 : decode cX8_code 1 = .ok (.iload_n 1, 1) := by decide +kernel
theorem dX8_code_2 : decode cX8_code 2 = .ok (.iload_n 2, 1) := by decide +kernel
theorem dX8_code_3 : decode cX8_code 3 = .ok (.iload_n 3, 1) := by decide +kernel
theorem dX8_code_4 : decode cX8_code 4 = .ok (.invokevirtual 348, 3) := by decide +kernel
theorem dX8_code_7 : decode cX8_code 7 = .ok (.istore 4, 2) := by decide +kernel
theorem dX8_code_9 : decode cX8_code 9 = .ok (.iload 4, 2) := by decide +kernel
theorem dX8_code_11 : decode cX8_code 11 = .ok (.ifCond .eq 6, 3) := by decide +kernel
theorem dX8_code_14 : decode cX8_code 14 = .ok (.iload 4, 2) := by decide +kernel
theorem dX8_code_16 : decode cX8_code 16 = .ok (.ireturn, 1) := by decide +kernel
theorem dX8_code_17 : decode cX8_code 17 = .ok (.aload_n 0, 1) := by decide +kernel
theorem dX8_code_18 : decode cX8_code 18 = .ok (.aload_n 0, 1) := by decide +kernel
theorem dX8_code_19 : decode cX8_code 19 = .ok (.getfield 21, 3) := by decide +kernel
theorem dX8_code_22 : decode cX8_code 22 = .ok (.iload_n 1, 1) := by decide +kernel
theorem dX8_code_23 : decode cX8_code 23 = .ok (.aaload, 1) := by decide +kernel
theorem dX8_code_24 : decode cX8_code 24 = .ok (.iload_n 3, 1) := by decide +kernel
theorem dX8_code_25 : decode cX8_code 25 = .ok (.invokevirtual 351, 3) := by decide +kernel
theorem dX8_code_28 : decode cX8_code 28 = .ok (.ifCond .eq 22, 3) := by decide +kernel
theorem dX8_code_31 : decode cX8_code 31 = .ok (.aload_n 0, 1) := by decide +kernel
theorem dX8_code_32 : decode cX8_code 32 = .ok (.aload_n 0, 1) := by decide +kernel
theorem dX8_code_33 : decode cX8_code 33 = .ok (.getfield 21, 3) := by decide +kernel
theorem dX8_code_36 : decode cX8_code 36 = .ok (.iload_n 2, 1) := by decide +kernel
theorem dX8_code_37 : decode cX8_code 37 = .ok (.aaload, 1) := by decide +kernel
theorem dX8_code_38 : decode cX8_code 38 = .ok (.aload_n 0, 1) := by decide +kernel
theorem dX8_code_39 : decode cX8_code 39 = .ok (.getfield 16, 3) := by decide +kernel
theorem dX8_code_42 : decode cX8_code 42 = .ok (.iload_n 2, 1) := by decide +kernel
theorem dX8_code_43 : decode cX8_code 43 = .ok (.iaload, 1) := by decide +kernel
theorem dX8_code_44 : decode cX8_code 44 = .ok (.invokevirtual 351, 3) := by decide +kernel
theorem dX8_code_47 : decode cX8_code 47 = .ok (.ifCond .ne 10, 3) := by decide +kernel
theorem dX8_code_50 : decode cX8_code 50 = .ok (.aload_n 0, 1) := by decide +kernel
theorem dX8_code_51 : decode cX8_code 51 = .ok (.bipush (-2), 2) := by decide +kernel
theorem dX8_code_53 : decode cX8_code 53 = .ok (.invokevirtual 112, 3) := by decide +kernel
theorem dX8_code_56 : decode cX8_code 56 = .ok (.ireturn, 1) := by decide +kernel
theorem dX8_code_57 : decode cX8_code 57 = .ok (.aload_n 0, 1) := by decide +kernel
theorem dX8_code_58 : decode cX8_code 58 = .ok (.getfield 16, 3) := by decide +kernel
theorem dX8_code_61 : decode cX8_code 61 = .ok (.iload_n 2, 1) := by decide +kernel
theorem dX8_code_62 : decode cX8_code 62 = .ok (.iaload, 1) := by decide +kernel
theorem dX8_code_63 : decode cX8_code 63 = .ok (.ifCond .ne 10, 3) := by decide +kernel
theorem dX8_code_66 : decode cX8_code 66 = .ok (.aload_n 0, 1) := by decide +kernel
theorem dX8_code_67 : decode cX8_code 67 = .ok (.bipush (-5), 2) := by decide +kernel
theorem dX8_code_69 : decode cX8_code 69 = .ok (.invokevirtual 112, 3) := by decide +kernel
theorem dX8_code_72 : decode cX8_code 72 = .ok (.ireturn, 1) := by decide +kernel
theorem dX8_code_73 : decode cX8_code 73 = .ok (.iconst 0, 1) := by decide +kernel
theorem dX8_code_74 : decode cX8_code 74 = .ok (.istore 5, 2) := by decide +kernel
theorem dX8_code_76 : decode cX8_code 76 = .ok (.iload 5, 2) := by decide +kernel
theorem dX8_code_78 : decode cX8_code 78 = .ok (.iload_n 3, 1) := by decide +kernel
theorem dX8_code_79 : decode cX8_code 79 = .ok (.if_icmp .ge 46, 3) := by decide +kernel
theorem dX8_code_82 : decode cX8_code 82 = .ok (.aload_n 0, 1) := by decide +kernel
theorem dX8_code_83 : decode cX8_code 83 = .ok (.getfield 24, 3) := by decide +kernel
theorem dX8_code_86 : decode cX8_code 86 = .ok (.iload 5, 2) := by decide +kernel
theorem dX8_code_88 : decode cX8_code 88 = .ok (.aload_n 0, 1) := by decide +kernel
theorem dX8_code_89 : decode cX8_code 89 = .ok (.getfield 21, 3) := by decide +kernel
theorem dX8_code_92 : decode cX8_code 92 = .ok (.iload_n 1, 1) := by decide +kernel
theorem dX8_code_93 : decode cX8_code 93 = .ok (.aaload, 1) := by decide +kernel
theorem dX8_code_94 : decode cX8_code 94 = .ok (.iload 5, 2) := by decide +kernel
theorem dX8_code_96 : decode cX8_code 96 = .ok (.laload, 1) := by decide +kernel
theorem dX8_code_97 : decode cX8_code 97 = .ok (.aload_n 0, 1) := by decide +kernel
theorem dX8_code_98 : decode cX8_code 98 = .ok (.getfield 21, 3) := by decide +kernel
theorem dX8_code_101 : decode cX8_code 101 = .ok (.iload_n 2, 1) := by decide +kernel
theorem dX8_code_102 : decode cX8_code 102 = .ok (.aaload, 1) := by decide +kernel
theorem dX8_code_103 : decode cX8_code 103 = .ok (.iload 5, 2) := by decide +kernel
theorem dX8_code_105 : decode cX8_code 105 = .ok (.aload_n 0, 1) := by decide +kernel
theorem dX8_code_106 : decode cX8_code 106 = .ok (.getfield 16, 3) := by decide +kernel
theorem dX8_code_109 : decode cX8_code 109 = .ok (.iload_n 2, 1) := by decide +kernel
theorem dX8_code_110 : decode cX8_code 110 = .ok (.iaload, 1) := by decide +kernel
theorem dX8_code_111 : decode cX8_code 111 = .ok (.irem, 1) := by decide +kernel
theorem dX8_code_112 : decode cX8_code 112 = .ok (.laload, 1) := by decide +kernel
theorem dX8_code_113 : decode cX8_code 113 = .ok (.ladd, 1) := by decide +kernel
theorem dX8_code_114 : decode cX8_code 114 = .ok (.ldc2_w 355, 3) := by decide +kernel
theorem dX8_code_117 : decode cX8_code 117 = .ok (.lrem, 1) := by decide +kernel
theorem dX8_code_118 : decode cX8_code 118 = .ok (.lastore, 1) := by decide +kernel
theorem dX8_code_119 : decode cX8_code 119 = .ok (.iinc 5 1, 3) := by decide +kernel
theorem dX8_code_122 : decode cX8_code 122 = .ok (.goto (-46), 3) := by decide +kernel
theorem dX8_code_125 : decode cX8_code 125 = .ok (.iconst 0, 1) := by decide +kernel
theorem dX8_code_126 : decode cX8_code 126 = .ok (.istore 5, 2) := by decide +kernel
theorem dX8_code_128 : decode cX8_code 128 = .ok (.iload 5, 2) := by decide +kernel
theorem dX8_code_130 : decode cX8_code 130 = .ok (.iload_n 3, 1) := by decide +kernel
theorem dX8_code_131 : decode cX8_code 131 = .ok (.if_icmp .ge 34, 3) := by decide +kernel
theorem dX8_code_134 : decode cX8_code 134 = .ok (.aload_n 0, 1) := by decide +kernel
theorem dX8_code_135 : decode cX8_code 135 = .ok (.getfield 21, 3) := by decide +kernel
theorem dX8_code_138 : decode cX8_code 138 = .ok (.iload_n 1, 1) := by decide +kernel
theorem dX8_code_139 : decode cX8_code 139 = .ok (.aaload, 1) := by decide +kernel
theorem dX8_code_140 : decode cX8_code 140 = .ok (.iload 5, 2) := by decide +kernel
theorem dX8_code_142 : decode cX8_code 142 = .ok (.aload_n 0, 1) := by decide +kernel
theorem dX8_code_143 : decode cX8_code 143 = .ok (.getfield 13, 3) := by decide +kernel
theorem dX8_code_146 : decode cX8_code 146 = .ok (.iload_n 1, 1) := by decide +kernel
theorem dX8_code_147 : decode cX8_code 147 = .ok (.iaload, 1) := by decide +kernel
theorem dX8_code_148 : decode cX8_code 148 = .ok (.aload_n 0, 1) := by decide +kernel
theorem dX8_code_149 : decode cX8_code 149 = .ok (.getfield 24, 3) := by decide +kernel
theorem dX8_code_152 : decode cX8_code 152 = .ok (.iload 5, 2) := by decide +kernel
theorem dX8_code_154 : decode cX8_code 154 = .ok (.laload, 1) := by decide +kernel
theorem dX8_code_155 : decode cX8_code 155 = .ok (.invokestatic 119, 3) := by decide +kernel
theorem dX8_code_158 : decode cX8_code 158 = .ok (.lastore, 1) := by decide +kernel
theorem dX8_code_159 : decode cX8_code 159 = .ok (.iinc 5 1, 3) := by decide +kernel
theorem dX8_code_162 : decode cX8_code 162 = .ok (.goto (-34), 3) := by decide +kernel
theorem dX8_code_165 : decode cX8_code 165 = .ok (.iload_n 3, 1) := by decide +kernel
theorem dX8_code_166 : decode cX8_code 166 = .ok (.ireturn, 1) := by decide +kernel
theorem dX8_keyLength_0 : decode cX8_keyLength 0 = .ok (.aload_n 0, 1) := by decide +kernel
theorem dX8_keyLength_1 : decode cX8_keyLength 1 = .ok (.iload_n 1, 1) := by decide +kernel
theorem dX8_keyLength_2 : decode cX8_keyLength 2 = .ok (.iload_n 2, 1) := by decide +kernel
theorem dX8_keyLength_3 : decode cX8_keyLength 3 = .ok (.iload_n 3, 1) := by decide +kernel
theorem dX8_keyLength_4 : decode cX8_keyLength 4 = .ok (.invokevirtual 348, 3) := by decide +kernel
theorem dX8_keyLength_7 : decode cX8_keyLength 7 = .ok (.istore 4, 2) := by decide +kernel
theorem dX8_keyLength_9 : decode cX8_keyLength 9 = .ok (.iload 4, 2) := by decide +kernel
theorem dX8_keyLength_11 : decode cX8_keyLength 11 = .ok (.ifCond .eq 6, 3) := by decide +kernel
theorem dX8_keyLength_14 : decode cX8_keyLength 14 = .ok (.iload 4, 2) := by decide +kernel
theorem dX8_keyLength_16 : decode cX8_keyLength 16 = .ok (.ireturn, 1) := by decide +kernel
theorem dX8_keyLength_17 : decode cX8_keyLength 17 = .ok (.aload_n 0, 1) := by decide +kernel
theorem dX8_keyLength_18 : decode cX8_keyLength 18 = .ok (.getfield 16, 3) := by decide +kernel
theorem dX8_keyLength_21 : decode cX8_keyLength 21 = .ok (.iload_n 2, 1) := by decide +kernel
theorem dX8_keyLength_22 : decode cX8_keyLength 22 = .ok (.iaload, 1) := by decide +kernel
theorem dX8_keyLength_23 : decode cX8_keyLength 23 = .ok (.iload_n 3, 1) := by decide +kernel
theorem dX8_keyLength_24 : decode cX8_keyLength 24 = .ok (.if_icmp .lt 31, 3) := by decide +kernel
theorem dX8_keyLength_27 : decode cX8_keyLength 27 = .ok (.aload_n 0, 1) := by decide +kernel
theorem dX8_keyLength_28 : decode cX8_keyLength 28 = .ok (.aload_n 0, 1) := by decide +kernel
theorem dX8_keyLength_29 : decode cX8_keyLength 29 = .ok (.getfield 21, 3) := by decide +kernel
theorem dX8_keyLength_32 : decode cX8_keyLength 32 = .ok (.iload_n 1, 1) := by decide +kernel
theorem dX8_keyLength_33 : decode cX8_keyLength 33 = .ok (.aaload, 1) := by decide +kernel
theorem dX8_keyLength_34 : decode cX8_keyLength 34 = .ok (.iload_n 3, 1) := by decide +kernel
theorem dX8_keyLength_35 : decode cX8_keyLength 35 = .ok (.invokevirtual 351, 3) := by decide +kernel
theorem dX8_keyLength_38 : decode cX8_keyLength 38 = .ok (.ifCond .eq 17, 3) := by decide +kernel
theorem dX8_keyLength_41 : decode cX8_keyLength 41 = .ok (.aload_n 0, 1) := by decide +kernel
theorem dX8_keyLength_42 : decode cX8_keyLength 42 = .ok (.aload_n 0, 1) := by decide +kernel
theorem dX8_keyLength_43 : decode cX8_keyLength 43 = .ok (.getfield 21, 3) := by decide +kernel
theorem dX8_keyLength_46 : decode cX8_keyLength 46 = .ok (.iload_n 2, 1) := by decide +kernel
theorem dX8_keyLength_47 : decode cX8_keyLength 47 = .ok (.aaload, 1) := by decide +kernel
theorem dX8_keyLength_48 : decode cX8_keyLength 48 = .ok (.iload_n 3, 1) := by decide +kernel
theorem dX8_keyLength_49 : decode cX8_keyLength 49 = .ok (.invokevirtual 351, 3) := by decide +kernel
theorem dX8_keyLength_52 : decode cX8_keyLength 52 = .ok (.ifCond .ne 10, 3) := by decide +kernel
theorem dX8_keyLength_55 : decode cX8_keyLength 55 = .ok (.aload_n 0, 1) := by decide +kernel
theorem dX8_keyLength_56 : decode cX8_keyLength 56 = .ok (.bipush (-2), 2) := by decide +kernel
theorem dX8_keyLength_58 : decode cX8_keyLength 58 = .ok (.invokevirtual 112, 3) := by decide +kernel
theorem dX8_keyLength_61 : decode cX8_keyLength 61 = .ok (.ireturn, 1) := by decide +kernel
theorem dX8_keyLength_62 : decode cX8_keyLength 62 = .ok (.iconst 1, 1) := by decide +kernel
theorem dX8_keyLength_63 : decode cX8_keyLength 63 = .ok (.istore 5, 2) := by decide +kernel
theorem dX8_keyLength_65 : decode cX8_keyLength 65 = .ok (.iload 5, 2) := by decide +kernel
theorem dX8_keyLength_67 : decode cX8_keyLength 67 = .ok (.iload_n 3, 1) := by decide +kernel
theorem dX8_keyLength_68 : decode cX8_keyLength 68 = .ok (.if_icmp .ge 118, 3) := by decide +kernel
theorem dX8_keyLength_71 : decode cX8_keyLength 71 = .ok (.iconst 1, 1) := by decide +kernel
theorem dX8_keyLength_72 : decode cX8_keyLength 72 = .ok (.istore 6, 2) := by decide +kernel
theorem dX8_keyLength_74 : decode cX8_keyLength 74 = .ok (.iload 5, 2) := by decide +kernel
theorem dX8_keyLength_76 : decode cX8_keyLength 76 = .ok (.istore 7, 2) := by decide +kernel
theorem dX8_keyLength_78 : decode cX8_keyLength 78 = .ok (.iload 7, 2) := by decide +kernel
theorem dX8_keyLength_80 : decode cX8_keyLength 80 = .ok (.iload_n 3, 1) := by decide +kernel
theorem dX8_keyLength_81 : decode cX8_keyLength 81 = .ok (.if_icmp .ge 91, 3) := by decide +kernel
theorem dX8_keyLength_84 : decode cX8_keyLength 84 = .ok (.aload_n 0, 1) := by decide +kernel
theorem dX8_keyLength_85 : decode cX8_keyLength 85 = .ok (.getfield 21, 3) := by decide +kernel
theorem dX8_keyLength_88 : decode cX8_keyLength 88 = .ok (.iload_n 2, 1) := by decide +kernel
theorem dX8_keyLength_89 : decode cX8_keyLength 89 = .ok (.aaload, 1) := by decide +kernel
theorem dX8_keyLength_90 : decode cX8_keyLength 90 = .ok (.iload 7, 2) := by decide +kernel
theorem dX8_keyLength_92 : decode cX8_keyLength 92 = .ok (.laload, 1) := by decide +kernel
theorem dX8_keyLength_93 : decode cX8_keyLength 93 = .ok (.aload_n 0, 1) := by decide +kernel
theorem dX8_keyLength_94 : decode cX8_keyLength 94 = .ok (.getfield 21, 3) := by decide +kernel
theorem dX8_keyLength_97 : decode cX8_keyLength 97 = .ok (.iload_n 1, 1) := by decide +kernel
theorem dX8_keyLength_98 : decode cX8_keyLength 98 = .ok (.aaload, 1) := by decide +kernel
theorem dX8_keyLength_99 : decode cX8_keyLength 99 = .ok (.iload 7, 2) := by decide +kernel
theorem dX8_keyLength_101 : decode cX8_keyLength 101 = .ok (.laload, 1) := by decide +kernel
theorem dX8_keyLength_102 : decode cX8_keyLength 102 = .ok (.lsub, 1) := by decide +kernel
theorem dX8_keyLength_103 : decode cX8_keyLength 103 = .ok (.ldc2_w 355, 3) := by decide +kernel
theorem dX8_keyLength_106 : decode cX8_keyLength 106 = .ok (.ladd, 1) := by decide +kernel
theorem dX8_keyLength_107 : decode cX8_keyLength 107 = .ok (.lstore 8, 2) := by decide +kernel
theorem dX8_keyLength_109 : decode cX8_keyLength 109 = .ok (.aload_n 0, 1) := by decide +kernel
theorem dX8_keyLength_110 : decode cX8_keyLength 110 = .ok (.getfield 21, 3) := by decide +kernel
theorem dX8_keyLength_113 : decode cX8_keyLength 113 = .ok (.iload_n 2, 1) := by decide +kernel
theorem dX8_keyLength_114 : decode cX8_keyLength 114 = .ok (.aaload, 1) := by decide +kernel
theorem dX8_keyLength_115 : decode cX8_keyLength 115 = .ok (.iload 7, 2) := by decide +kernel
theorem dX8_keyLength_117 : decode cX8_keyLength 117 = .ok (.iload 5, 2) := by decide +kernel
theorem dX8_keyLength_119 : decode cX8_keyLength 119 = .ok (.isub, 1) := by decide +kernel
theorem dX8_keyLength_120 : decode cX8_keyLength 120 = .ok (.laload, 1) := by decide +kernel
theorem dX8_keyLength_121 : decode cX8_keyLength 121 = .ok (.aload_n 0, 1) := by decide +kernel
theorem dX8_keyLength_122 : decode cX8_keyLength 122 = .ok (.getfield 21, 3) := by decide +kernel
theorem dX8_keyLength_125 : decode cX8_keyLength 125 = .ok (.iload_n 1, 1) := by decide +kernel
theorem dX8_keyLength_126 : decode cX8_keyLength 126 = .ok (.aaload, 1) := by decide +kernel
theorem dX8_keyLength_127 : decode cX8_keyLength 127 = .ok (.iload 7, 2) := by decide +kernel
theorem dX8_keyLength_129 : decode cX8_keyLength 129 = .ok (.iload 5, 2) := by decide +kernel
theorem dX8_keyLength_131 : decode cX8_keyLength 131 = .ok (.isub, 1) := by decide +kernel
theorem dX8_keyLength_132 : decode cX8_keyLength 132 = .ok (.laload, 1) := by decide +kernel
theorem dX8_keyLength_133 : decode cX8_keyLength 133 = .ok (.lsub, 1) := by decide +kernel
theorem dX8_keyLength_134 : decode cX8_keyLength 134 = .ok (.ldc2_w 355, 3) := by decide +kernel
theorem dX8_keyLength_137 : decode cX8_keyLength 137 = .ok (.ladd, 1) := by decide +kernel
theorem dX8_keyLength_138 : decode cX8_keyLength 138 = .ok (.lstore 10, 2) := by decide +kernel
theorem dX8_keyLength_140 : decode cX8_keyLength 140 = .ok (.iload 6, 2) := by decide +kernel
theorem dX8_keyLength_142 : decode cX8_keyLength 142 = .ok (.lload 8, 2) := by decide +kernel
theorem dX8_keyLength_144 : decode cX8_keyLength 144 = .ok (.ldc2_w 355, 3) := by decide +kernel
theorem dX8_keyLength_147 : decode cX8_keyLength 147 = .ok (.lrem, 1) := by decide +kernel
theorem dX8_keyLength_148 : decode cX8_keyLength 148 = .ok (.lload 10, 2) := by decide +kernel
theorem dX8_keyLength_150 : decode cX8_keyLength 150 = .ok (.ldc2_w 355, 3) := by decide +kernel
theorem dX8_keyLength_153 : decode cX8_keyLength 153 = .ok (.lrem, 1) := by decide +kernel
theorem dX8_keyLength_154 : decode cX8_keyLength 154 = .ok (.lcmp, 1) := by decide +kernel
theorem dX8_keyLength_155 : decode cX8_keyLength 155 = .ok (.ifCond .ne 7, 3) := by decide +kernel
theorem dX8_keyLength_158 : decode cX8_keyLength 158 = .ok (.iconst 1, 1) := by decide +kernel
theorem dX8_keyLength_159 : decode cX8_keyLength 159 = .ok (.goto 4, 3) := by decide +kernel
theorem dX8_keyLength_162 : decode cX8_keyLength 162 = .ok (.iconst 0, 1) := by decide +kernel
theorem dX8_keyLength_163 : decode cX8_keyLength 163 = .ok (.iand, 1) := by decide +kernel
theorem dX8_keyLength_164 : decode cX8_keyLength 164 = .ok (.istore 6, 2) := by decide +kernel
theorem dX8_keyLength_166 : decode cX8_keyLength 166 = .ok (.iinc 7 1, 3) := by decide +kernel
theorem dX8_keyLength_169 : decode cX8_keyLength 169 = .ok (.goto (-91), 3) := by decide +kernel
theorem dX8_keyLength_172 : decode cX8_keyLength 172 = .ok (.iload 6, 2) := by decide +kernel
theorem dX8_keyLength_174 : decode cX8_keyLength 174 = .ok (.ifCond .eq 6, 3) := by decide +kernel
theorem dX8_keyLength_177 : decode cX8_keyLength 177 = .ok (.iload 5, 2) := by decide +kernel
theorem dX8_keyLength_179 : decode cX8_keyLength 179 = .ok (.ireturn, 1) := by decide +kernel
theorem dX8_keyLength_180 : decode cX8_keyLength 180 = .ok (.iinc 5 1, 3) := by decide +kernel
theorem dX8_keyLength_183 : decode cX8_keyLength 183 = .ok (.goto (-118), 3) := by decide +kernel
theorem dX8_keyLength_186 : decode cX8_keyLength 186 = .ok (.iload_n 3, 1) := by decide +kernel
theorem dX8_keyLength_187 : decode cX8_keyLength 187 = .ok (.ireturn, 1) := by decide +kernel
theorem dX8_below_0 : decode cX8_below 0 = .ok (.aload_n 0, 1) := by decide +kernel
theorem dX8_below_1 : decode cX8_below 1 = .ok (.aload_n 0, 1) := by decide +kernel
theorem dX8_below_2 : decode cX8_below 2 = .ok (.getfield 71, 3) := by decide +kernel
theorem dX8_below_5 : decode cX8_below 5 = .ok (.ldc_w 357, 3) := by decide +kernel
theorem dX8_below_8 : decode cX8_below 8 = .ok (.imul, 1) := by decide +kernel
theorem dX8_below_9 : decode cX8_below 9 = .ok (.sipush 12345, 3) := by decide +kernel
theorem dX8_below_12 : decode cX8_below 12 = .ok (.iadd, 1) := by decide +kernel
theorem dX8_below_13 : decode cX8_below 13 = .ok (.putfield 71, 3) := by decide +kernel
theorem dX8_below_16 : decode cX8_below 16 = .ok (.aload_n 0, 1) := by decide +kernel
theorem dX8_below_17 : decode cX8_below 17 = .ok (.getfield 71, 3) := by decide +kernel
theorem dX8_below_20 : decode cX8_below 20 = .ok (.bipush 16, 2) := by decide +kernel
theorem dX8_below_22 : decode cX8_below 22 = .ok (.iushr, 1) := by decide +kernel
theorem dX8_below_23 : decode cX8_below 23 = .ok (.iload_n 1, 1) := by decide +kernel
theorem dX8_below_24 : decode cX8_below 24 = .ok (.irem, 1) := by decide +kernel
theorem dX8_below_25 : decode cX8_below 25 = .ok (.ireturn, 1) := by decide +kernel
theorem dX8_keepNote_0 : decode cX8_keepNote 0 = .ok (.aload_n 0, 1) := by decide +kernel
theorem dX8_keepNote_1 : decode cX8_keepNote 1 = .ok (.getfield 358, 3) := by decide +kernel
theorem dX8_keepNote_4 : decode cX8_keepNote 4 = .ok (.bipush 16, 2) := by decide +kernel
theorem dX8_keepNote_6 : decode cX8_keepNote 6 = .ok (.if_icmp .ne 77, 3) := by decide +kernel
theorem dX8_keepNote_9 : decode cX8_keepNote 9 = .ok (.iconst 1, 1) := by decide +kernel
theorem dX8_keepNote_10 : decode cX8_keepNote 10 = .ok (.istore 4, 2) := by decide +kernel
theorem dX8_keepNote_12 : decode cX8_keepNote 12 = .ok (.iload 4, 2) := by decide +kernel
theorem dX8_keepNote_14 : decode cX8_keepNote 14 = .ok (.bipush 16, 2) := by decide +kernel
theorem dX8_keepNote_16 : decode cX8_keepNote 16 = .ok (.if_icmp .ge 57, 3) := by decide +kernel
theorem dX8_keepNote_19 : decode cX8_keepNote 19 = .ok (.aload_n 0, 1) := by decide +kernel
theorem dX8_keepNote_20 : decode cX8_keepNote 20 = .ok (.getfield 62, 3) := by decide +kernel
theorem dX8_keepNote_23 : decode cX8_keepNote 23 = .ok (.iload 4, 2) := by decide +kernel
theorem dX8_keepNote_25 : decode cX8_keepNote 25 = .ok (.iconst 1, 1) := by decide +kernel
theorem dX8_keepNote_26 : decode cX8_keepNote 26 = .ok (.isub, 1) := by decide +kernel
theorem dX8_keepNote_27 : decode cX8_keepNote 27 = .ok (.aload_n 0, 1) := by decide +kernel
theorem dX8_keepNote_28 : decode cX8_keepNote 28 = .ok (.getfield 62, 3) := by decide +kernel
theorem dX8_keepNote_31 : decode cX8_keepNote 31 = .ok (.iload 4, 2) := by decide +kernel
theorem dX8_keepNote_33 : decode cX8_keepNote 33 = .ok (.iaload, 1) := by decide +kernel
theorem dX8_keepNote_34 : decode cX8_keepNote 34 = .ok (.iastore, 1) := by decide +kernel
theorem dX8_keepNote_35 : decode cX8_keepNote 35 = .ok (.aload_n 0, 1) := by decide +kernel
theorem dX8_keepNote_36 : decode cX8_keepNote 36 = .ok (.getfield 65, 3) := by decide +kernel
theorem dX8_keepNote_39 : decode cX8_keepNote 39 = .ok (.iload 4, 2) := by decide +kernel
theorem dX8_keepNote_41 : decode cX8_keepNote 41 = .ok (.iconst 1, 1) := by decide +kernel
theorem dX8_keepNote_42 : decode cX8_keepNote 42 = .ok (.isub, 1) := by decide +kernel
theorem dX8_keepNote_43 : decode cX8_keepNote 43 = .ok (.aload_n 0, 1) := by decide +kernel
theorem dX8_keepNote_44 : decode cX8_keepNote 44 = .ok (.getfield 65, 3) := by decide +kernel
theorem dX8_keepNote_47 : decode cX8_keepNote 47 = .ok (.iload 4, 2) := by decide +kernel
theorem dX8_keepNote_49 : decode cX8_keepNote 49 = .ok (.iaload, 1) := by decide +kernel
theorem dX8_keepNote_50 : decode cX8_keepNote 50 = .ok (.iastore, 1) := by decide +kernel
theorem dX8_keepNote_51 : decode cX8_keepNote 51 = .ok (.aload_n 0, 1) := by decide +kernel
theorem dX8_keepNote_52 : decode cX8_keepNote 52 = .ok (.getfield 68, 3) := by decide +kernel
theorem dX8_keepNote_55 : decode cX8_keepNote 55 = .ok (.iload 4, 2) := by decide +kernel
theorem dX8_keepNote_57 : decode cX8_keepNote 57 = .ok (.iconst 1, 1) := by decide +kernel
theorem dX8_keepNote_58 : decode cX8_keepNote 58 = .ok (.isub, 1) := by decide +kernel
theorem dX8_keepNote_59 : decode cX8_keepNote 59 = .ok (.aload_n 0, 1) := by decide +kernel
theorem dX8_keepNote_60 : decode cX8_keepNote 60 = .ok (.getfield 68, 3) := by decide +kernel
theorem dX8_keepNote_63 : decode cX8_keepNote 63 = .ok (.iload 4, 2) := by decide +kernel
theorem dX8_keepNote_65 : decode cX8_keepNote 65 = .ok (.iaload, 1) := by decide +kernel
theorem dX8_keepNote_66 : decode cX8_keepNote 66 = .ok (.iastore, 1) := by decide +kernel
theorem dX8_keepNote_67 : decode cX8_keepNote 67 = .ok (.iinc 4 1, 3) := by decide +kernel
theorem dX8_keepNote_70 : decode cX8_keepNote 70 = .ok (.goto (-58), 3) := by decide +kernel
theorem dX8_keepNote_73 : decode cX8_keepNote 73 = .ok (.aload_n 0, 1) := by decide +kernel
theorem dX8_keepNote_74 : decode cX8_keepNote 74 = .ok (.dup, 1) := by decide +kernel
theorem dX8_keepNote_75 : decode cX8_keepNote 75 = .ok (.getfield 358, 3) := by decide +kernel
theorem dX8_keepNote_78 : decode cX8_keepNote 78 = .ok (.iconst 1, 1) := by decide +kernel
theorem dX8_keepNote_79 : decode cX8_keepNote 79 = .ok (.isub, 1) := by decide +kernel
theorem dX8_keepNote_80 : decode cX8_keepNote 80 = .ok (.putfield 358, 3) := by decide +kernel
theorem dX8_keepNote_83 : decode cX8_keepNote 83 = .ok (.aload_n 0, 1) := by decide +kernel
theorem dX8_keepNote_84 : decode cX8_keepNote 84 = .ok (.getfield 62, 3) := by decide +kernel
theorem dX8_keepNote_87 : decode cX8_keepNote 87 = .ok (.aload_n 0, 1) := by decide +kernel
theorem dX8_keepNote_88 : decode cX8_keepNote 88 = .ok (.getfield 358, 3) := by decide +kernel
theorem dX8_keepNote_91 : decode cX8_keepNote 91 = .ok (.iload_n 1, 1) := by decide +kernel
theorem dX8_keepNote_92 : decode cX8_keepNote 92 = .ok (.iastore, 1) := by decide +kernel
theorem dX8_keepNote_93 : decode cX8_keepNote 93 = .ok (.aload_n 0, 1) := by decide +kernel
theorem dX8_keepNote_94 : decode cX8_keepNote 94 = .ok (.getfield 65, 3) := by decide +kernel
theorem dX8_keepNote_97 : decode cX8_keepNote 97 = .ok (.aload_n 0, 1) := by decide +kernel
theorem dX8_keepNote_98 : decode cX8_keepNote 98 = .ok (.getfield 358, 3) := by decide +kernel
theorem dX8_keepNote_101 : decode cX8_keepNote 101 = .ok (.iload_n 2, 1) := by decide +kernel
theorem dX8_keepNote_102 : decode cX8_keepNote 102 = .ok (.iastore, 1) := by decide +kernel
theorem dX8_keepNote_103 : decode cX8_keepNote 103 = .ok (.aload_n 0, 1) := by decide +kernel
theorem dX8_keepNote_104 : decode cX8_keepNote 104 = .ok (.getfield 68, 3) := by decide +kernel
theorem dX8_keepNote_107 : decode cX8_keepNote 107 = .ok (.aload_n 0, 1) := by decide +kernel
theorem dX8_keepNote_108 : decode cX8_keepNote 108 = .ok (.getfield 358, 3) := by decide +kernel
theorem dX8_keepNote_111 : decode cX8_keepNote 111 = .ok (.iload_n 3, 1) := by decide +kernel
theorem dX8_keepNote_112 : decode cX8_keepNote 112 = .ok (.iastore, 1) := by decide +kernel
theorem dX8_keepNote_113 : decode cX8_keepNote 113 = .ok (.aload_n 0, 1) := by decide +kernel
theorem dX8_keepNote_114 : decode cX8_keepNote 114 = .ok (.dup, 1) := by decide +kernel
theorem dX8_keepNote_115 : decode cX8_keepNote 115 = .ok (.getfield 358, 3) := by decide +kernel
theorem dX8_keepNote_118 : decode cX8_keepNote 118 = .ok (.iconst 1, 1) := by decide +kernel
theorem dX8_keepNote_119 : decode cX8_keepNote 119 = .ok (.iadd, 1) := by decide +kernel
theorem dX8_keepNote_120 : decode cX8_keepNote 120 = .ok (.putfield 358, 3) := by decide +kernel
theorem dX8_keepNote_123 : decode cX8_keepNote 123 = .ok (.return_, 1) := by decide +kernel
theorem dX8_send_0 : decode cX8_send 0 = .ok (.aload_n 0, 1) := by decide +kernel
theorem dX8_send_1 : decode cX8_send 1 = .ok (.iload_n 1, 1) := by decide +kernel
theorem dX8_send_2 : decode cX8_send 2 = .ok (.iload_n 2, 1) := by decide +kernel
theorem dX8_send_3 : decode cX8_send 3 = .ok (.invokevirtual 155, 3) := by decide +kernel
theorem dX8_send_6 : decode cX8_send 6 = .ok (.ifCond .ne 10, 3) := by decide +kernel
theorem dX8_send_9 : decode cX8_send 9 = .ok (.aload_n 0, 1) := by decide +kernel
theorem dX8_send_10 : decode cX8_send 10 = .ok (.bipush (-2), 2) := by decide +kernel
theorem dX8_send_12 : decode cX8_send 12 = .ok (.invokevirtual 112, 3) := by decide +kernel
theorem dX8_send_15 : decode cX8_send 15 = .ok (.ireturn, 1) := by decide +kernel
theorem dX8_send_16 : decode cX8_send 16 = .ok (.aload_n 0, 1) := by decide +kernel
theorem dX8_send_17 : decode cX8_send 17 = .ok (.iload_n 1, 1) := by decide +kernel
theorem dX8_send_18 : decode cX8_send 18 = .ok (.iload_n 2, 1) := by decide +kernel
theorem dX8_send_19 : decode cX8_send 19 = .ok (.aload_n 0, 1) := by decide +kernel
theorem dX8_send_20 : decode cX8_send 20 = .ok (.getfield 361, 3) := by decide +kernel
theorem dX8_send_23 : decode cX8_send 23 = .ok (.iconst 0, 1) := by decide +kernel
theorem dX8_send_24 : decode cX8_send 24 = .ok (.invokevirtual 314, 3) := by decide +kernel
theorem dX8_send_27 : decode cX8_send 27 = .ok (.aload_n 0, 1) := by decide +kernel
theorem dX8_send_28 : decode cX8_send 28 = .ok (.getfield 288, 3) := by decide +kernel
theorem dX8_send_31 : decode cX8_send 31 = .ok (.ifCond .ne 10, 3) := by decide +kernel
theorem dX8_send_34 : decode cX8_send 34 = .ok (.aload_n 0, 1) := by decide +kernel
theorem dX8_send_35 : decode cX8_send 35 = .ok (.bipush (-5), 2) := by decide +kernel
theorem dX8_send_37 : decode cX8_send 37 = .ok (.invokevirtual 112, 3) := by decide +kernel
theorem dX8_send_40 : decode cX8_send 40 = .ok (.ireturn, 1) := by decide +kernel
theorem dX8_send_41 : decode cX8_send 41 = .ok (.iconst 0, 1) := by decide +kernel
theorem dX8_send_42 : decode cX8_send 42 = .ok (.istore_n 3, 1) := by decide +kernel
theorem dX8_send_43 : decode cX8_send 43 = .ok (.iconst 0, 1) := by decide +kernel
theorem dX8_send_44 : decode cX8_send 44 = .ok (.istore 4, 2) := by decide +kernel
theorem dX8_send_46 : decode cX8_send 46 = .ok (.iload 4, 2) := by decide +kernel
theorem dX8_send_48 : decode cX8_send 48 = .ok (.aload_n 0, 1) := by decide +kernel
theorem dX8_send_49 : decode cX8_send 49 = .ok (.getfield 303, 3) := by decide +kernel
theorem dX8_send_52 : decode cX8_send 52 = .ok (.if_icmp .gt 21, 3) := by decide +kernel
theorem dX8_send_55 : decode cX8_send 55 = .ok (.iload_n 3, 1) := by decide +kernel
theorem dX8_send_56 : decode cX8_send 56 = .ok (.iconst 1, 1) := by decide +kernel
theorem dX8_send_57 : decode cX8_send 57 = .ok (.aload_n 0, 1) := by decide +kernel
theorem dX8_send_58 : decode cX8_send 58 = .ok (.getfield 80, 3) := by decide +kernel
theorem dX8_send_61 : decode cX8_send 61 = .ok (.iload 4, 2) := by decide +kernel
theorem dX8_send_63 : decode cX8_send 63 = .ok (.iaload, 1) := by decide +kernel
theorem dX8_send_64 : decode cX8_send 64 = .ok (.ishl, 1) := by decide +kernel
theorem dX8_send_65 : decode cX8_send 65 = .ok (.ior, 1) := by decide +kernel
theorem dX8_send_66 : decode cX8_send 66 = .ok (.istore_n 3, 1) := by decide +kernel
theorem dX8_send_67 : decode cX8_send 67 = .ok (.iinc 4 1, 3) := by decide +kernel
theorem dX8_send_70 : decode cX8_send 70 = .ok (.goto (-24), 3) := by decide +kernel
theorem dX8_send_73 : decode cX8_send 73 = .ok (.iconst 1, 1) := by decide +kernel
theorem dX8_send_74 : decode cX8_send 74 = .ok (.istore 4, 2) := by decide +kernel
theorem dX8_send_76 : decode cX8_send 76 = .ok (.iconst 1, 1) := by decide +kernel
theorem dX8_send_77 : decode cX8_send 77 = .ok (.istore 5, 2) := by decide +kernel
theorem dX8_send_79 : decode cX8_send 79 = .ok (.iload 5, 2) := by decide +kernel
theorem dX8_send_81 : decode cX8_send 81 = .ok (.aload_n 0, 1) := by decide +kernel
theorem dX8_send_82 : decode cX8_send 82 = .ok (.getfield 303, 3) := by decide +kernel
theorem dX8_send_85 : decode cX8_send 85 = .ok (.if_icmp .gt 83, 3) := by decide +kernel
theorem dX8_send_88 : decode cX8_send 88 = .ok (.iload 4, 2) := by decide +kernel
theorem dX8_send_90 : decode cX8_send 90 = .ok (.iconst 1, 1) := by decide +kernel
theorem dX8_send_91 : decode cX8_send 91 = .ok (.if_icmp .ne 77, 3) := by decide +kernel
theorem dX8_send_94 : decode cX8_send 94 = .ok (.aload_n 0, 1) := by decide +kernel
theorem dX8_send_95 : decode cX8_send 95 = .ok (.sipush 1000, 3) := by decide +kernel
theorem dX8_send_98 : decode cX8_send 98 = .ok (.invokevirtual 364, 3) := by decide +kernel
theorem dX8_send_101 : decode cX8_send 101 = .ok (.aload_n 0, 1) := by decide +kernel
theorem dX8_send_102 : decode cX8_send 102 = .ok (.aload_n 0, 1) := by decide +kernel
theorem dX8_send_103 : decode cX8_send 103 = .ok (.getfield 80, 3) := by decide +kernel
theorem dX8_send_106 : decode cX8_send 106 = .ok (.iload 5, 2) := by decide +kernel
theorem dX8_send_108 : decode cX8_send 108 = .ok (.iaload, 1) := by decide +kernel
theorem dX8_send_109 : decode cX8_send 109 = .ok (.aload_n 0, 1) := by decide +kernel
theorem dX8_send_110 : decode cX8_send 110 = .ok (.getfield 361, 3) := by decide +kernel
theorem dX8_send_113 : decode cX8_send 113 = .ok (.iload 5, 2) := by decide +kernel
theorem dX8_send_115 : decode cX8_send 115 = .ok (.aload_n 0, 1) := by decide +kernel
theorem dX8_send_116 : decode cX8_send 116 = .ok (.getfield 303, 3) := by decide +kernel
theorem dX8_send_119 : decode cX8_send 119 = .ok (.if_icmp .ne 7, 3) := by decide +kernel
theorem dX8_send_122 : decode cX8_send 122 = .ok (.iconst 1, 1) := by decide +kernel
theorem dX8_send_123 : decode cX8_send 123 = .ok (.goto 4, 3) := by decide +kernel
theorem dX8_send_126 : decode cX8_send 126 = .ok (.iconst 0, 1) := by decide +kernel
theorem dX8_send_127 : decode cX8_send 127 = .ok (.invokevirtual 271, 3) := by decide +kernel
theorem dX8_send_130 : decode cX8_send 130 = .ok (.if_icmp .ge 7, 3) := by decide +kernel
theorem dX8_send_133 : decode cX8_send 133 = .ok (.iconst 0, 1) := by decide +kernel
theorem dX8_send_134 : decode cX8_send 134 = .ok (.goto 4, 3) := by decide +kernel
theorem dX8_send_137 : decode cX8_send 137 = .ok (.iconst 1, 1) := by decide +kernel
theorem dX8_send_138 : decode cX8_send 138 = .ok (.istore 4, 2) := by decide +kernel
theorem dX8_send_140 : decode cX8_send 140 = .ok (.aload_n 0, 1) := by decide +kernel
theorem dX8_send_141 : decode cX8_send 141 = .ok (.dup, 1) := by decide +kernel
theorem dX8_send_142 : decode cX8_send 142 = .ok (.getfield 361, 3) := by decide +kernel
theorem dX8_send_145 : decode cX8_send 145 = .ok (.aload_n 0, 1) := by decide +kernel
theorem dX8_send_146 : decode cX8_send 146 = .ok (.aload_n 0, 1) := by decide +kernel
theorem dX8_send_147 : decode cX8_send 147 = .ok (.getfield 80, 3) := by decide +kernel
theorem dX8_send_150 : decode cX8_send 150 = .ok (.iload 5, 2) := by decide +kernel
theorem dX8_send_152 : decode cX8_send 152 = .ok (.iconst 1, 1) := by decide +kernel
theorem dX8_send_153 : decode cX8_send 153 = .ok (.isub, 1) := by decide +kernel
theorem dX8_send_154 : decode cX8_send 154 = .ok (.iaload, 1) := by decide +kernel
theorem dX8_send_155 : decode cX8_send 155 = .ok (.invokevirtual 135, 3) := by decide +kernel
theorem dX8_send_158 : decode cX8_send 158 = .ok (.iadd, 1) := by decide +kernel
theorem dX8_send_159 : decode cX8_send 159 = .ok (.putfield 361, 3) := by decide +kernel
theorem dX8_send_162 : decode cX8_send 162 = .ok (.iinc 5 1, 3) := by decide +kernel
theorem dX8_send_165 : decode cX8_send 165 = .ok (.goto (-86), 3) := by decide +kernel
theorem dX8_send_168 : decode cX8_send 168 = .ok (.aload_n 0, 1) := by decide +kernel
theorem dX8_send_169 : decode cX8_send 169 = .ok (.iload_n 3, 1) := by decide +kernel
theorem dX8_send_170 : decode cX8_send 170 = .ok (.iload_n 3, 1) := by decide +kernel
theorem dX8_send_171 : decode cX8_send 171 = .ok (.iconst 1, 1) := by decide +kernel
theorem dX8_send_172 : decode cX8_send 172 = .ok (.iload_n 1, 1) := by decide +kernel
theorem dX8_send_173 : decode cX8_send 173 = .ok (.ishl, 1) := by decide +kernel
theorem dX8_send_174 : decode cX8_send 174 = .ok (.iconst 1, 1) := by decide +kernel
theorem dX8_send_175 : decode cX8_send 175 = .ok (.iload_n 2, 1) := by decide +kernel
theorem dX8_send_176 : decode cX8_send 176 = .ok (.ishl, 1) := by decide +kernel
theorem dX8_send_177 : decode cX8_send 177 = .ok (.ior, 1) := by decide +kernel
theorem dX8_send_178 : decode cX8_send 178 = .ok (.iconst (-1), 1) := by decide +kernel
theorem dX8_send_179 : decode cX8_send 179 = .ok (.ixor, 1) := by decide +kernel
theorem dX8_send_180 : decode cX8_send 180 = .ok (.iand, 1) := by decide +kernel
theorem dX8_send_181 : decode cX8_send 181 = .ok (.iload 4, 2) := by decide +kernel
theorem dX8_send_183 : decode cX8_send 183 = .ok (.invokevirtual 367, 3) := by decide +kernel
theorem dX8_send_186 : decode cX8_send 186 = .ok (.aload_n 0, 1) := by decide +kernel
theorem dX8_send_187 : decode cX8_send 187 = .ok (.dup, 1) := by decide +kernel
theorem dX8_send_188 : decode cX8_send 188 = .ok (.getfield 370, 3) := by decide +kernel
theorem dX8_send_191 : decode cX8_send 191 = .ok (.iconst 1, 1) := by decide +kernel
theorem dX8_send_192 : decode cX8_send 192 = .ok (.iadd, 1) := by decide +kernel
theorem dX8_send_193 : decode cX8_send 193 = .ok (.putfield 370, 3) := by decide +kernel
theorem dX8_send_196 : decode cX8_send 196 = .ok (.aload_n 0, 1) := by decide +kernel
theorem dX8_send_197 : decode cX8_send 197 = .ok (.dup, 1) := by decide +kernel
theorem dX8_send_198 : decode cX8_send 198 = .ok (.getfield 373, 3) := by decide +kernel
theorem dX8_send_201 : decode cX8_send 201 = .ok (.iload 4, 2) := by decide +kernel
theorem dX8_send_203 : decode cX8_send 203 = .ok (.iadd, 1) := by decide +kernel
theorem dX8_send_204 : decode cX8_send 204 = .ok (.putfield 373, 3) := by decide +kernel
theorem dX8_send_207 : decode cX8_send 207 = .ok (.iload 4, 2) := by decide +kernel
theorem dX8_send_209 : decode cX8_send 209 = .ok (.ireturn, 1) := by decide +kernel
theorem dX8_note_0 : decode cX8_note 0 = .ok (.iload_n 1, 1) := by decide +kernel
theorem dX8_note_1 : decode cX8_note 1 = .ok (.iconst (-1), 1) := by decide +kernel
theorem dX8_note_2 : decode cX8_note 2 = .ok (.if_icmp .ge 10, 3) := by decide +kernel
theorem dX8_note_5 : decode cX8_note 5 = .ok (.aload_n 0, 1) := by decide +kernel
theorem dX8_note_6 : decode cX8_note 6 = .ok (.bipush (-2), 2) := by decide +kernel
theorem dX8_note_8 : decode cX8_note 8 = .ok (.invokevirtual 112, 3) := by decide +kernel
theorem dX8_note_11 : decode cX8_note 11 = .ok (.ireturn, 1) := by decide +kernel
theorem dX8_note_12 : decode cX8_note 12 = .ok (.iload_n 1, 1) := by decide +kernel
theorem dX8_note_13 : decode cX8_note 13 = .ok (.aload_n 0, 1) := by decide +kernel
theorem dX8_note_14 : decode cX8_note 14 = .ok (.getfield 358, 3) := by decide +kernel
theorem dX8_note_17 : decode cX8_note 17 = .ok (.if_icmp .lt 10, 3) := by decide +kernel
theorem dX8_note_20 : decode cX8_note 20 = .ok (.aload_n 0, 1) := by decide +kernel
theorem dX8_note_21 : decode cX8_note 21 = .ok (.bipush (-5), 2) := by decide +kernel
theorem dX8_note_23 : decode cX8_note 23 = .ok (.invokevirtual 112, 3) := by decide +kernel
theorem dX8_note_26 : decode cX8_note 26 = .ok (.ireturn, 1) := by decide +kernel
theorem dX8_note_27 : decode cX8_note 27 = .ok (.iload_n 1, 1) := by decide +kernel
theorem dX8_note_28 : decode cX8_note 28 = .ok (.iconst (-1), 1) := by decide +kernel
theorem dX8_note_29 : decode cX8_note 29 = .ok (.if_icmp .ne 10, 3) := by decide +kernel
theorem dX8_note_32 : decode cX8_note 32 = .ok (.aload_n 0, 1) := by decide +kernel
theorem dX8_note_33 : decode cX8_note 33 = .ok (.getfield 358, 3) := by decide +kernel
theorem dX8_note_36 : decode cX8_note 36 = .ok (.goto 9, 3) := by decide +kernel
theorem dX8_note_39 : decode cX8_note 39 = .ok (.aload_n 0, 1) := by decide +kernel
theorem dX8_note_40 : decode cX8_note 40 = .ok (.getfield 62, 3) := by decide +kernel
theorem dX8_note_43 : decode cX8_note 43 = .ok (.iload_n 1, 1) := by decide +kernel
theorem dX8_note_44 : decode cX8_note 44 = .ok (.iaload, 1) := by decide +kernel
theorem dX8_note_45 : decode cX8_note 45 = .ok (.ireturn, 1) := by decide +kernel
theorem dX8_came_0 : decode cX8_came 0 = .ok (.iload_n 1, 1) := by decide +kernel
theorem dX8_came_1 : decode cX8_came 1 = .ok (.ifCond .ge 10, 3) := by decide +kernel
theorem dX8_came_4 : decode cX8_came 4 = .ok (.aload_n 0, 1) := by decide +kernel
theorem dX8_came_5 : decode cX8_came 5 = .ok (.bipush (-2), 2) := by decide +kernel
theorem dX8_came_7 : decode cX8_came 7 = .ok (.invokevirtual 112, 3) := by decide +kernel
theorem dX8_came_10 : decode cX8_came 10 = .ok (.ireturn, 1) := by decide +kernel
theorem dX8_came_11 : decode cX8_came 11 = .ok (.iload_n 1, 1) := by decide +kernel
theorem dX8_came_12 : decode cX8_came 12 = .ok (.aload_n 0, 1) := by decide +kernel
theorem dX8_came_13 : decode cX8_came 13 = .ok (.getfield 358, 3) := by decide +kernel
theorem dX8_came_16 : decode cX8_came 16 = .ok (.if_icmp .ge 12, 3) := by decide +kernel
theorem dX8_came_19 : decode cX8_came 19 = .ok (.aload_n 0, 1) := by decide +kernel
theorem dX8_came_20 : decode cX8_came 20 = .ok (.getfield 68, 3) := by decide +kernel
theorem dX8_came_23 : decode cX8_came 23 = .ok (.iload_n 1, 1) := by decide +kernel
theorem dX8_came_24 : decode cX8_came 24 = .ok (.iaload, 1) := by decide +kernel
theorem dX8_came_25 : decode cX8_came 25 = .ok (.goto 9, 3) := by decide +kernel
theorem dX8_came_28 : decode cX8_came 28 = .ok (.aload_n 0, 1) := by decide +kernel
theorem dX8_came_29 : decode cX8_came 29 = .ok (.bipush (-5), 2) := by decide +kernel
theorem dX8_came_31 : decode cX8_came 31 = .ok (.invokevirtual 112, 3) := by decide +kernel
theorem dX8_came_34 : decode cX8_came 34 = .ok (.ireturn, 1) := by decide +kernel
theorem dX8_suspect_0 : decode cX8_suspect 0 = .ok (.iconst (-1), 1) := by decide +kernel
theorem dX8_suspect_1 : decode cX8_suspect 1 = .ok (.istore_n 1, 1) := by decide +kernel
theorem dX8_suspect_2 : decode cX8_suspect 2 = .ok (.iconst 0, 1) := by decide +kernel
theorem dX8_suspect_3 : decode cX8_suspect 3 = .ok (.istore_n 2, 1) := by decide +kernel
theorem dX8_suspect_4 : decode cX8_suspect 4 = .ok (.iconst 0, 1) := by decide +kernel
theorem dX8_suspect_5 : decode cX8_suspect 5 = .ok (.istore_n 3, 1) := by decide +kernel
theorem dX8_suspect_6 : decode cX8_suspect 6 = .ok (.iload_n 3, 1) := by decide +kernel
theorem dX8_suspect_7 : decode cX8_suspect 7 = .ok (.aload_n 0, 1) := by decide +kernel
theorem dX8_suspect_8 : decode cX8_suspect 8 = .ok (.getfield 95, 3) := by decide +kernel
theorem dX8_suspect_11 : decode cX8_suspect 11 = .ok (.if_icmp .ge 113, 3) := by decide +kernel
theorem dX8_suspect_14 : decode cX8_suspect 14 = .ok (.iconst 0, 1) := by decide +kernel
theorem dX8_suspect_15 : decode cX8_suspect 15 = .ok (.istore 4, 2) := by decide +kernel
theorem dX8_suspect_17 : decode cX8_suspect 17 = .ok (.iconst 0, 1) := by decide +kernel
theorem dX8_suspect_18 : decode cX8_suspect 18 = .ok (.istore 5, 2) := by decide +kernel
theorem dX8_suspect_20 : decode cX8_suspect 20 = .ok (.iconst 0, 1) := by decide +kernel
theorem dX8_suspect_21 : decode cX8_suspect 21 = .ok (.istore 6, 2) := by decide +kernel
theorem dX8_suspect_23 : decode cX8_suspect 23 = .ok (.iload 6, 2) := by decide +kernel
theorem dX8_suspect_25 : decode cX8_suspect 25 = .ok (.aload_n 0, 1) := by decide +kernel
theorem dX8_suspect_26 : decode cX8_suspect 26 = .ok (.getfield 358, 3) := by decide +kernel
theorem dX8_suspect_29 : decode cX8_suspect 29 = .ok (.if_icmp .ge 73, 3) := by decide +kernel
theorem dX8_suspect_32 : decode cX8_suspect 32 = .ok (.aload_n 0, 1) := by decide +kernel
theorem dX8_suspect_33 : decode cX8_suspect 33 = .ok (.getfield 65, 3) := by decide +kernel
theorem dX8_suspect_36 : decode cX8_suspect 36 = .ok (.iload 6, 2) := by decide +kernel
theorem dX8_suspect_38 : decode cX8_suspect 38 = .ok (.iaload, 1) := by decide +kernel
theorem dX8_suspect_39 : decode cX8_suspect 39 = .ok (.iload_n 3, 1) := by decide +kernel
theorem dX8_suspect_40 : decode cX8_suspect 40 = .ok (.invokestatic 159, 3) := by decide +kernel
theorem dX8_suspect_43 : decode cX8_suspect 43 = .ok (.istore 7, 2) := by decide +kernel
theorem dX8_suspect_45 : decode cX8_suspect 45 = .ok (.iload 4, 2) := by decide +kernel
theorem dX8_suspect_47 : decode cX8_suspect 47 = .ok (.iload 7, 2) := by decide +kernel
theorem dX8_suspect_49 : decode cX8_suspect 49 = .ok (.ifCond .eq 17, 3) := by decide +kernel
theorem dX8_suspect_52 : decode cX8_suspect 52 = .ok (.aload_n 0, 1) := by decide +kernel
theorem dX8_suspect_53 : decode cX8_suspect 53 = .ok (.getfield 68, 3) := by decide +kernel
theorem dX8_suspect_56 : decode cX8_suspect 56 = .ok (.iload 6, 2) := by decide +kernel
theorem dX8_suspect_58 : decode cX8_suspect 58 = .ok (.iaload, 1) := by decide +kernel
theorem dX8_suspect_59 : decode cX8_suspect 59 = .ok (.ifCond .ne 7, 3) := by decide +kernel
theorem dX8_suspect_62 : decode cX8_suspect 62 = .ok (.iconst 1, 1) := by decide +kernel
theorem dX8_suspect_63 : decode cX8_suspect 63 = .ok (.goto 4, 3) := by decide +kernel
theorem dX8_suspect_66 : decode cX8_suspect 66 = .ok (.iconst 0, 1) := by decide +kernel
theorem dX8_suspect_67 : decode cX8_suspect 67 = .ok (.iadd, 1) := by decide +kernel
theorem dX8_suspect_68 : decode cX8_suspect 68 = .ok (.istore 4, 2) := by decide +kernel
theorem dX8_suspect_70 : decode cX8_suspect 70 = .ok (.iload 5, 2) := by decide +kernel
theorem dX8_suspect_72 : decode cX8_suspect 72 = .ok (.iload 7, 2) := by decide +kernel
theorem dX8_suspect_74 : decode cX8_suspect 74 = .ok (.ifCond .eq 18, 3) := by decide +kernel
theorem dX8_suspect_77 : decode cX8_suspect 77 = .ok (.aload_n 0, 1) := by decide +kernel
theorem dX8_suspect_78 : decode cX8_suspect 78 = .ok (.getfield 68, 3) := by decide +kernel
theorem dX8_suspect_81 : decode cX8_suspect 81 = .ok (.iload 6, 2) := by decide +kernel
theorem dX8_suspect_83 : decode cX8_suspect 83 = .ok (.iaload, 1) := by decide +kernel
theorem dX8_suspect_84 : decode cX8_suspect 84 = .ok (.iconst 1, 1) := by decide +kernel
theorem dX8_suspect_85 : decode cX8_suspect 85 = .ok (.if_icmp .ne 7, 3) := by decide +kernel
theorem dX8_suspect_88 : decode cX8_suspect 88 = .ok (.iconst 1, 1) := by decide +kernel
theorem dX8_suspect_89 : decode cX8_suspect 89 = .ok (.goto 4, 3) := by decide +kernel
theorem dX8_suspect_92 : decode cX8_suspect 92 = .ok (.iconst 0, 1) := by decide +kernel
theorem dX8_suspect_93 : decode cX8_suspect 93 = .ok (.ior, 1) := by decide +kernel
theorem dX8_suspect_94 : decode cX8_suspect 94 = .ok (.istore 5, 2) := by decide +kernel
theorem dX8_suspect_96 : decode cX8_suspect 96 = .ok (.iinc 6 1, 3) := by decide +kernel
theorem dX8_suspect_99 : decode cX8_suspect 99 = .ok (.goto (-76), 3) := by decide +kernel
theorem dX8_suspect_102 : decode cX8_suspect 102 = .ok (.iload 5, 2) := by decide +kernel
theorem dX8_suspect_104 : decode cX8_suspect 104 = .ok (.ifCond .ne 14, 3) := by decide +kernel
theorem dX8_suspect_107 : decode cX8_suspect 107 = .ok (.iload 4, 2) := by decide +kernel
theorem dX8_suspect_109 : decode cX8_suspect 109 = .ok (.iload_n 2, 1) := by decide +kernel
theorem dX8_suspect_110 : decode cX8_suspect 110 = .ok (.if_icmp .le 8, 3) := by decide +kernel
theorem dX8_suspect_113 : decode cX8_suspect 113 = .ok (.iload_n 3, 1) := by decide +kernel
theorem dX8_suspect_114 : decode cX8_suspect 114 = .ok (.istore_n 1, 1) := by decide +kernel
theorem dX8_suspect_115 : decode cX8_suspect 115 = .ok (.iload 4, 2) := by decide +kernel
theorem dX8_suspect_117 : decode cX8_suspect 117 = .ok (.istore_n 2, 1) := by decide +kernel
theorem dX8_suspect_118 : decode cX8_suspect 118 = .ok (.iinc 3 1, 3) := by decide +kernel
theorem dX8_suspect_121 : decode cX8_suspect 121 = .ok (.goto (-115), 3) := by decide +kernel
theorem dX8_suspect_124 : decode cX8_suspect 124 = .ok (.iload_n 1, 1) := by decide +kernel
theorem dX8_suspect_125 : decode cX8_suspect 125 = .ok (.ireturn, 1) := by decide +kernel
theorem dX8_swap_0 : decode cX8_swap 0 = .ok (.aload_n 0, 1) := by decide +kernel
theorem dX8_swap_1 : decode cX8_swap 1 = .ok (.iload_n 1, 1) := by decide +kernel
theorem dX8_swap_2 : decode cX8_swap 2 = .ok (.i2l, 1) := by decide +kernel
theorem dX8_swap_3 : decode cX8_swap 3 = .ok (.invokevirtual 102, 3) := by decide +kernel
theorem dX8_swap_6 : decode cX8_swap 6 = .ok (.ifCond .eq 12, 3) := by decide +kernel
theorem dX8_swap_9 : decode cX8_swap 9 = .ok (.aload_n 0, 1) := by decide +kernel
theorem dX8_swap_10 : decode cX8_swap 10 = .ok (.iload_n 2, 1) := by decide +kernel
theorem dX8_swap_11 : decode cX8_swap 11 = .ok (.i2l, 1) := by decide +kernel
theorem dX8_swap_12 : decode cX8_swap 12 = .ok (.invokevirtual 102, 3) := by decide +kernel
theorem dX8_swap_15 : decode cX8_swap 15 = .ok (.ifCond .ne 10, 3) := by decide +kernel
theorem dX8_swap_18 : decode cX8_swap 18 = .ok (.aload_n 0, 1) := by decide +kernel
theorem dX8_swap_19 : decode cX8_swap 19 = .ok (.bipush (-2), 2) := by decide +kernel
theorem dX8_swap_21 : decode cX8_swap 21 = .ok (.invokevirtual 112, 3) := by decide +kernel
theorem dX8_swap_24 : decode cX8_swap 24 = .ok (.ireturn, 1) := by decide +kernel
theorem dX8_swap_25 : decode cX8_swap 25 = .ok (.aload_n 0, 1) := by decide +kernel
theorem dX8_swap_26 : decode cX8_swap 26 = .ok (.iload_n 1, 1) := by decide +kernel
theorem dX8_swap_27 : decode cX8_swap 27 = .ok (.iload_n 2, 1) := by decide +kernel
theorem dX8_swap_28 : decode cX8_swap 28 = .ok (.invokevirtual 342, 3) := by decide +kernel
theorem dX8_swap_31 : decode cX8_swap 31 = .ok (.iload_n 1, 1) := by decide +kernel
theorem dX8_swap_32 : decode cX8_swap 32 = .ok (.iload_n 2, 1) := by decide +kernel
theorem dX8_swap_33 : decode cX8_swap 33 = .ok (.if_icmp .ne 7, 3) := by decide +kernel
theorem dX8_swap_36 : decode cX8_swap 36 = .ok (.iconst 0, 1) := by decide +kernel
theorem dX8_swap_37 : decode cX8_swap 37 = .ok (.goto 4, 3) := by decide +kernel
theorem dX8_swap_40 : decode cX8_swap 40 = .ok (.iconst 1, 1) := by decide +kernel
theorem dX8_swap_41 : decode cX8_swap 41 = .ok (.ireturn, 1) := by decide +kernel
theorem dX8_waits_0 : decode cX8_waits 0 = .ok (.iload_n 1, 1) := by decide +kernel
theorem dX8_waits_1 : decode cX8_waits 1 = .ok (.i2l, 1) := by decide +kernel
theorem dX8_waits_2 : decode cX8_waits 2 = .ok (.lconst 1, 1) := by decide +kernel
theorem dX8_waits_3 : decode cX8_waits 3 = .ok (.ldc2_w 376, 3) := by decide +kernel
theorem dX8_waits_6 : decode cX8_waits 6 = .ok (.invokestatic 98, 3) := by decide +kernel
theorem dX8_waits_9 : decode cX8_waits 9 = .ok (.ifCond .ne 10, 3) := by decide +kernel
theorem dX8_waits_12 : decode cX8_waits 12 = .ok (.aload_n 0, 1) := by decide +kernel
theorem dX8_waits_13 : decode cX8_waits 13 = .ok (.bipush (-2), 2) := by decide +kernel
theorem dX8_waits_15 : decode cX8_waits 15 = .ok (.invokevirtual 112, 3) := by decide +kernel
theorem dX8_waits_18 : decode cX8_waits 18 = .ok (.ireturn, 1) := by decide +kernel
theorem dX8_waits_19 : decode cX8_waits 19 = .ok (.aload_n 0, 1) := by decide +kernel
theorem dX8_waits_20 : decode cX8_waits 20 = .ok (.dup, 1) := by decide +kernel
theorem dX8_waits_21 : decode cX8_waits 21 = .ok (.getfield 361, 3) := by decide +kernel
theorem dX8_waits_24 : decode cX8_waits 24 = .ok (.iload_n 1, 1) := by decide +kernel
theorem dX8_waits_25 : decode cX8_waits 25 = .ok (.iadd, 1) := by decide +kernel
theorem dX8_waits_26 : decode cX8_waits 26 = .ok (.putfield 361, 3) := by decide +kernel
theorem dX8_waits_29 : decode cX8_waits 29 = .ok (.aload_n 0, 1) := by decide +kernel
theorem dX8_waits_30 : decode cX8_waits 30 = .ok (.getfield 361, 3) := by decide +kernel
theorem dX8_waits_33 : decode cX8_waits 33 = .ok (.ireturn, 1) := by decide +kernel
theorem dX8_seed_0 : decode cX8_seed 0 = .ok (.aload_n 0, 1) := by decide +kernel
theorem dX8_seed_1 : decode cX8_seed 1 = .ok (.getfield 71, 3) := by decide +kernel
theorem dX8_seed_4 : decode cX8_seed 4 = .ok (.istore_n 2, 1) := by decide +kernel
theorem dX8_seed_5 : decode cX8_seed 5 = .ok (.aload_n 0, 1) := by decide +kernel
theorem dX8_seed_6 : decode cX8_seed 6 = .ok (.iload_n 1, 1) := by decide +kernel
theorem dX8_seed_7 : decode cX8_seed 7 = .ok (.putfield 71, 3) := by decide +kernel
theorem dX8_seed_10 : decode cX8_seed 10 = .ok (.iload_n 2, 1) := by decide +kernel
theorem dX8_seed_11 : decode cX8_seed 11 = .ok (.ireturn, 1) := by decide +kernel
theorem dX8_copied_0 : decode cX8_copied 0 = .ok (.iconst 0, 1) := by decide +kernel
theorem dX8_copied_1 : decode cX8_copied 1 = .ok (.istore_n 2, 1) := by decide +kernel
theorem dX8_copied_2 : decode cX8_copied 2 = .ok (.iload_n 2, 1) := by decide +kernel
theorem dX8_copied_3 : decode cX8_copied 3 = .ok (.aload_n 0, 1) := by decide +kernel
theorem dX8_copied_4 : decode cX8_copied 4 = .ok (.arraylength, 1) := by decide +kernel
theorem dX8_copied_5 : decode cX8_copied 5 = .ok (.if_icmp .ge 15, 3) := by decide +kernel
theorem dX8_copied_8 : decode cX8_copied 8 = .ok (.aload_n 1, 1) := by decide +kernel
theorem dX8_copied_9 : decode cX8_copied 9 = .ok (.iload_n 2, 1) := by decide +kernel
theorem dX8_copied_10 : decode cX8_copied 10 = .ok (.aload_n 0, 1) := by decide +kernel
theorem dX8_copied_11 : decode cX8_copied 11 = .ok (.iload_n 2, 1) := by decide +kernel
theorem dX8_copied_12 : decode cX8_copied 12 = .ok (.iaload, 1) := by decide +kernel
theorem dX8_copied_13 : decode cX8_copied 13 = .ok (.iastore, 1) := by decide +kernel
theorem dX8_copied_14 : decode cX8_copied 14 = .ok (.iinc 2 1, 3) := by decide +kernel
theorem dX8_copied_17 : decode cX8_copied 17 = .ok (.goto (-15), 3) := by decide +kernel
theorem dX8_copied_20 : decode cX8_copied 20 = .ok (.return_, 1) := by decide +kernel
theorem dX8_takeFrom_0 : decode cX8_takeFrom 0 = .ok (.aload_n 0, 1) := by decide +kernel
theorem dX8_takeFrom_1 : decode cX8_takeFrom 1 = .ok (.aload_n 1, 1) := by decide +kernel
theorem dX8_takeFrom_2 : decode cX8_takeFrom 2 = .ok (.getfield 37, 3) := by decide +kernel
theorem dX8_takeFrom_5 : decode cX8_takeFrom 5 = .ok (.putfield 37, 3) := by decide +kernel
theorem dX8_takeFrom_8 : decode cX8_takeFrom 8 = .ok (.aload_n 0, 1) := by decide +kernel
theorem dX8_takeFrom_9 : decode cX8_takeFrom 9 = .ok (.aload_n 1, 1) := by decide +kernel
theorem dX8_takeFrom_10 : decode cX8_takeFrom 10 = .ok (.getfield 95, 3) := by decide +kernel
theorem dX8_takeFrom_13 : decode cX8_takeFrom 13 = .ok (.putfield 95, 3) := by decide +kernel
theorem dX8_takeFrom_16 : decode cX8_takeFrom 16 = .ok (.aload_n 1, 1) := by decide +kernel
theorem dX8_takeFrom_17 : decode cX8_takeFrom 17 = .ok (.getfield 41, 3) := by decide +kernel
theorem dX8_takeFrom_20 : decode cX8_takeFrom 20 = .ok (.aload_n 0, 1) := by decide +kernel
theorem dX8_takeFrom_21 : decode cX8_takeFrom 21 = .ok (.getfield 41, 3) := by decide +kernel
theorem dX8_takeFrom_24 : decode cX8_takeFrom 24 = .ok (.invokestatic 309, 3) := by decide +kernel
theorem dX8_takeFrom_27 : decode cX8_takeFrom 27 = .ok (.aload_n 1, 1) := by decide +kernel
theorem dX8_takeFrom_28 : decode cX8_takeFrom 28 = .ok (.getfield 44, 3) := by decide +kernel
theorem dX8_takeFrom_31 : decode cX8_takeFrom 31 = .ok (.aload_n 0, 1) := by decide +kernel
theorem dX8_takeFrom_32 : decode cX8_takeFrom 32 = .ok (.getfield 44, 3) := by decide +kernel
theorem dX8_takeFrom_35 : decode cX8_takeFrom 35 = .ok (.invokestatic 309, 3) := by decide +kernel
theorem dX8_takeFrom_38 : decode cX8_takeFrom 38 = .ok (.aload_n 1, 1) := by decide +kernel
theorem dX8_takeFrom_39 : decode cX8_takeFrom 39 = .ok (.getfield 47, 3) := by decide +kernel
theorem dX8_takeFrom_42 : decode cX8_takeFrom 42 = .ok (.aload_n 0, 1) := by decide +kernel
theorem dX8_takeFrom_43 : decode cX8_takeFrom 43 = .ok (.getfield 47, 3) := by decide +kernel
theorem dX8_takeFrom_46 : decode cX8_takeFrom 46 = .ok (.invokestatic 309, 3) := by decide +kernel
theorem dX8_takeFrom_49 : decode cX8_takeFrom 49 = .ok (.aload_n 1, 1) := by decide +kernel
theorem dX8_takeFrom_50 : decode cX8_takeFrom 50 = .ok (.getfield 50, 3) := by decide +kernel
theorem dX8_takeFrom_53 : decode cX8_takeFrom 53 = .ok (.aload_n 0, 1) := by decide +kernel
theorem dX8_takeFrom_54 : decode cX8_takeFrom 54 = .ok (.getfield 50, 3) := by decide +kernel
theorem dX8_takeFrom_57 : decode cX8_takeFrom 57 = .ok (.invokestatic 309, 3) := by decide +kernel
theorem dX8_takeFrom_60 : decode cX8_takeFrom 60 = .ok (.aload_n 0, 1) := by decide +kernel
theorem dX8_takeFrom_61 : decode cX8_takeFrom 61 = .ok (.aload_n 1, 1) := by decide +kernel
theorem dX8_takeFrom_62 : decode cX8_takeFrom 62 = .ok (.getfield 53, 3) := by decide +kernel
theorem dX8_takeFrom_65 : decode cX8_takeFrom 65 = .ok (.putfield 53, 3) := by decide +kernel
theorem dX8_takeFrom_68 : decode cX8_takeFrom 68 = .ok (.aload_n 0, 1) := by decide +kernel
theorem dX8_takeFrom_69 : decode cX8_takeFrom 69 = .ok (.aload_n 1, 1) := by decide +kernel
theorem dX8_takeFrom_70 : decode cX8_takeFrom 70 = .ok (.getfield 56, 3) := by decide +kernel
theorem dX8_takeFrom_73 : decode cX8_takeFrom 73 = .ok (.putfield 56, 3) := by decide +kernel
theorem dX8_takeFrom_76 : decode cX8_takeFrom 76 = .ok (.aload_n 0, 1) := by decide +kernel
theorem dX8_takeFrom_77 : decode cX8_takeFrom 77 = .ok (.aload_n 1, 1) := by decide +kernel
theorem dX8_takeFrom_78 : decode cX8_takeFrom 78 = .ok (.getfield 59, 3) := by decide +kernel
theorem dX8_takeFrom_81 : decode cX8_takeFrom 81 = .ok (.putfield 59, 3) := by decide +kernel
theorem dX8_takeFrom_84 : decode cX8_takeFrom 84 = .ok (.aload_n 0, 1) := by decide +kernel
theorem dX8_takeFrom_85 : decode cX8_takeFrom 85 = .ok (.aload_n 1, 1) := by decide +kernel
theorem dX8_takeFrom_86 : decode cX8_takeFrom 86 = .ok (.getfield 361, 3) := by decide +kernel
theorem dX8_takeFrom_89 : decode cX8_takeFrom 89 = .ok (.putfield 361, 3) := by decide +kernel
theorem dX8_takeFrom_92 : decode cX8_takeFrom 92 = .ok (.aload_n 0, 1) := by decide +kernel
theorem dX8_takeFrom_93 : decode cX8_takeFrom 93 = .ok (.aload_n 1, 1) := by decide +kernel
theorem dX8_takeFrom_94 : decode cX8_takeFrom 94 = .ok (.getfield 370, 3) := by decide +kernel
theorem dX8_takeFrom_97 : decode cX8_takeFrom 97 = .ok (.putfield 370, 3) := by decide +kernel
theorem dX8_takeFrom_100 : decode cX8_takeFrom 100 = .ok (.aload_n 0, 1) := by decide +kernel
theorem dX8_takeFrom_101 : decode cX8_takeFrom 101 = .ok (.aload_n 1, 1) := by decide +kernel
theorem dX8_takeFrom_102 : decode cX8_takeFrom 102 = .ok (.getfield 373, 3) := by decide +kernel
theorem dX8_takeFrom_105 : decode cX8_takeFrom 105 = .ok (.putfield 373, 3) := by decide +kernel
theorem dX8_takeFrom_108 : decode cX8_takeFrom 108 = .ok (.aload_n 0, 1) := by decide +kernel
theorem dX8_takeFrom_109 : decode cX8_takeFrom 109 = .ok (.aload_n 1, 1) := by decide +kernel
theorem dX8_takeFrom_110 : decode cX8_takeFrom 110 = .ok (.getfield 358, 3) := by decide +kernel
theorem dX8_takeFrom_113 : decode cX8_takeFrom 113 = .ok (.putfield 358, 3) := by decide +kernel
theorem dX8_takeFrom_116 : decode cX8_takeFrom 116 = .ok (.aload_n 1, 1) := by decide +kernel
theorem dX8_takeFrom_117 : decode cX8_takeFrom 117 = .ok (.getfield 62, 3) := by decide +kernel
theorem dX8_takeFrom_120 : decode cX8_takeFrom 120 = .ok (.aload_n 0, 1) := by decide +kernel
theorem dX8_takeFrom_121 : decode cX8_takeFrom 121 = .ok (.getfield 62, 3) := by decide +kernel
theorem dX8_takeFrom_124 : decode cX8_takeFrom 124 = .ok (.invokestatic 309, 3) := by decide +kernel
theorem dX8_takeFrom_127 : decode cX8_takeFrom 127 = .ok (.aload_n 1, 1) := by decide +kernel
theorem dX8_takeFrom_128 : decode cX8_takeFrom 128 = .ok (.getfield 65, 3) := by decide +kernel
theorem dX8_takeFrom_131 : decode cX8_takeFrom 131 = .ok (.aload_n 0, 1) := by decide +kernel
theorem dX8_takeFrom_132 : decode cX8_takeFrom 132 = .ok (.getfield 65, 3) := by decide +kernel
theorem dX8_takeFrom_135 : decode cX8_takeFrom 135 = .ok (.invokestatic 309, 3) := by decide +kernel
theorem dX8_takeFrom_138 : decode cX8_takeFrom 138 = .ok (.aload_n 1, 1) := by decide +kernel
theorem dX8_takeFrom_139 : decode cX8_takeFrom 139 = .ok (.getfield 68, 3) := by decide +kernel
theorem dX8_takeFrom_142 : decode cX8_takeFrom 142 = .ok (.aload_n 0, 1) := by decide +kernel
theorem dX8_takeFrom_143 : decode cX8_takeFrom 143 = .ok (.getfield 68, 3) := by decide +kernel
theorem dX8_takeFrom_146 : decode cX8_takeFrom 146 = .ok (.invokestatic 309, 3) := by decide +kernel
theorem dX8_takeFrom_149 : decode cX8_takeFrom 149 = .ok (.aload_n 0, 1) := by decide +kernel
theorem dX8_takeFrom_150 : decode cX8_takeFrom 150 = .ok (.aload_n 1, 1) := by decide +kernel
theorem dX8_takeFrom_151 : decode cX8_takeFrom 151 = .ok (.getfield 71, 3) := by decide +kernel
theorem dX8_takeFrom_154 : decode cX8_takeFrom 154 = .ok (.putfield 71, 3) := by decide +kernel
theorem dX8_takeFrom_157 : decode cX8_takeFrom 157 = .ok (.return_, 1) := by decide +kernel
theorem dX8_image_0 : decode cX8_image 0 = .ok (.aload_n 0, 1) := by decide +kernel
theorem dX8_image_1 : decode cX8_image 1 = .ok (.getfield 378, 3) := by decide +kernel
theorem dX8_image_4 : decode cX8_image 4 = .ok (.ifnonnull 14, 3) := by decide +kernel
theorem dX8_image_7 : decode cX8_image 7 = .ok (.aload_n 0, 1) := by decide +kernel
theorem dX8_image_8 : decode cX8_image 8 = .ok (.new 8, 3) := by decide +kernel
theorem dX8_image_11 : decode cX8_image 11 = .ok (.dup, 1) := by decide +kernel
theorem dX8_image_12 : decode cX8_image 12 = .ok (.invokespecial 251, 3) := by decide +kernel
theorem dX8_image_15 : decode cX8_image 15 = .ok (.putfield 378, 3) := by decide +kernel
theorem dX8_image_18 : decode cX8_image 18 = .ok (.aload_n 0, 1) := by decide +kernel
theorem dX8_image_19 : decode cX8_image 19 = .ok (.getfield 378, 3) := by decide +kernel
theorem dX8_image_22 : decode cX8_image 22 = .ok (.aload_n 0, 1) := by decide +kernel
theorem dX8_image_23 : decode cX8_image 23 = .ok (.invokevirtual 252, 3) := by decide +kernel
theorem dX8_image_26 : decode cX8_image 26 = .ok (.iconst 1, 1) := by decide +kernel
theorem dX8_image_27 : decode cX8_image 27 = .ok (.ireturn, 1) := by decide +kernel
theorem dX8_back_0 : decode cX8_back 0 = .ok (.aload_n 0, 1) := by decide +kernel
theorem dX8_back_1 : decode cX8_back 1 = .ok (.getfield 378, 3) := by decide +kernel
theorem dX8_back_4 : decode cX8_back 4 = .ok (.ifnonnull 10, 3) := by decide +kernel
theorem dX8_back_7 : decode cX8_back 7 = .ok (.aload_n 0, 1) := by decide +kernel
theorem dX8_back_8 : decode cX8_back 8 = .ok (.bipush (-5), 2) := by decide +kernel
theorem dX8_back_10 : decode cX8_back 10 = .ok (.invokevirtual 112, 3) := by decide +kernel
theorem dX8_back_13 : decode cX8_back 13 = .ok (.ireturn, 1) := by decide +kernel
theorem dX8_back_14 : decode cX8_back 14 = .ok (.aload_n 0, 1) := by decide +kernel
theorem dX8_back_15 : decode cX8_back 15 = .ok (.aload_n 0, 1) := by decide +kernel
theorem dX8_back_16 : decode cX8_back 16 = .ok (.getfield 378, 3) := by decide +kernel
theorem dX8_back_19 : decode cX8_back 19 = .ok (.invokevirtual 252, 3) := by decide +kernel
theorem dX8_back_22 : decode cX8_back 22 = .ok (.iconst 0, 1) := by decide +kernel
theorem dX8_back_23 : decode cX8_back 23 = .ok (.istore_n 1, 1) := by decide +kernel
theorem dX8_back_24 : decode cX8_back 24 = .ok (.iload_n 1, 1) := by decide +kernel
theorem dX8_back_25 : decode cX8_back 25 = .ok (.bipush 8, 2) := by decide +kernel
theorem dX8_back_27 : decode cX8_back 27 = .ok (.if_icmp .ge 39, 3) := by decide +kernel
theorem dX8_back_30 : decode cX8_back 30 = .ok (.aload_n 0, 1) := by decide +kernel
theorem dX8_back_31 : decode cX8_back 31 = .ok (.getfield 7, 3) := by decide +kernel
theorem dX8_back_34 : decode cX8_back 34 = .ok (.iload_n 1, 1) := by decide +kernel
theorem dX8_back_35 : decode cX8_back 35 = .ok (.iaload, 1) := by decide +kernel
theorem dX8_back_36 : decode cX8_back 36 = .ok (.iconst 2, 1) := by decide +kernel
theorem dX8_back_37 : decode cX8_back 37 = .ok (.if_icmp .ne 23, 3) := by decide +kernel
theorem dX8_back_40 : decode cX8_back 40 = .ok (.aload_n 0, 1) := by decide +kernel
theorem dX8_back_41 : decode cX8_back 41 = .ok (.getfield 28, 3) := by decide +kernel
theorem dX8_back_44 : decode cX8_back 44 = .ok (.iload_n 1, 1) := by decide +kernel
theorem dX8_back_45 : decode cX8_back 45 = .ok (.iaload, 1) := by decide +kernel
theorem dX8_back_46 : decode cX8_back 46 = .ok (.aload_n 0, 1) := by decide +kernel
theorem dX8_back_47 : decode cX8_back 47 = .ok (.getfield 95, 3) := by decide +kernel
theorem dX8_back_50 : decode cX8_back 50 = .ok (.if_icmp .lt 10, 3) := by decide +kernel
theorem dX8_back_53 : decode cX8_back 53 = .ok (.aload_n 0, 1) := by decide +kernel
theorem dX8_back_54 : decode cX8_back 54 = .ok (.getfield 7, 3) := by decide +kernel
theorem dX8_back_57 : decode cX8_back 57 = .ok (.iload_n 1, 1) := by decide +kernel
theorem dX8_back_58 : decode cX8_back 58 = .ok (.iconst 0, 1) := by decide +kernel
theorem dX8_back_59 : decode cX8_back 59 = .ok (.iastore, 1) := by decide +kernel
theorem dX8_back_60 : decode cX8_back 60 = .ok (.iinc 1 1, 3) := by decide +kernel
theorem dX8_back_63 : decode cX8_back 63 = .ok (.goto (-39), 3) := by decide +kernel
theorem dX8_back_66 : decode cX8_back 66 = .ok (.iconst 1, 1) := by decide +kernel
theorem dX8_back_67 : decode cX8_back 67 = .ok (.ireturn, 1) := by decide +kernel
theorem dX8_status_0 : decode cX8_status 0 = .ok (.iconst 0, 1) := by decide +kernel
theorem dX8_status_1 : decode cX8_status 1 = .ok (.istore_n 2, 1) := by decide +kernel
theorem dX8_status_2 : decode cX8_status 2 = .ok (.iload_n 1, 1) := by decide +kernel
theorem dX8_status_3 : decode cX8_status 3 = .ok (.tableswitch 176 0 11 #[61, 66, 71, 103, 108, 113, 118, 123, 128, 133, 138, 143], 61) := by decide +kernel
theorem dX8_status_64 : decode cX8_status 64 = .ok (.aload_n 0, 1) := by decide +kernel
theorem dX8_status_65 : decode cX8_status 65 = .ok (.getfield 37, 3) := by decide +kernel
theorem dX8_status_68 : decode cX8_status 68 = .ok (.ireturn, 1) := by decide +kernel
theorem dX8_status_69 : decode cX8_status 69 = .ok (.aload_n 0, 1) := by decide +kernel
theorem dX8_status_70 : decode cX8_status 70 = .ok (.getfield 95, 3) := by decide +kernel
theorem dX8_status_73 : decode cX8_status 73 = .ok (.ireturn, 1) := by decide +kernel
theorem dX8_status_74 : decode cX8_status 74 = .ok (.iconst 0, 1) := by decide +kernel
theorem dX8_status_75 : decode cX8_status 75 = .ok (.istore_n 3, 1) := by decide +kernel
theorem dX8_status_76 : decode cX8_status 76 = .ok (.iload_n 3, 1) := by decide +kernel
theorem dX8_status_77 : decode cX8_status 77 = .ok (.aload_n 0, 1) := by decide +kernel
theorem dX8_status_78 : decode cX8_status 78 = .ok (.getfield 95, 3) := by decide +kernel
theorem dX8_status_81 : decode cX8_status 81 = .ok (.if_icmp .ge 21, 3) := by decide +kernel
theorem dX8_status_84 : decode cX8_status 84 = .ok (.iload_n 2, 1) := by decide +kernel
theorem dX8_status_85 : decode cX8_status 85 = .ok (.aload_n 0, 1) := by decide +kernel
theorem dX8_status_86 : decode cX8_status 86 = .ok (.getfield 50, 3) := by decide +kernel
theorem dX8_status_89 : decode cX8_status 89 = .ok (.iload_n 3, 1) := by decide +kernel
theorem dX8_status_90 : decode cX8_status 90 = .ok (.iaload, 1) := by decide +kernel
theorem dX8_status_91 : decode cX8_status 91 = .ok (.invokestatic 132, 3) := by decide +kernel
theorem dX8_status_94 : decode cX8_status 94 = .ok (.iadd, 1) := by decide +kernel
theorem dX8_status_95 : decode cX8_status 95 = .ok (.istore_n 2, 1) := by decide +kernel
theorem dX8_status_96 : decode cX8_status 96 = .ok (.iinc 3 1, 3) := by decide +kernel
theorem dX8_status_99 : decode cX8_status 99 = .ok (.goto (-23), 3) := by decide +kernel
theorem dX8_status_102 : decode cX8_status 102 = .ok (.iload_n 2, 1) := by decide +kernel
theorem dX8_status_103 : decode cX8_status 103 = .ok (.iconst 2, 1) := by decide +kernel
theorem dX8_status_104 : decode cX8_status 104 = .ok (.idiv, 1) := by decide +kernel
theorem dX8_status_105 : decode cX8_status 105 = .ok (.ireturn, 1) := by decide +kernel
theorem dX8_status_106 : decode cX8_status 106 = .ok (.aload_n 0, 1) := by decide +kernel
theorem dX8_status_107 : decode cX8_status 107 = .ok (.getfield 53, 3) := by decide +kernel
theorem dX8_status_110 : decode cX8_status 110 = .ok (.ireturn, 1) := by decide +kernel
theorem dX8_status_111 : decode cX8_status 111 = .ok (.aload_n 0, 1) := by decide +kernel
theorem dX8_status_112 : decode cX8_status 112 = .ok (.getfield 56, 3) := by decide +kernel
theorem dX8_status_115 : decode cX8_status 115 = .ok (.ireturn, 1) := by decide +kernel
theorem dX8_status_116 : decode cX8_status 116 = .ok (.aload_n 0, 1) := by decide +kernel
theorem dX8_status_117 : decode cX8_status 117 = .ok (.getfield 59, 3) := by decide +kernel
theorem dX8_status_120 : decode cX8_status 120 = .ok (.ireturn, 1) := by decide +kernel
theorem dX8_status_121 : decode cX8_status 121 = .ok (.aload_n 0, 1) := by decide +kernel
theorem dX8_status_122 : decode cX8_status 122 = .ok (.getfield 361, 3) := by decide +kernel
theorem dX8_status_125 : decode cX8_status 125 = .ok (.ireturn, 1) := by decide +kernel
theorem dX8_status_126 : decode cX8_status 126 = .ok (.aload_n 0, 1) := by decide +kernel
theorem dX8_status_127 : decode cX8_status 127 = .ok (.getfield 370, 3) := by decide +kernel
theorem dX8_status_130 : decode cX8_status 130 = .ok (.ireturn, 1) := by decide +kernel
theorem dX8_status_131 : decode cX8_status 131 = .ok (.aload_n 0, 1) := by decide +kernel
theorem dX8_status_132 : decode cX8_status 132 = .ok (.getfield 373, 3) := by decide +kernel
theorem dX8_status_135 : decode cX8_status 135 = .ok (.ireturn, 1) := by decide +kernel
theorem dX8_status_136 : decode cX8_status 136 = .ok (.aload_n 0, 1) := by decide +kernel
theorem dX8_status_137 : decode cX8_status 137 = .ok (.getfield 176, 3) := by decide +kernel
theorem dX8_status_140 : decode cX8_status 140 = .ok (.ireturn, 1) := by decide +kernel
theorem dX8_status_141 : decode cX8_status 141 = .ok (.aload_n 0, 1) := by decide +kernel
theorem dX8_status_142 : decode cX8_status 142 = .ok (.getfield 71, 3) := by decide +kernel
theorem dX8_status_145 : decode cX8_status 145 = .ok (.ireturn, 1) := by decide +kernel
theorem dX8_status_146 : decode cX8_status 146 = .ok (.iconst 0, 1) := by decide +kernel
theorem dX8_status_147 : decode cX8_status 147 = .ok (.istore_n 3, 1) := by decide +kernel
theorem dX8_status_148 : decode cX8_status 148 = .ok (.iload_n 3, 1) := by decide +kernel
theorem dX8_status_149 : decode cX8_status 149 = .ok (.bipush 8, 2) := by decide +kernel
theorem dX8_status_151 : decode cX8_status 151 = .ok (.if_icmp .ge 26, 3) := by decide +kernel
theorem dX8_status_154 : decode cX8_status 154 = .ok (.iload_n 2, 1) := by decide +kernel
theorem dX8_status_155 : decode cX8_status 155 = .ok (.aload_n 0, 1) := by decide +kernel
theorem dX8_status_156 : decode cX8_status 156 = .ok (.getfield 7, 3) := by decide +kernel
theorem dX8_status_159 : decode cX8_status 159 = .ok (.iload_n 3, 1) := by decide +kernel
theorem dX8_status_160 : decode cX8_status 160 = .ok (.iaload, 1) := by decide +kernel
theorem dX8_status_161 : decode cX8_status 161 = .ok (.ifCond .eq 7, 3) := by decide +kernel
theorem dX8_status_164 : decode cX8_status 164 = .ok (.iconst 1, 1) := by decide +kernel
theorem dX8_status_165 : decode cX8_status 165 = .ok (.goto 4, 3) := by decide +kernel
theorem dX8_status_168 : decode cX8_status 168 = .ok (.iconst 0, 1) := by decide +kernel
theorem dX8_status_169 : decode cX8_status 169 = .ok (.iadd, 1) := by decide +kernel
theorem dX8_status_170 : decode cX8_status 170 = .ok (.istore_n 2, 1) := by decide +kernel
theorem dX8_status_171 : decode cX8_status 171 = .ok (.iinc 3 1, 3) := by decide +kernel
theorem dX8_status_174 : decode cX8_status 174 = .ok (.goto (-26), 3) := by decide +kernel
theorem dX8_status_177 : decode cX8_status 177 = .ok (.iload_n 2, 1) := by decide +kernel
theorem dX8_status_178 : decode cX8_status 178 = .ok (.ireturn, 1) := by decide +kernel
theorem dX8_status_179 : decode cX8_status 179 = .ok (.iload_n 1, 1) := by decide +kernel
theorem dX8_status_180 : decode cX8_status 180 = .ok (.i2l, 1) := by decide +kernel
theorem dX8_status_181 : decode cX8_status 181 = .ok (.ldc2_w 381, 3) := by decide +kernel
theorem dX8_status_184 : decode cX8_status 184 = .ok (.ldc2_w 383, 3) := by decide +kernel
theorem dX8_status_187 : decode cX8_status 187 = .ok (.invokestatic 98, 3) := by decide +kernel
theorem dX8_status_190 : decode cX8_status 190 = .ok (.ifCond .eq 15, 3) := by decide +kernel
theorem dX8_status_193 : decode cX8_status 193 = .ok (.aload_n 0, 1) := by decide +kernel
theorem dX8_status_194 : decode cX8_status 194 = .ok (.getfield 34, 3) := by decide +kernel
theorem dX8_status_197 : decode cX8_status 197 = .ok (.iload_n 1, 1) := by decide +kernel
theorem dX8_status_198 : decode cX8_status 198 = .ok (.bipush 10, 2) := by decide +kernel
theorem dX8_status_200 : decode cX8_status 200 = .ok (.isub, 1) := by decide +kernel
theorem dX8_status_201 : decode cX8_status 201 = .ok (.iaload, 1) := by decide +kernel
theorem dX8_status_202 : decode cX8_status 202 = .ok (.goto 4, 3) := by decide +kernel
theorem dX8_status_205 : decode cX8_status 205 = .ok (.iconst (-1), 1) := by decide +kernel
theorem dX8_status_206 : decode cX8_status 206 = .ok (.ireturn, 1) := by decide +kernel
