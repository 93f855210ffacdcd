/-! rows that decode each instruction -/
theorem dX7_init_0 : decode cX7_init 0 = .ok (.aload_n 0, 1) := by decide +kernel
theorem dX7_init_1 : decode cX7_init 1 = .ok (.invokespecial 1, 3) := by decide +kernel
theorem dX7_init_4 : decode cX7_init 4 = .ok (.aload_n 0, 1) := by decide +kernel
theorem dX7_init_5 : decode cX7_init 5 = .ok (.new 7, 3) := by decide +kernel
theorem dX7_init_8 : decode cX7_init 8 = .ok (.dup, 1) := by decide +kernel
theorem dX7_init_9 : decode cX7_init 9 = .ok (.invokespecial 9, 3) := by decide +kernel
theorem dX7_init_12 : decode cX7_init 12 = .ok (.putfield 10, 3) := by decide +kernel
theorem dX7_init_15 : decode cX7_init 15 = .ok (.aload_n 0, 1) := by decide +kernel
theorem dX7_init_16 : decode cX7_init 16 = .ok (.new 7, 3) := by decide +kernel
theorem dX7_init_19 : decode cX7_init 19 = .ok (.dup, 1) := by decide +kernel
theorem dX7_init_20 : decode cX7_init 20 = .ok (.invokespecial 9, 3) := by decide +kernel
theorem dX7_init_23 : decode cX7_init 23 = .ok (.putfield 16, 3) := by decide +kernel
theorem dX7_init_26 : decode cX7_init 26 = .ok (.aload_n 0, 1) := by decide +kernel
theorem dX7_init_27 : decode cX7_init 27 = .ok (.new 7, 3) := by decide +kernel
theorem dX7_init_30 : decode cX7_init 30 = .ok (.dup, 1) := by decide +kernel
theorem dX7_init_31 : decode cX7_init 31 = .ok (.invokespecial 9, 3) := by decide +kernel
theorem dX7_init_34 : decode cX7_init 34 = .ok (.putfield 19, 3) := by decide +kernel
theorem dX7_init_37 : decode cX7_init 37 = .ok (.aload_n 0, 1) := by decide +kernel
theorem dX7_init_38 : decode cX7_init 38 = .ok (.new 22, 3) := by decide +kernel
theorem dX7_init_41 : decode cX7_init 41 = .ok (.dup, 1) := by decide +kernel
theorem dX7_init_42 : decode cX7_init 42 = .ok (.invokespecial 24, 3) := by decide +kernel
theorem dX7_init_45 : decode cX7_init 45 = .ok (.putfield 25, 3) := by decide +kernel
theorem dX7_init_48 : decode cX7_init 48 = .ok (.aload_n 0, 1) := by decide +kernel
theorem dX7_init_49 : decode cX7_init 49 = .ok (.new 22, 3) := by decide +kernel
theorem dX7_init_52 : decode cX7_init 52 = .ok (.dup, 1) := by decide +kernel
theorem dX7_init_53 : decode cX7_init 53 = .ok (.invokespecial 24, 3) := by decide +kernel
theorem dX7_init_56 : decode cX7_init 56 = .ok (.putfield 29, 3) := by decide +kernel
theorem dX7_init_59 : decode cX7_init 59 = .ok (.aload_n 0, 1) := by decide +kernel
theorem dX7_init_60 : decode cX7_init 60 = .ok (.iconst 0, 1) := by decide +kernel
theorem dX7_init_61 : decode cX7_init 61 = .ok (.putfield 32, 3) := by decide +kernel
theorem dX7_init_64 : decode cX7_init 64 = .ok (.aload_n 0, 1) := by decide +kernel
theorem dX7_init_65 : decode cX7_init 65 = .ok (.bipush 8, 2) := by decide +kernel
theorem dX7_init_67 : decode cX7_init 67 = .ok (.anewarray 36, 3) := by decide +kernel
theorem dX7_init_70 : decode cX7_init 70 = .ok (.putfield 38, 3) := by decide +kernel
theorem dX7_init_73 : decode cX7_init 73 = .ok (.aload_n 0, 1) := by decide +kernel
theorem dX7_init_74 : decode cX7_init 74 = .ok (.new 42, 3) := by decide +kernel
theorem dX7_init_77 : decode cX7_init 77 = .ok (.dup, 1) := by decide +kernel
theorem dX7_init_78 : decode cX7_init 78 = .ok (.invokespecial 44, 3) := by decide +kernel
theorem dX7_init_81 : decode cX7_init 81 = .ok (.putfield 45, 3) := by decide +kernel
theorem dX7_init_84 : decode cX7_init 84 = .ok (.aload_n 0, 1) := by decide +kernel
theorem dX7_init_85 : decode cX7_init 85 = .ok (.new 49, 3) := by decide +kernel
theorem dX7_init_88 : decode cX7_init 88 = .ok (.dup, 1) := by decide +kernel
theorem dX7_init_89 : decode cX7_init 89 = .ok (.aload_n 0, 1) := by decide +kernel
theorem dX7_init_90 : decode cX7_init 90 = .ok (.getfield 45, 3) := by decide +kernel
theorem dX7_init_93 : decode cX7_init 93 = .ok (.aload_n 0, 1) := by decide +kernel
theorem dX7_init_94 : decode cX7_init 94 = .ok (.getfield 16, 3) := by decide +kernel
theorem dX7_init_97 : decode cX7_init 97 = .ok (.invokespecial 51, 3) := by decide +kernel
theorem dX7_init_100 : decode cX7_init 100 = .ok (.putfield 54, 3) := by decide +kernel
theorem dX7_init_103 : decode cX7_init 103 = .ok (.aload_n 0, 1) := by decide +kernel
theorem dX7_init_104 : decode cX7_init 104 = .ok (.new 58, 3) := by decide +kernel
theorem dX7_init_107 : decode cX7_init 107 = .ok (.dup, 1) := by decide +kernel
theorem dX7_init_108 : decode cX7_init 108 = .ok (.invokespecial 60, 3) := by decide +kernel
theorem dX7_init_111 : decode cX7_init 111 = .ok (.putfield 61, 3) := by decide +kernel
theorem dX7_init_114 : decode cX7_init 114 = .ok (.aload_n 0, 1) := by decide +kernel
theorem dX7_init_115 : decode cX7_init 115 = .ok (.new 58, 3) := by decide +kernel
theorem dX7_init_118 : decode cX7_init 118 = .ok (.dup, 1) := by decide +kernel
theorem dX7_init_119 : decode cX7_init 119 = .ok (.invokespecial 60, 3) := by decide +kernel
theorem dX7_init_122 : decode cX7_init 122 = .ok (.putfield 65, 3) := by decide +kernel
theorem dX7_init_125 : decode cX7_init 125 = .ok (.aload_n 0, 1) := by decide +kernel
theorem dX7_init_126 : decode cX7_init 126 = .ok (.new 68, 3) := by decide +kernel
theorem dX7_init_129 : decode cX7_init 129 = .ok (.dup, 1) := by decide +kernel
theorem dX7_init_130 : decode cX7_init 130 = .ok (.invokespecial 70, 3) := by decide +kernel
theorem dX7_init_133 : decode cX7_init 133 = .ok (.putfield 71, 3) := by decide +kernel
theorem dX7_init_136 : decode cX7_init 136 = .ok (.aload_n 0, 1) := by decide +kernel
theorem dX7_init_137 : decode cX7_init 137 = .ok (.iconst 5, 1) := by decide +kernel
theorem dX7_init_138 : decode cX7_init 138 = .ok (.newarray .int, 2) := by decide +kernel
theorem dX7_init_140 : decode cX7_init 140 = .ok (.putfield 75, 3) := by decide +kernel
theorem dX7_init_143 : decode cX7_init 143 = .ok (.iconst 0, 1) := by decide +kernel
theorem dX7_init_144 : decode cX7_init 144 = .ok (.istore_n 1, 1) := by decide +kernel
theorem dX7_init_145 : decode cX7_init 145 = .ok (.iload_n 1, 1) := by decide +kernel
theorem dX7_init_146 : decode cX7_init 146 = .ok (.bipush 8, 2) := by decide +kernel
theorem dX7_init_148 : decode cX7_init 148 = .ok (.if_icmp .ge 22, 3) := by decide +kernel
theorem dX7_init_151 : decode cX7_init 151 = .ok (.aload_n 0, 1) := by decide +kernel
theorem dX7_init_152 : decode cX7_init 152 = .ok (.getfield 38, 3) := by decide +kernel
theorem dX7_init_155 : decode cX7_init 155 = .ok (.iload_n 1, 1) := by decide +kernel
theorem dX7_init_156 : decode cX7_init 156 = .ok (.new 36, 3) := by decide +kernel
theorem dX7_init_159 : decode cX7_init 159 = .ok (.dup, 1) := by decide +kernel
theorem dX7_init_160 : decode cX7_init 160 = .ok (.invokespecial 79, 3) := by decide +kernel
theorem dX7_init_163 : decode cX7_init 163 = .ok (.aastore, 1) := by decide +kernel
theorem dX7_init_164 : decode cX7_init 164 = .ok (.iinc 1 1, 3) := by decide +kernel
theorem dX7_init_167 : decode cX7_init 167 = .ok (.goto (-22), 3) := by decide +kernel
theorem dX7_init_170 : decode cX7_init 170 = .ok (.return_, 1) := by decide +kernel
theorem dX7_row_0 : decode cX7_row 0 = .ok (.iload_n 1, 1) := by decide +kernel
theorem dX7_row_1 : decode cX7_row 1 = .ok (.invokestatic 80, 3) := by decide +kernel
theorem dX7_row_4 : decode cX7_row 4 = .ok (.ifCond .eq 22, 3) := by decide +kernel
theorem dX7_row_7 : decode cX7_row 7 = .ok (.iload_n 2, 1) := by decide +kernel
theorem dX7_row_8 : decode cX7_row 8 = .ok (.ifCond .lt 18, 3) := by decide +kernel
theorem dX7_row_11 : decode cX7_row 11 = .ok (.iload_n 2, 1) := by decide +kernel
theorem dX7_row_12 : decode cX7_row 12 = .ok (.iconst 4, 1) := by decide +kernel
theorem dX7_row_13 : decode cX7_row 13 = .ok (.if_icmp .gt 13, 3) := by decide +kernel
theorem dX7_row_16 : decode cX7_row 16 = .ok (.iload_n 3, 1) := by decide +kernel
theorem dX7_row_17 : decode cX7_row 17 = .ok (.ifCond .lt 9, 3) := by decide +kernel
theorem dX7_row_20 : decode cX7_row 20 = .ok (.iload_n 3, 1) := by decide +kernel
theorem dX7_row_21 : decode cX7_row 21 = .ok (.bipush 40, 2) := by decide +kernel
theorem dX7_row_23 : decode cX7_row 23 = .ok (.if_icmp .le 10, 3) := by decide +kernel
theorem dX7_row_26 : decode cX7_row 26 = .ok (.aload_n 0, 1) := by decide +kernel
theorem dX7_row_27 : decode cX7_row 27 = .ok (.bipush (-2), 2) := by decide +kernel
theorem dX7_row_29 : decode cX7_row 29 = .ok (.invokevirtual 84, 3) := by decide +kernel
theorem dX7_row_32 : decode cX7_row 32 = .ok (.ireturn, 1) := by decide +kernel
theorem dX7_row_33 : decode cX7_row 33 = .ok (.aload_n 0, 1) := by decide +kernel
theorem dX7_row_34 : decode cX7_row 34 = .ok (.getfield 38, 3) := by decide +kernel
theorem dX7_row_37 : decode cX7_row 37 = .ok (.iload_n 1, 1) := by decide +kernel
theorem dX7_row_38 : decode cX7_row 38 = .ok (.aaload, 1) := by decide +kernel
theorem dX7_row_39 : decode cX7_row 39 = .ok (.iload_n 2, 1) := by decide +kernel
theorem dX7_row_40 : decode cX7_row 40 = .ok (.iload_n 3, 1) := by decide +kernel
theorem dX7_row_41 : decode cX7_row 41 = .ok (.invokevirtual 88, 3) := by decide +kernel
theorem dX7_row_44 : decode cX7_row 44 = .ok (.iconst 1, 1) := by decide +kernel
theorem dX7_row_45 : decode cX7_row 45 = .ok (.ireturn, 1) := by decide +kernel
theorem dX7_set_0 : decode cX7_set 0 = .ok (.iload_n 1, 1) := by decide +kernel
theorem dX7_set_1 : decode cX7_set 1 = .ok (.invokestatic 80, 3) := by decide +kernel
theorem dX7_set_4 : decode cX7_set 4 = .ok (.ifCond .ne 10, 3) := by decide +kernel
theorem dX7_set_7 : decode cX7_set 7 = .ok (.aload_n 0, 1) := by decide +kernel
theorem dX7_set_8 : decode cX7_set 8 = .ok (.bipush (-2), 2) := by decide +kernel
theorem dX7_set_10 : decode cX7_set 10 = .ok (.invokevirtual 84, 3) := by decide +kernel
theorem dX7_set_13 : decode cX7_set 13 = .ok (.ireturn, 1) := by decide +kernel
theorem dX7_set_14 : decode cX7_set 14 = .ok (.aload_n 0, 1) := by decide +kernel
theorem dX7_set_15 : decode cX7_set 15 = .ok (.iload_n 1, 1) := by decide +kernel
theorem dX7_set_16 : decode cX7_set 16 = .ok (.invokevirtual 92, 3) := by decide +kernel
theorem dX7_set_19 : decode cX7_set 19 = .ok (.istore 5, 2) := by decide +kernel
theorem dX7_set_21 : decode cX7_set 21 = .ok (.iload 5, 2) := by decide +kernel
theorem dX7_set_23 : decode cX7_set 23 = .ok (.ifCond .eq 10, 3) := by decide +kernel
theorem dX7_set_26 : decode cX7_set 26 = .ok (.aload_n 0, 1) := by decide +kernel
theorem dX7_set_27 : decode cX7_set 27 = .ok (.iload 5, 2) := by decide +kernel
theorem dX7_set_29 : decode cX7_set 29 = .ok (.invokevirtual 84, 3) := by decide +kernel
theorem dX7_set_32 : decode cX7_set 32 = .ok (.ireturn, 1) := by decide +kernel
theorem dX7_set_33 : decode cX7_set 33 = .ok (.iload_n 2, 1) := by decide +kernel
theorem dX7_set_34 : decode cX7_set 34 = .ok (.ifCond .lt 16, 3) := by decide +kernel
theorem dX7_set_37 : decode cX7_set 37 = .ok (.iload_n 2, 1) := by decide +kernel
theorem dX7_set_38 : decode cX7_set 38 = .ok (.aload_n 0, 1) := by decide +kernel
theorem dX7_set_39 : decode cX7_set 39 = .ok (.getfield 38, 3) := by decide +kernel
theorem dX7_set_42 : decode cX7_set 42 = .ok (.iload_n 1, 1) := by decide +kernel
theorem dX7_set_43 : decode cX7_set 43 = .ok (.aaload, 1) := by decide +kernel
theorem dX7_set_44 : decode cX7_set 44 = .ok (.getfield 95, 3) := by decide +kernel
theorem dX7_set_47 : decode cX7_set 47 = .ok (.if_icmp .lt 10, 3) := by decide +kernel
theorem dX7_set_50 : decode cX7_set 50 = .ok (.aload_n 0, 1) := by decide +kernel
theorem dX7_set_51 : decode cX7_set 51 = .ok (.bipush (-2), 2) := by decide +kernel
theorem dX7_set_53 : decode cX7_set 53 = .ok (.invokevirtual 84, 3) := by decide +kernel
theorem dX7_set_56 : decode cX7_set 56 = .ok (.ireturn, 1) := by decide +kernel
theorem dX7_set_57 : decode cX7_set 57 = .ok (.aload_n 0, 1) := by decide +kernel
theorem dX7_set_58 : decode cX7_set 58 = .ok (.getfield 38, 3) := by decide +kernel
theorem dX7_set_61 : decode cX7_set 61 = .ok (.iload_n 1, 1) := by decide +kernel
theorem dX7_set_62 : decode cX7_set 62 = .ok (.aaload, 1) := by decide +kernel
theorem dX7_set_63 : decode cX7_set 63 = .ok (.iload_n 2, 1) := by decide +kernel
theorem dX7_set_64 : decode cX7_set 64 = .ok (.lload_n 3, 1) := by decide +kernel
theorem dX7_set_65 : decode cX7_set 65 = .ok (.invokevirtual 99, 3) := by decide +kernel
theorem dX7_set_68 : decode cX7_set 68 = .ok (.iconst 1, 1) := by decide +kernel
theorem dX7_set_69 : decode cX7_set 69 = .ok (.ireturn, 1) := by decide +kernel
theorem dX7_copy_0 : decode cX7_copy 0 = .ok (.iload_n 1, 1) := by decide +kernel
theorem dX7_copy_1 : decode cX7_copy 1 = .ok (.invokestatic 80, 3) := by decide +kernel
theorem dX7_copy_4 : decode cX7_copy 4 = .ok (.ifCond .eq 10, 3) := by decide +kernel
theorem dX7_copy_7 : decode cX7_copy 7 = .ok (.iload_n 2, 1) := by decide +kernel
theorem dX7_copy_8 : decode cX7_copy 8 = .ok (.invokestatic 80, 3) := by decide +kernel
theorem dX7_copy_11 : decode cX7_copy 11 = .ok (.ifCond .ne 10, 3) := by decide +kernel
theorem dX7_copy_14 : decode cX7_copy 14 = .ok (.aload_n 0, 1) := by decide +kernel
theorem dX7_copy_15 : decode cX7_copy 15 = .ok (.bipush (-2), 2) := by decide +kernel
theorem dX7_copy_17 : decode cX7_copy 17 = .ok (.invokevirtual 84, 3) := by decide +kernel
theorem dX7_copy_20 : decode cX7_copy 20 = .ok (.ireturn, 1) := by decide +kernel
theorem dX7_copy_21 : decode cX7_copy 21 = .ok (.aload_n 0, 1) := by decide +kernel
theorem dX7_copy_22 : decode cX7_copy 22 = .ok (.getfield 38, 3) := by decide +kernel
theorem dX7_copy_25 : decode cX7_copy 25 = .ok (.iload_n 1, 1) := by decide +kernel
theorem dX7_copy_26 : decode cX7_copy 26 = .ok (.aaload, 1) := by decide +kernel
theorem dX7_copy_27 : decode cX7_copy 27 = .ok (.astore 6, 2) := by decide +kernel
theorem dX7_copy_29 : decode cX7_copy 29 = .ok (.aload_n 0, 1) := by decide +kernel
theorem dX7_copy_30 : decode cX7_copy 30 = .ok (.getfield 38, 3) := by decide +kernel
theorem dX7_copy_33 : decode cX7_copy 33 = .ok (.iload_n 2, 1) := by decide +kernel
theorem dX7_copy_34 : decode cX7_copy 34 = .ok (.aaload, 1) := by decide +kernel
theorem dX7_copy_35 : decode cX7_copy 35 = .ok (.astore 7, 2) := by decide +kernel
theorem dX7_copy_37 : decode cX7_copy 37 = .ok (.aload 6, 2) := by decide +kernel
theorem dX7_copy_39 : decode cX7_copy 39 = .ok (.invokevirtual 103, 3) := by decide +kernel
theorem dX7_copy_42 : decode cX7_copy 42 = .ok (.ifCond .eq 31, 3) := by decide +kernel
theorem dX7_copy_45 : decode cX7_copy 45 = .ok (.aload 7, 2) := by decide +kernel
theorem dX7_copy_47 : decode cX7_copy 47 = .ok (.invokevirtual 103, 3) := by decide +kernel
theorem dX7_copy_50 : decode cX7_copy 50 = .ok (.ifCond .eq 23, 3) := by decide +kernel
theorem dX7_copy_53 : decode cX7_copy 53 = .ok (.aload 6, 2) := by decide +kernel
theorem dX7_copy_55 : decode cX7_copy 55 = .ok (.getfield 107, 3) := by decide +kernel
theorem dX7_copy_58 : decode cX7_copy 58 = .ok (.aload 7, 2) := by decide +kernel
theorem dX7_copy_60 : decode cX7_copy 60 = .ok (.getfield 107, 3) := by decide +kernel
theorem dX7_copy_63 : decode cX7_copy 63 = .ok (.if_icmp .eq 10, 3) := by decide +kernel
theorem dX7_copy_66 : decode cX7_copy 66 = .ok (.aload_n 0, 1) := by decide +kernel
theorem dX7_copy_67 : decode cX7_copy 67 = .ok (.bipush (-3), 2) := by decide +kernel
theorem dX7_copy_69 : decode cX7_copy 69 = .ok (.invokevirtual 84, 3) := by decide +kernel
theorem dX7_copy_72 : decode cX7_copy 72 = .ok (.ireturn, 1) := by decide +kernel
theorem dX7_copy_73 : decode cX7_copy 73 = .ok (.aload_n 0, 1) := by decide +kernel
theorem dX7_copy_74 : decode cX7_copy 74 = .ok (.iload_n 1, 1) := by decide +kernel
theorem dX7_copy_75 : decode cX7_copy 75 = .ok (.iload_n 2, 1) := by decide +kernel
theorem dX7_copy_76 : decode cX7_copy 76 = .ok (.invokevirtual 110, 3) := by decide +kernel
theorem dX7_copy_79 : decode cX7_copy 79 = .ok (.istore 8, 2) := by decide +kernel
theorem dX7_copy_81 : decode cX7_copy 81 = .ok (.iload 8, 2) := by decide +kernel
theorem dX7_copy_83 : decode cX7_copy 83 = .ok (.ifCond .eq 10, 3) := by decide +kernel
theorem dX7_copy_86 : decode cX7_copy 86 = .ok (.aload_n 0, 1) := by decide +kernel
theorem dX7_copy_87 : decode cX7_copy 87 = .ok (.iload 8, 2) := by decide +kernel
theorem dX7_copy_89 : decode cX7_copy 89 = .ok (.invokevirtual 84, 3) := by decide +kernel
theorem dX7_copy_92 : decode cX7_copy 92 = .ok (.ireturn, 1) := by decide +kernel
theorem dX7_copy_93 : decode cX7_copy 93 = .ok (.aload 6, 2) := by decide +kernel
theorem dX7_copy_95 : decode cX7_copy 95 = .ok (.iload_n 3, 1) := by decide +kernel
theorem dX7_copy_96 : decode cX7_copy 96 = .ok (.iload 5, 2) := by decide +kernel
theorem dX7_copy_98 : decode cX7_copy 98 = .ok (.invokevirtual 114, 3) := by decide +kernel
theorem dX7_copy_101 : decode cX7_copy 101 = .ok (.ifCond .eq 15, 3) := by decide +kernel
theorem dX7_copy_104 : decode cX7_copy 104 = .ok (.aload 7, 2) := by decide +kernel
theorem dX7_copy_106 : decode cX7_copy 106 = .ok (.iload 4, 2) := by decide +kernel
theorem dX7_copy_108 : decode cX7_copy 108 = .ok (.iload 5, 2) := by decide +kernel
theorem dX7_copy_110 : decode cX7_copy 110 = .ok (.invokevirtual 114, 3) := by decide +kernel
theorem dX7_copy_113 : decode cX7_copy 113 = .ok (.ifCond .ne 10, 3) := by decide +kernel
theorem dX7_copy_116 : decode cX7_copy 116 = .ok (.aload_n 0, 1) := by decide +kernel
theorem dX7_copy_117 : decode cX7_copy 117 = .ok (.bipush (-2), 2) := by decide +kernel
theorem dX7_copy_119 : decode cX7_copy 119 = .ok (.invokevirtual 84, 3) := by decide +kernel
theorem dX7_copy_122 : decode cX7_copy 122 = .ok (.ireturn, 1) := by decide +kernel
theorem dX7_copy_123 : decode cX7_copy 123 = .ok (.aload 6, 2) := by decide +kernel
theorem dX7_copy_125 : decode cX7_copy 125 = .ok (.getfield 118, 3) := by decide +kernel
theorem dX7_copy_128 : decode cX7_copy 128 = .ok (.iload_n 3, 1) := by decide +kernel
theorem dX7_copy_129 : decode cX7_copy 129 = .ok (.aload 7, 2) := by decide +kernel
theorem dX7_copy_131 : decode cX7_copy 131 = .ok (.getfield 118, 3) := by decide +kernel
theorem dX7_copy_134 : decode cX7_copy 134 = .ok (.iload 4, 2) := by decide +kernel
theorem dX7_copy_136 : decode cX7_copy 136 = .ok (.iload 5, 2) := by decide +kernel
theorem dX7_copy_138 : decode cX7_copy 138 = .ok (.invokestatic 122, 3) := by decide +kernel
theorem dX7_copy_141 : decode cX7_copy 141 = .ok (.iload 5, 2) := by decide +kernel
theorem dX7_copy_143 : decode cX7_copy 143 = .ok (.ireturn, 1) := by decide +kernel
theorem dX7_element_0 : decode cX7_element 0 = .ok (.iload_n 1, 1) := by decide +kernel
theorem dX7_element_1 : decode cX7_element 1 = .ok (.invokestatic 80, 3) := by decide +kernel
theorem dX7_element_4 : decode cX7_element 4 = .ok (.ifCond .eq 28, 3) := by decide +kernel
theorem dX7_element_7 : decode cX7_element 7 = .ok (.aload_n 0, 1) := by decide +kernel
theorem dX7_element_8 : decode cX7_element 8 = .ok (.getfield 38, 3) := by decide +kernel
theorem dX7_element_11 : decode cX7_element 11 = .ok (.iload_n 1, 1) := by decide +kernel
theorem dX7_element_12 : decode cX7_element 12 = .ok (.aaload, 1) := by decide +kernel
theorem dX7_element_13 : decode cX7_element 13 = .ok (.invokevirtual 103, 3) := by decide +kernel
theorem dX7_element_16 : decode cX7_element 16 = .ok (.ifCond .eq 16, 3) := by decide +kernel
theorem dX7_element_19 : decode cX7_element 19 = .ok (.aload_n 0, 1) := by decide +kernel
theorem dX7_element_20 : decode cX7_element 20 = .ok (.getfield 38, 3) := by decide +kernel
theorem dX7_element_23 : decode cX7_element 23 = .ok (.iload_n 1, 1) := by decide +kernel
theorem dX7_element_24 : decode cX7_element 24 = .ok (.aaload, 1) := by decide +kernel
theorem dX7_element_25 : decode cX7_element 25 = .ok (.iload_n 2, 1) := by decide +kernel
theorem dX7_element_26 : decode cX7_element 26 = .ok (.invokevirtual 128, 3) := by decide +kernel
theorem dX7_element_29 : decode cX7_element 29 = .ok (.goto 4, 3) := by decide +kernel
theorem dX7_element_32 : decode cX7_element 32 = .ok (.lconst 0, 1) := by decide +kernel
theorem dX7_element_33 : decode cX7_element 33 = .ok (.lreturn, 1) := by decide +kernel
theorem dX7_holds_0 : decode cX7_holds 0 = .ok (.iload_n 1, 1) := by decide +kernel
theorem dX7_holds_1 : decode cX7_holds 1 = .ok (.invokestatic 80, 3) := by decide +kernel
theorem dX7_holds_4 : decode cX7_holds 4 = .ok (.ifCond .eq 15, 3) := by decide +kernel
theorem dX7_holds_7 : decode cX7_holds 7 = .ok (.aload_n 0, 1) := by decide +kernel
theorem dX7_holds_8 : decode cX7_holds 8 = .ok (.getfield 38, 3) := by decide +kernel
theorem dX7_holds_11 : decode cX7_holds 11 = .ok (.iload_n 1, 1) := by decide +kernel
theorem dX7_holds_12 : decode cX7_holds 12 = .ok (.aaload, 1) := by decide +kernel
theorem dX7_holds_13 : decode cX7_holds 13 = .ok (.getfield 107, 3) := by decide +kernel
theorem dX7_holds_16 : decode cX7_holds 16 = .ok (.goto 4, 3) := by decide +kernel
theorem dX7_holds_19 : decode cX7_holds 19 = .ok (.iconst (-1), 1) := by decide +kernel
theorem dX7_holds_20 : decode cX7_holds 20 = .ok (.ireturn, 1) := by decide +kernel
theorem dX7_show_0 : decode cX7_show 0 = .ok (.iload_n 1, 1) := by decide +kernel
theorem dX7_show_1 : decode cX7_show 1 = .ok (.invokestatic 80, 3) := by decide +kernel
theorem dX7_show_4 : decode cX7_show 4 = .ok (.ifCond .eq 19, 3) := by decide +kernel
theorem dX7_show_7 : decode cX7_show 7 = .ok (.iload_n 2, 1) := by decide +kernel
theorem dX7_show_8 : decode cX7_show 8 = .ok (.iconst (-1), 1) := by decide +kernel
theorem dX7_show_9 : decode cX7_show 9 = .ok (.if_icmp .eq 21, 3) := by decide +kernel
theorem dX7_show_12 : decode cX7_show 12 = .ok (.aload_n 0, 1) := by decide +kernel
theorem dX7_show_13 : decode cX7_show 13 = .ok (.getfield 10, 3) := by decide +kernel
theorem dX7_show_16 : decode cX7_show 16 = .ok (.iload_n 2, 1) := by decide +kernel
theorem dX7_show_17 : decode cX7_show 17 = .ok (.invokevirtual 132, 3) := by decide +kernel
theorem dX7_show_20 : decode cX7_show 20 = .ok (.ifCond .ne 10, 3) := by decide +kernel
theorem dX7_show_23 : decode cX7_show 23 = .ok (.aload_n 0, 1) := by decide +kernel
theorem dX7_show_24 : decode cX7_show 24 = .ok (.bipush (-2), 2) := by decide +kernel
theorem dX7_show_26 : decode cX7_show 26 = .ok (.invokevirtual 84, 3) := by decide +kernel
theorem dX7_show_29 : decode cX7_show 29 = .ok (.ireturn, 1) := by decide +kernel
theorem dX7_show_30 : decode cX7_show 30 = .ok (.aload_n 0, 1) := by decide +kernel
theorem dX7_show_31 : decode cX7_show 31 = .ok (.getfield 38, 3) := by decide +kernel
theorem dX7_show_34 : decode cX7_show 34 = .ok (.iload_n 1, 1) := by decide +kernel
theorem dX7_show_35 : decode cX7_show 35 = .ok (.aaload, 1) := by decide +kernel
theorem dX7_show_36 : decode cX7_show 36 = .ok (.iload_n 2, 1) := by decide +kernel
theorem dX7_show_37 : decode cX7_show 37 = .ok (.invokevirtual 135, 3) := by decide +kernel
theorem dX7_show_40 : decode cX7_show 40 = .ok (.iconst 1, 1) := by decide +kernel
theorem dX7_show_41 : decode cX7_show 41 = .ok (.ireturn, 1) := by decide +kernel
theorem dX7_says_0 : decode cX7_says 0 = .ok (.iload_n 1, 1) := by decide +kernel
theorem dX7_says_1 : decode cX7_says 1 = .ok (.invokestatic 80, 3) := by decide +kernel
theorem dX7_says_4 : decode cX7_says 4 = .ok (.ifCond .eq 10, 3) := by decide +kernel
theorem dX7_says_7 : decode cX7_says 7 = .ok (.iload_n 2, 1) := by decide +kernel
theorem dX7_says_8 : decode cX7_says 8 = .ok (.invokestatic 139, 3) := by decide +kernel
theorem dX7_says_11 : decode cX7_says 11 = .ok (.ifCond .ne 10, 3) := by decide +kernel
theorem dX7_says_14 : decode cX7_says 14 = .ok (.aload_n 0, 1) := by decide +kernel
theorem dX7_says_15 : decode cX7_says 15 = .ok (.bipush (-2), 2) := by decide +kernel
theorem dX7_says_17 : decode cX7_says 17 = .ok (.invokevirtual 84, 3) := by decide +kernel
theorem dX7_says_20 : decode cX7_says 20 = .ok (.ireturn, 1) := by decide +kernel
theorem dX7_says_21 : decode cX7_says 21 = .ok (.aload_n 0, 1) := by decide +kernel
theorem dX7_says_22 : decode cX7_says 22 = .ok (.getfield 38, 3) := by decide +kernel
theorem dX7_says_25 : decode cX7_says 25 = .ok (.iload_n 1, 1) := by decide +kernel
theorem dX7_says_26 : decode cX7_says 26 = .ok (.aaload, 1) := by decide +kernel
theorem dX7_says_27 : decode cX7_says 27 = .ok (.invokevirtual 103, 3) := by decide +kernel
theorem dX7_says_30 : decode cX7_says 30 = .ok (.ifCond .eq 10, 3) := by decide +kernel
theorem dX7_says_33 : decode cX7_says 33 = .ok (.aload_n 0, 1) := by decide +kernel
theorem dX7_says_34 : decode cX7_says 34 = .ok (.bipush (-3), 2) := by decide +kernel
theorem dX7_says_36 : decode cX7_says 36 = .ok (.invokevirtual 84, 3) := by decide +kernel
theorem dX7_says_39 : decode cX7_says 39 = .ok (.ireturn, 1) := by decide +kernel
theorem dX7_says_40 : decode cX7_says 40 = .ok (.aload_n 0, 1) := by decide +kernel
theorem dX7_says_41 : decode cX7_says 41 = .ok (.getfield 38, 3) := by decide +kernel
theorem dX7_says_44 : decode cX7_says 44 = .ok (.iload_n 1, 1) := by decide +kernel
theorem dX7_says_45 : decode cX7_says 45 = .ok (.aaload, 1) := by decide +kernel
theorem dX7_says_46 : decode cX7_says 46 = .ok (.invokevirtual 142, 3) := by decide +kernel
theorem dX7_says_49 : decode cX7_says 49 = .ok (.ifCond .ne 10, 3) := by decide +kernel
theorem dX7_says_52 : decode cX7_says 52 = .ok (.aload_n 0, 1) := by decide +kernel
theorem dX7_says_53 : decode cX7_says 53 = .ok (.bipush (-4), 2) := by decide +kernel
theorem dX7_says_55 : decode cX7_says 55 = .ok (.invokevirtual 84, 3) := by decide +kernel
theorem dX7_says_58 : decode cX7_says 58 = .ok (.ireturn, 1) := by decide +kernel
theorem dX7_says_59 : decode cX7_says 59 = .ok (.aload_n 0, 1) := by decide +kernel
theorem dX7_says_60 : decode cX7_says 60 = .ok (.getfield 38, 3) := by decide +kernel
theorem dX7_says_63 : decode cX7_says 63 = .ok (.iload_n 1, 1) := by decide +kernel
theorem dX7_says_64 : decode cX7_says 64 = .ok (.aaload, 1) := by decide +kernel
theorem dX7_says_65 : decode cX7_says 65 = .ok (.invokevirtual 145, 3) := by decide +kernel
theorem dX7_says_68 : decode cX7_says 68 = .ok (.istore_n 3, 1) := by decide +kernel
theorem dX7_says_69 : decode cX7_says 69 = .ok (.aload_n 0, 1) := by decide +kernel
theorem dX7_says_70 : decode cX7_says 70 = .ok (.getfield 10, 3) := by decide +kernel
theorem dX7_says_73 : decode cX7_says 73 = .ok (.iload_n 3, 1) := by decide +kernel
theorem dX7_says_74 : decode cX7_says 74 = .ok (.invokevirtual 149, 3) := by decide +kernel
theorem dX7_says_77 : decode cX7_says 77 = .ok (.iload_n 2, 1) := by decide +kernel
theorem dX7_says_78 : decode cX7_says 78 = .ok (.invokestatic 152, 3) := by decide +kernel
theorem dX7_says_81 : decode cX7_says 81 = .ok (.ifCond .ne 10, 3) := by decide +kernel
theorem dX7_says_84 : decode cX7_says 84 = .ok (.aload_n 0, 1) := by decide +kernel
theorem dX7_says_85 : decode cX7_says 85 = .ok (.bipush (-3), 2) := by decide +kernel
theorem dX7_says_87 : decode cX7_says 87 = .ok (.invokevirtual 84, 3) := by decide +kernel
theorem dX7_says_90 : decode cX7_says 90 = .ok (.ireturn, 1) := by decide +kernel
theorem dX7_says_91 : decode cX7_says 91 = .ok (.aload_n 0, 1) := by decide +kernel
theorem dX7_says_92 : decode cX7_says 92 = .ok (.iload_n 3, 1) := by decide +kernel
theorem dX7_says_93 : decode cX7_says 93 = .ok (.iload_n 2, 1) := by decide +kernel
theorem dX7_says_94 : decode cX7_says 94 = .ok (.invokevirtual 155, 3) := by decide +kernel
theorem dX7_says_97 : decode cX7_says 97 = .ok (.ireturn, 1) := by decide +kernel
theorem dX7_rows_0 : decode cX7_rows 0 = .ok (.iload_n 1, 1) := by decide +kernel
theorem dX7_rows_1 : decode cX7_rows 1 = .ok (.invokestatic 158, 3) := by decide +kernel
theorem dX7_rows_4 : decode cX7_rows 4 = .ok (.ifCond .ne 10, 3) := by decide +kernel
theorem dX7_rows_7 : decode cX7_rows 7 = .ok (.aload_n 0, 1) := by decide +kernel
theorem dX7_rows_8 : decode cX7_rows 8 = .ok (.bipush (-2), 2) := by decide +kernel
theorem dX7_rows_10 : decode cX7_rows 10 = .ok (.invokevirtual 84, 3) := by decide +kernel
theorem dX7_rows_13 : decode cX7_rows 13 = .ok (.ireturn, 1) := by decide +kernel
theorem dX7_rows_14 : decode cX7_rows 14 = .ok (.aload_n 0, 1) := by decide +kernel
theorem dX7_rows_15 : decode cX7_rows 15 = .ok (.getfield 10, 3) := by decide +kernel
theorem dX7_rows_18 : decode cX7_rows 18 = .ok (.getfield 161, 3) := by decide +kernel
theorem dX7_rows_21 : decode cX7_rows 21 = .ok (.ifCond .le 10, 3) := by decide +kernel
theorem dX7_rows_24 : decode cX7_rows 24 = .ok (.aload_n 0, 1) := by decide +kernel
theorem dX7_rows_25 : decode cX7_rows 25 = .ok (.bipush (-5), 2) := by decide +kernel
theorem dX7_rows_27 : decode cX7_rows 27 = .ok (.invokevirtual 84, 3) := by decide +kernel
theorem dX7_rows_30 : decode cX7_rows 30 = .ok (.ireturn, 1) := by decide +kernel
theorem dX7_rows_31 : decode cX7_rows 31 = .ok (.aload_n 0, 1) := by decide +kernel
theorem dX7_rows_32 : decode cX7_rows 32 = .ok (.getfield 10, 3) := by decide +kernel
theorem dX7_rows_35 : decode cX7_rows 35 = .ok (.getfield 164, 3) := by decide +kernel
theorem dX7_rows_38 : decode cX7_rows 38 = .ok (.istore_n 2, 1) := by decide +kernel
theorem dX7_rows_39 : decode cX7_rows 39 = .ok (.aload_n 0, 1) := by decide +kernel
theorem dX7_rows_40 : decode cX7_rows 40 = .ok (.getfield 10, 3) := by decide +kernel
theorem dX7_rows_43 : decode cX7_rows 43 = .ok (.iload_n 1, 1) := by decide +kernel
theorem dX7_rows_44 : decode cX7_rows 44 = .ok (.putfield 164, 3) := by decide +kernel
theorem dX7_rows_47 : decode cX7_rows 47 = .ok (.iload_n 2, 1) := by decide +kernel
theorem dX7_rows_48 : decode cX7_rows 48 = .ok (.ireturn, 1) := by decide +kernel
theorem dX7_pupil_0 : decode cX7_pupil 0 = .ok (.iload_n 1, 1) := by decide +kernel
theorem dX7_pupil_1 : decode cX7_pupil 1 = .ok (.invokestatic 139, 3) := by decide +kernel
theorem dX7_pupil_4 : decode cX7_pupil 4 = .ok (.ifCond .eq 21, 3) := by decide +kernel
theorem dX7_pupil_7 : decode cX7_pupil 7 = .ok (.aload_n 0, 1) := by decide +kernel
theorem dX7_pupil_8 : decode cX7_pupil 8 = .ok (.getfield 10, 3) := by decide +kernel
theorem dX7_pupil_11 : decode cX7_pupil 11 = .ok (.iload_n 2, 1) := by decide +kernel
theorem dX7_pupil_12 : decode cX7_pupil 12 = .ok (.invokevirtual 167, 3) := by decide +kernel
theorem dX7_pupil_15 : decode cX7_pupil 15 = .ok (.ifCond .eq 10, 3) := by decide +kernel
theorem dX7_pupil_18 : decode cX7_pupil 18 = .ok (.iload_n 3, 1) := by decide +kernel
theorem dX7_pupil_19 : decode cX7_pupil 19 = .ok (.invokestatic 170, 3) := by decide +kernel
theorem dX7_pupil_22 : decode cX7_pupil 22 = .ok (.ifCond .ne 10, 3) := by decide +kernel
theorem dX7_pupil_25 : decode cX7_pupil 25 = .ok (.aload_n 0, 1) := by decide +kernel
theorem dX7_pupil_26 : decode cX7_pupil 26 = .ok (.bipush (-2), 2) := by decide +kernel
theorem dX7_pupil_28 : decode cX7_pupil 28 = .ok (.invokevirtual 84, 3) := by decide +kernel
theorem dX7_pupil_31 : decode cX7_pupil 31 = .ok (.ireturn, 1) := by decide +kernel
theorem dX7_pupil_32 : decode cX7_pupil 32 = .ok (.aload_n 0, 1) := by decide +kernel
theorem dX7_pupil_33 : decode cX7_pupil 33 = .ok (.getfield 10, 3) := by decide +kernel
theorem dX7_pupil_36 : decode cX7_pupil 36 = .ok (.iload_n 2, 1) := by decide +kernel
theorem dX7_pupil_37 : decode cX7_pupil 37 = .ok (.invokevirtual 173, 3) := by decide +kernel
theorem dX7_pupil_40 : decode cX7_pupil 40 = .ok (.iconst (-1), 1) := by decide +kernel
theorem dX7_pupil_41 : decode cX7_pupil 41 = .ok (.if_icmp .eq 10, 3) := by decide +kernel
theorem dX7_pupil_44 : decode cX7_pupil 44 = .ok (.aload_n 0, 1) := by decide +kernel
theorem dX7_pupil_45 : decode cX7_pupil 45 = .ok (.bipush (-5), 2) := by decide +kernel
theorem dX7_pupil_47 : decode cX7_pupil 47 = .ok (.invokevirtual 84, 3) := by decide +kernel
theorem dX7_pupil_50 : decode cX7_pupil 50 = .ok (.ireturn, 1) := by decide +kernel
theorem dX7_pupil_51 : decode cX7_pupil 51 = .ok (.aload_n 0, 1) := by decide +kernel
theorem dX7_pupil_52 : decode cX7_pupil 52 = .ok (.getfield 10, 3) := by decide +kernel
theorem dX7_pupil_55 : decode cX7_pupil 55 = .ok (.invokevirtual 176, 3) := by decide +kernel
theorem dX7_pupil_58 : decode cX7_pupil 58 = .ok (.ifCond .eq 10, 3) := by decide +kernel
theorem dX7_pupil_61 : decode cX7_pupil 61 = .ok (.aload_n 0, 1) := by decide +kernel
theorem dX7_pupil_62 : decode cX7_pupil 62 = .ok (.bipush (-6), 2) := by decide +kernel
theorem dX7_pupil_64 : decode cX7_pupil 64 = .ok (.invokevirtual 84, 3) := by decide +kernel
theorem dX7_pupil_67 : decode cX7_pupil 67 = .ok (.ireturn, 1) := by decide +kernel
theorem dX7_pupil_68 : decode cX7_pupil 68 = .ok (.aload_n 0, 1) := by decide +kernel
theorem dX7_pupil_69 : decode cX7_pupil 69 = .ok (.getfield 10, 3) := by decide +kernel
theorem dX7_pupil_72 : decode cX7_pupil 72 = .ok (.iload_n 1, 1) := by decide +kernel
theorem dX7_pupil_73 : decode cX7_pupil 73 = .ok (.iload_n 2, 1) := by decide +kernel
theorem dX7_pupil_74 : decode cX7_pupil 74 = .ok (.iload_n 3, 1) := by decide +kernel
theorem dX7_pupil_75 : decode cX7_pupil 75 = .ok (.invokevirtual 179, 3) := by decide +kernel
theorem dX7_pupil_78 : decode cX7_pupil 78 = .ok (.ireturn, 1) := by decide +kernel
theorem dX7_bar_0 : decode cX7_bar 0 = .ok (.aload_n 0, 1) := by decide +kernel
theorem dX7_bar_1 : decode cX7_bar 1 = .ok (.iload_n 1, 1) := by decide +kernel
theorem dX7_bar_2 : decode cX7_bar 2 = .ok (.iload_n 2, 1) := by decide +kernel
theorem dX7_bar_3 : decode cX7_bar 3 = .ok (.invokevirtual 183, 3) := by decide +kernel
theorem dX7_bar_6 : decode cX7_bar 6 = .ok (.ifCond .ne 10, 3) := by decide +kernel
theorem dX7_bar_9 : decode cX7_bar 9 = .ok (.aload_n 0, 1) := by decide +kernel
theorem dX7_bar_10 : decode cX7_bar 10 = .ok (.bipush (-2), 2) := by decide +kernel
theorem dX7_bar_12 : decode cX7_bar 12 = .ok (.invokevirtual 84, 3) := by decide +kernel
theorem dX7_bar_15 : decode cX7_bar 15 = .ok (.ireturn, 1) := by decide +kernel
theorem dX7_bar_16 : decode cX7_bar 16 = .ok (.aload_n 0, 1) := by decide +kernel
theorem dX7_bar_17 : decode cX7_bar 17 = .ok (.getfield 10, 3) := by decide +kernel
theorem dX7_bar_20 : decode cX7_bar 20 = .ok (.iload_n 1, 1) := by decide +kernel
theorem dX7_bar_21 : decode cX7_bar 21 = .ok (.iload_n 2, 1) := by decide +kernel
theorem dX7_bar_22 : decode cX7_bar 22 = .ok (.invokevirtual 186, 3) := by decide +kernel
theorem dX7_bar_25 : decode cX7_bar 25 = .ok (.iload_n 3, 1) := by decide +kernel
theorem dX7_bar_26 : decode cX7_bar 26 = .ok (.if_icmp .ne 5, 3) := by decide +kernel
theorem dX7_bar_29 : decode cX7_bar 29 = .ok (.iconst 0, 1) := by decide +kernel
theorem dX7_bar_30 : decode cX7_bar 30 = .ok (.ireturn, 1) := by decide +kernel
theorem dX7_bar_31 : decode cX7_bar 31 = .ok (.aload_n 0, 1) := by decide +kernel
theorem dX7_bar_32 : decode cX7_bar 32 = .ok (.getfield 10, 3) := by decide +kernel
theorem dX7_bar_35 : decode cX7_bar 35 = .ok (.iload_n 1, 1) := by decide +kernel
theorem dX7_bar_36 : decode cX7_bar 36 = .ok (.iload_n 2, 1) := by decide +kernel
theorem dX7_bar_37 : decode cX7_bar 37 = .ok (.iload_n 3, 1) := by decide +kernel
theorem dX7_bar_38 : decode cX7_bar 38 = .ok (.invokevirtual 189, 3) := by decide +kernel
theorem dX7_bar_41 : decode cX7_bar 41 = .ok (.iconst 1, 1) := by decide +kernel
theorem dX7_bar_42 : decode cX7_bar 42 = .ok (.ireturn, 1) := by decide +kernel
theorem dX7_move_0 : decode cX7_move 0 = .ok (.aload_n 0, 1) := by decide +kernel
theorem dX7_move_1 : decode cX7_move 1 = .ok (.getfield 10, 3) := by decide +kernel
theorem dX7_move_4 : decode cX7_move 4 = .ok (.iload_n 1, 1) := by decide +kernel
theorem dX7_move_5 : decode cX7_move 5 = .ok (.invokevirtual 132, 3) := by decide +kernel
theorem dX7_move_8 : decode cX7_move 8 = .ok (.ifCond .eq 14, 3) := by decide +kernel
theorem dX7_move_11 : decode cX7_move 11 = .ok (.aload_n 0, 1) := by decide +kernel
theorem dX7_move_12 : decode cX7_move 12 = .ok (.getfield 10, 3) := by decide +kernel
theorem dX7_move_15 : decode cX7_move 15 = .ok (.iload_n 2, 1) := by decide +kernel
theorem dX7_move_16 : decode cX7_move 16 = .ok (.invokevirtual 167, 3) := by decide +kernel
theorem dX7_move_19 : decode cX7_move 19 = .ok (.ifCond .ne 10, 3) := by decide +kernel
theorem dX7_move_22 : decode cX7_move 22 = .ok (.aload_n 0, 1) := by decide +kernel
theorem dX7_move_23 : decode cX7_move 23 = .ok (.bipush (-2), 2) := by decide +kernel
theorem dX7_move_25 : decode cX7_move 25 = .ok (.invokevirtual 84, 3) := by decide +kernel
theorem dX7_move_28 : decode cX7_move 28 = .ok (.ireturn, 1) := by decide +kernel
theorem dX7_move_29 : decode cX7_move 29 = .ok (.aload_n 0, 1) := by decide +kernel
theorem dX7_move_30 : decode cX7_move 30 = .ok (.getfield 10, 3) := by decide +kernel
theorem dX7_move_33 : decode cX7_move 33 = .ok (.iload_n 2, 1) := by decide +kernel
theorem dX7_move_34 : decode cX7_move 34 = .ok (.invokevirtual 173, 3) := by decide +kernel
theorem dX7_move_37 : decode cX7_move 37 = .ok (.iconst (-1), 1) := by decide +kernel
theorem dX7_move_38 : decode cX7_move 38 = .ok (.if_icmp .eq 10, 3) := by decide +kernel
theorem dX7_move_41 : decode cX7_move 41 = .ok (.aload_n 0, 1) := by decide +kernel
theorem dX7_move_42 : decode cX7_move 42 = .ok (.bipush (-5), 2) := by decide +kernel
theorem dX7_move_44 : decode cX7_move 44 = .ok (.invokevirtual 84, 3) := by decide +kernel
theorem dX7_move_47 : decode cX7_move 47 = .ok (.ireturn, 1) := by decide +kernel
theorem dX7_move_48 : decode cX7_move 48 = .ok (.aload_n 0, 1) := by decide +kernel
theorem dX7_move_49 : decode cX7_move 49 = .ok (.getfield 10, 3) := by decide +kernel
theorem dX7_move_52 : decode cX7_move 52 = .ok (.iload_n 1, 1) := by decide +kernel
theorem dX7_move_53 : decode cX7_move 53 = .ok (.invokevirtual 193, 3) := by decide +kernel
theorem dX7_move_56 : decode cX7_move 56 = .ok (.istore_n 3, 1) := by decide +kernel
theorem dX7_move_57 : decode cX7_move 57 = .ok (.aload_n 0, 1) := by decide +kernel
theorem dX7_move_58 : decode cX7_move 58 = .ok (.getfield 10, 3) := by decide +kernel
theorem dX7_move_61 : decode cX7_move 61 = .ok (.iload_n 1, 1) := by decide +kernel
theorem dX7_move_62 : decode cX7_move 62 = .ok (.iload_n 2, 1) := by decide +kernel
theorem dX7_move_63 : decode cX7_move 63 = .ok (.invokevirtual 196, 3) := by decide +kernel
theorem dX7_move_66 : decode cX7_move 66 = .ok (.iload_n 3, 1) := by decide +kernel
theorem dX7_move_67 : decode cX7_move 67 = .ok (.ireturn, 1) := by decide +kernel
theorem dX7_master_0 : decode cX7_master 0 = .ok (.iload_n 1, 1) := by decide +kernel
theorem dX7_master_1 : decode cX7_master 1 = .ok (.ifCond .ne 51, 3) := by decide +kernel
theorem dX7_master_4 : decode cX7_master 4 = .ok (.iload_n 2, 1) := by decide +kernel
theorem dX7_master_5 : decode cX7_master 5 = .ok (.iconst 1, 1) := by decide +kernel
theorem dX7_master_6 : decode cX7_master 6 = .ok (.if_icmp .lt 46, 3) := by decide +kernel
theorem dX7_master_9 : decode cX7_master 9 = .ok (.iload_n 2, 1) := by decide +kernel
theorem dX7_master_10 : decode cX7_master 10 = .ok (.bipush 20, 2) := by decide +kernel
theorem dX7_master_12 : decode cX7_master 12 = .ok (.if_icmp .gt 40, 3) := by decide +kernel
theorem dX7_master_15 : decode cX7_master 15 = .ok (.aload_n 0, 1) := by decide +kernel
theorem dX7_master_16 : decode cX7_master 16 = .ok (.getfield 10, 3) := by decide +kernel
theorem dX7_master_19 : decode cX7_master 19 = .ok (.getfield 199, 3) := by decide +kernel
theorem dX7_master_22 : decode cX7_master 22 = .ok (.istore_n 3, 1) := by decide +kernel
theorem dX7_master_23 : decode cX7_master 23 = .ok (.aload_n 0, 1) := by decide +kernel
theorem dX7_master_24 : decode cX7_master 24 = .ok (.getfield 10, 3) := by decide +kernel
theorem dX7_master_27 : decode cX7_master 27 = .ok (.iload_n 2, 1) := by decide +kernel
theorem dX7_master_28 : decode cX7_master 28 = .ok (.putfield 199, 3) := by decide +kernel
theorem dX7_master_31 : decode cX7_master 31 = .ok (.aload_n 0, 1) := by decide +kernel
theorem dX7_master_32 : decode cX7_master 32 = .ok (.getfield 10, 3) := by decide +kernel
theorem dX7_master_35 : decode cX7_master 35 = .ok (.aload_n 0, 1) := by decide +kernel
theorem dX7_master_36 : decode cX7_master 36 = .ok (.getfield 10, 3) := by decide +kernel
theorem dX7_master_39 : decode cX7_master 39 = .ok (.getfield 202, 3) := by decide +kernel
theorem dX7_master_42 : decode cX7_master 42 = .ok (.iload_n 2, 1) := by decide +kernel
theorem dX7_master_43 : decode cX7_master 43 = .ok (.invokestatic 205, 3) := by decide +kernel
theorem dX7_master_46 : decode cX7_master 46 = .ok (.putfield 202, 3) := by decide +kernel
theorem dX7_master_49 : decode cX7_master 49 = .ok (.goto 84, 3) := by decide +kernel
theorem dX7_master_52 : decode cX7_master 52 = .ok (.iload_n 1, 1) := by decide +kernel
theorem dX7_master_53 : decode cX7_master 53 = .ok (.iconst 1, 1) := by decide +kernel
theorem dX7_master_54 : decode cX7_master 54 = .ok (.if_icmp .ne 37, 3) := by decide +kernel
theorem dX7_master_57 : decode cX7_master 57 = .ok (.iload_n 2, 1) := by decide +kernel
theorem dX7_master_58 : decode cX7_master 58 = .ok (.ifCond .lt 33, 3) := by decide +kernel
theorem dX7_master_61 : decode cX7_master 61 = .ok (.iload_n 2, 1) := by decide +kernel
theorem dX7_master_62 : decode cX7_master 62 = .ok (.aload_n 0, 1) := by decide +kernel
theorem dX7_master_63 : decode cX7_master 63 = .ok (.getfield 10, 3) := by decide +kernel
theorem dX7_master_66 : decode cX7_master 66 = .ok (.getfield 199, 3) := by decide +kernel
theorem dX7_master_69 : decode cX7_master 69 = .ok (.if_icmp .gt 22, 3) := by decide +kernel
theorem dX7_master_72 : decode cX7_master 72 = .ok (.aload_n 0, 1) := by decide +kernel
theorem dX7_master_73 : decode cX7_master 73 = .ok (.getfield 10, 3) := by decide +kernel
theorem dX7_master_76 : decode cX7_master 76 = .ok (.getfield 202, 3) := by decide +kernel
theorem dX7_master_79 : decode cX7_master 79 = .ok (.istore_n 3, 1) := by decide +kernel
theorem dX7_master_80 : decode cX7_master 80 = .ok (.aload_n 0, 1) := by decide +kernel
theorem dX7_master_81 : decode cX7_master 81 = .ok (.getfield 10, 3) := by decide +kernel
theorem dX7_master_84 : decode cX7_master 84 = .ok (.iload_n 2, 1) := by decide +kernel
theorem dX7_master_85 : decode cX7_master 85 = .ok (.putfield 202, 3) := by decide +kernel
theorem dX7_master_88 : decode cX7_master 88 = .ok (.goto 45, 3) := by decide +kernel
theorem dX7_master_91 : decode cX7_master 91 = .ok (.iload_n 1, 1) := by decide +kernel
theorem dX7_master_92 : decode cX7_master 92 = .ok (.iconst 2, 1) := by decide +kernel
theorem dX7_master_93 : decode cX7_master 93 = .ok (.if_icmp .ne 33, 3) := by decide +kernel
theorem dX7_master_96 : decode cX7_master 96 = .ok (.iload_n 2, 1) := by decide +kernel
theorem dX7_master_97 : decode cX7_master 97 = .ok (.ifCond .lt 29, 3) := by decide +kernel
theorem dX7_master_100 : decode cX7_master 100 = .ok (.iload_n 2, 1) := by decide +kernel
theorem dX7_master_101 : decode cX7_master 101 = .ok (.sipush 1000, 3) := by decide +kernel
theorem dX7_master_104 : decode cX7_master 104 = .ok (.if_icmp .gt 22, 3) := by decide +kernel
theorem dX7_master_107 : decode cX7_master 107 = .ok (.aload_n 0, 1) := by decide +kernel
theorem dX7_master_108 : decode cX7_master 108 = .ok (.getfield 10, 3) := by decide +kernel
theorem dX7_master_111 : decode cX7_master 111 = .ok (.getfield 210, 3) := by decide +kernel
theorem dX7_master_114 : decode cX7_master 114 = .ok (.istore_n 3, 1) := by decide +kernel
theorem dX7_master_115 : decode cX7_master 115 = .ok (.aload_n 0, 1) := by decide +kernel
theorem dX7_master_116 : decode cX7_master 116 = .ok (.getfield 10, 3) := by decide +kernel
theorem dX7_master_119 : decode cX7_master 119 = .ok (.iload_n 2, 1) := by decide +kernel
theorem dX7_master_120 : decode cX7_master 120 = .ok (.putfield 210, 3) := by decide +kernel
theorem dX7_master_123 : decode cX7_master 123 = .ok (.goto 10, 3) := by decide +kernel
theorem dX7_master_126 : decode cX7_master 126 = .ok (.aload_n 0, 1) := by decide +kernel
theorem dX7_master_127 : decode cX7_master 127 = .ok (.bipush (-2), 2) := by decide +kernel
theorem dX7_master_129 : decode cX7_master 129 = .ok (.invokevirtual 84, 3) := by decide +kernel
theorem dX7_master_132 : decode cX7_master 132 = .ok (.istore_n 3, 1) := by decide +kernel
theorem dX7_master_133 : decode cX7_master 133 = .ok (.iload_n 3, 1) := by decide +kernel
theorem dX7_master_134 : decode cX7_master 134 = .ok (.ireturn, 1) := by decide +kernel
theorem dX7_feed_0 : decode cX7_feed 0 = .ok (.iload_n 1, 1) := by decide +kernel
theorem dX7_feed_1 : decode cX7_feed 1 = .ok (.ifCond .lt 10, 3) := by decide +kernel
theorem dX7_feed_4 : decode cX7_feed 4 = .ok (.iload_n 1, 1) := by decide +kernel
theorem dX7_feed_5 : decode cX7_feed 5 = .ok (.sipush 255, 3) := by decide +kernel
theorem dX7_feed_8 : decode cX7_feed 8 = .ok (.if_icmp .le 10, 3) := by decide +kernel
theorem dX7_feed_11 : decode cX7_feed 11 = .ok (.aload_n 0, 1) := by decide +kernel
theorem dX7_feed_12 : decode cX7_feed 12 = .ok (.bipush (-2), 2) := by decide +kernel
theorem dX7_feed_14 : decode cX7_feed 14 = .ok (.invokevirtual 84, 3) := by decide +kernel
theorem dX7_feed_17 : decode cX7_feed 17 = .ok (.ireturn, 1) := by decide +kernel
theorem dX7_feed_18 : decode cX7_feed 18 = .ok (.aload_n 0, 1) := by decide +kernel
theorem dX7_feed_19 : decode cX7_feed 19 = .ok (.getfield 45, 3) := by decide +kernel
theorem dX7_feed_22 : decode cX7_feed 22 = .ok (.iload_n 1, 1) := by decide +kernel
theorem dX7_feed_23 : decode cX7_feed 23 = .ok (.invokevirtual 213, 3) := by decide +kernel
theorem dX7_feed_26 : decode cX7_feed 26 = .ok (.ifCond .ne 10, 3) := by decide +kernel
theorem dX7_feed_29 : decode cX7_feed 29 = .ok (.aload_n 0, 1) := by decide +kernel
theorem dX7_feed_30 : decode cX7_feed 30 = .ok (.bipush (-6), 2) := by decide +kernel
theorem dX7_feed_32 : decode cX7_feed 32 = .ok (.invokevirtual 84, 3) := by decide +kernel
theorem dX7_feed_35 : decode cX7_feed 35 = .ok (.ireturn, 1) := by decide +kernel
theorem dX7_feed_36 : decode cX7_feed 36 = .ok (.aload_n 0, 1) := by decide +kernel
theorem dX7_feed_37 : decode cX7_feed 37 = .ok (.getfield 45, 3) := by decide +kernel
theorem dX7_feed_40 : decode cX7_feed 40 = .ok (.getfield 216, 3) := by decide +kernel
theorem dX7_feed_43 : decode cX7_feed 43 = .ok (.ireturn, 1) := by decide +kernel
theorem dX7_wipe_0 : decode cX7_wipe 0 = .ok (.aload_n 0, 1) := by decide +kernel
theorem dX7_wipe_1 : decode cX7_wipe 1 = .ok (.getfield 45, 3) := by decide +kernel
theorem dX7_wipe_4 : decode cX7_wipe 4 = .ok (.getfield 216, 3) := by decide +kernel
theorem dX7_wipe_7 : decode cX7_wipe 7 = .ok (.istore_n 1, 1) := by decide +kernel
theorem dX7_wipe_8 : decode cX7_wipe 8 = .ok (.aload_n 0, 1) := by decide +kernel
theorem dX7_wipe_9 : decode cX7_wipe 9 = .ok (.getfield 45, 3) := by decide +kernel
theorem dX7_wipe_12 : decode cX7_wipe 12 = .ok (.iconst 0, 1) := by decide +kernel
theorem dX7_wipe_13 : decode cX7_wipe 13 = .ok (.putfield 216, 3) := by decide +kernel
theorem dX7_wipe_16 : decode cX7_wipe 16 = .ok (.iload_n 1, 1) := by decide +kernel
theorem dX7_wipe_17 : decode cX7_wipe 17 = .ok (.ireturn, 1) := by decide +kernel
theorem dX7_school_0 : decode cX7_school 0 = .ok (.aload_n 0, 1) := by decide +kernel
theorem dX7_school_1 : decode cX7_school 1 = .ok (.getfield 16, 3) := by decide +kernel
theorem dX7_school_4 : decode cX7_school 4 = .ok (.aload_n 0, 1) := by decide +kernel
theorem dX7_school_5 : decode cX7_school 5 = .ok (.getfield 10, 3) := by decide +kernel
theorem dX7_school_8 : decode cX7_school 8 = .ok (.invokevirtual 217, 3) := by decide +kernel
theorem dX7_school_11 : decode cX7_school 11 = .ok (.aload_n 0, 1) := by decide +kernel
theorem dX7_school_12 : decode cX7_school 12 = .ok (.getfield 54, 3) := by decide +kernel
theorem dX7_school_15 : decode cX7_school 15 = .ok (.invokevirtual 221, 3) := by decide +kernel
theorem dX7_school_18 : decode cX7_school 18 = .ok (.istore_n 1, 1) := by decide +kernel
theorem dX7_school_19 : decode cX7_school 19 = .ok (.aload_n 0, 1) := by decide +kernel
theorem dX7_school_20 : decode cX7_school 20 = .ok (.getfield 54, 3) := by decide +kernel
theorem dX7_school_23 : decode cX7_school 23 = .ok (.getfield 224, 3) := by decide +kernel
theorem dX7_school_26 : decode cX7_school 26 = .ok (.istore_n 2, 1) := by decide +kernel
theorem dX7_school_27 : decode cX7_school 27 = .ok (.aload_n 0, 1) := by decide +kernel
theorem dX7_school_28 : decode cX7_school 28 = .ok (.getfield 45, 3) := by decide +kernel
theorem dX7_school_31 : decode cX7_school 31 = .ok (.iconst 0, 1) := by decide +kernel
theorem dX7_school_32 : decode cX7_school 32 = .ok (.putfield 216, 3) := by decide +kernel
theorem dX7_school_35 : decode cX7_school 35 = .ok (.iload_n 1, 1) := by decide +kernel
theorem dX7_school_36 : decode cX7_school 36 = .ok (.iconst (-1), 1) := by decide +kernel
theorem dX7_school_37 : decode cX7_school 37 = .ok (.if_icmp .ne 15, 3) := by decide +kernel
theorem dX7_school_40 : decode cX7_school 40 = .ok (.aload_n 0, 1) := by decide +kernel
theorem dX7_school_41 : decode cX7_school 41 = .ok (.bipush (-2), 2) := by decide +kernel
theorem dX7_school_43 : decode cX7_school 43 = .ok (.invokevirtual 84, 3) := by decide +kernel
theorem dX7_school_46 : decode cX7_school 46 = .ok (.pop, 1) := by decide +kernel
theorem dX7_school_47 : decode cX7_school 47 = .ok (.bipush (-20), 2) := by decide +kernel
theorem dX7_school_49 : decode cX7_school 49 = .ok (.iload_n 2, 1) := by decide +kernel
theorem dX7_school_50 : decode cX7_school 50 = .ok (.isub, 1) := by decide +kernel
theorem dX7_school_51 : decode cX7_school 51 = .ok (.ireturn, 1) := by decide +kernel
theorem dX7_school_52 : decode cX7_school 52 = .ok (.aload_n 0, 1) := by decide +kernel
theorem dX7_school_53 : decode cX7_school 53 = .ok (.getfield 10, 3) := by decide +kernel
theorem dX7_school_56 : decode cX7_school 56 = .ok (.aload_n 0, 1) := by decide +kernel
theorem dX7_school_57 : decode cX7_school 57 = .ok (.getfield 16, 3) := by decide +kernel
theorem dX7_school_60 : decode cX7_school 60 = .ok (.invokevirtual 217, 3) := by decide +kernel
theorem dX7_school_63 : decode cX7_school 63 = .ok (.iload_n 1, 1) := by decide +kernel
theorem dX7_school_64 : decode cX7_school 64 = .ok (.ireturn, 1) := by decide +kernel
theorem dX7_pupilOf_0 : decode cX7_pupilOf 0 = .ok (.aload_n 0, 1) := by decide +kernel
theorem dX7_pupilOf_1 : decode cX7_pupilOf 1 = .ok (.getfield 10, 3) := by decide +kernel
theorem dX7_pupilOf_4 : decode cX7_pupilOf 4 = .ok (.iload_n 1, 1) := by decide +kernel
theorem dX7_pupilOf_5 : decode cX7_pupilOf 5 = .ok (.invokevirtual 132, 3) := by decide +kernel
theorem dX7_pupilOf_8 : decode cX7_pupilOf 8 = .ok (.ifCond .ne 10, 3) := by decide +kernel
theorem dX7_pupilOf_11 : decode cX7_pupilOf 11 = .ok (.aload_n 0, 1) := by decide +kernel
theorem dX7_pupilOf_12 : decode cX7_pupilOf 12 = .ok (.bipush (-2), 2) := by decide +kernel
theorem dX7_pupilOf_14 : decode cX7_pupilOf 14 = .ok (.invokevirtual 84, 3) := by decide +kernel
theorem dX7_pupilOf_17 : decode cX7_pupilOf 17 = .ok (.ireturn, 1) := by decide +kernel
theorem dX7_pupilOf_18 : decode cX7_pupilOf 18 = .ok (.iload_n 2, 1) := by decide +kernel
theorem dX7_pupilOf_19 : decode cX7_pupilOf 19 = .ok (.tableswitch 78 0 4 #[33, 42, 51, 60, 69], 33) := by decide +kernel
theorem dX7_pupilOf_52 : decode cX7_pupilOf 52 = .ok (.aload_n 0, 1) := by decide +kernel
theorem dX7_pupilOf_53 : decode cX7_pupilOf 53 = .ok (.getfield 10, 3) := by decide +kernel
theorem dX7_pupilOf_56 : decode cX7_pupilOf 56 = .ok (.iload_n 1, 1) := by decide +kernel
theorem dX7_pupilOf_57 : decode cX7_pupilOf 57 = .ok (.invokevirtual 149, 3) := by decide +kernel
theorem dX7_pupilOf_60 : decode cX7_pupilOf 60 = .ok (.ireturn, 1) := by decide +kernel
theorem dX7_pupilOf_61 : decode cX7_pupilOf 61 = .ok (.aload_n 0, 1) := by decide +kernel
theorem dX7_pupilOf_62 : decode cX7_pupilOf 62 = .ok (.getfield 10, 3) := by decide +kernel
theorem dX7_pupilOf_65 : decode cX7_pupilOf 65 = .ok (.iload_n 1, 1) := by decide +kernel
theorem dX7_pupilOf_66 : decode cX7_pupilOf 66 = .ok (.invokevirtual 193, 3) := by decide +kernel
theorem dX7_pupilOf_69 : decode cX7_pupilOf 69 = .ok (.ireturn, 1) := by decide +kernel
theorem dX7_pupilOf_70 : decode cX7_pupilOf 70 = .ok (.aload_n 0, 1) := by decide +kernel
theorem dX7_pupilOf_71 : decode cX7_pupilOf 71 = .ok (.getfield 10, 3) := by decide +kernel
theorem dX7_pupilOf_74 : decode cX7_pupilOf 74 = .ok (.iload_n 1, 1) := by decide +kernel
theorem dX7_pupilOf_75 : decode cX7_pupilOf 75 = .ok (.invokevirtual 227, 3) := by decide +kernel
theorem dX7_pupilOf_78 : decode cX7_pupilOf 78 = .ok (.ireturn, 1) := by decide +kernel
theorem dX7_pupilOf_79 : decode cX7_pupilOf 79 = .ok (.aload_n 0, 1) := by decide +kernel
theorem dX7_pupilOf_80 : decode cX7_pupilOf 80 = .ok (.getfield 10, 3) := by decide +kernel
theorem dX7_pupilOf_83 : decode cX7_pupilOf 83 = .ok (.iload_n 1, 1) := by decide +kernel
theorem dX7_pupilOf_84 : decode cX7_pupilOf 84 = .ok (.invokevirtual 230, 3) := by decide +kernel
theorem dX7_pupilOf_87 : decode cX7_pupilOf 87 = .ok (.ireturn, 1) := by decide +kernel
theorem dX7_pupilOf_88 : decode cX7_pupilOf 88 = .ok (.aload_n 0, 1) := by decide +kernel
theorem dX7_pupilOf_89 : decode cX7_pupilOf 89 = .ok (.getfield 10, 3) := by decide +kernel
theorem dX7_pupilOf_92 : decode cX7_pupilOf 92 = .ok (.iload_n 1, 1) := by decide +kernel
theorem dX7_pupilOf_93 : decode cX7_pupilOf 93 = .ok (.invokevirtual 233, 3) := by decide +kernel
theorem dX7_pupilOf_96 : decode cX7_pupilOf 96 = .ok (.ireturn, 1) := by decide +kernel
theorem dX7_pupilOf_97 : decode cX7_pupilOf 97 = .ok (.aload_n 0, 1) := by decide +kernel
theorem dX7_pupilOf_98 : decode cX7_pupilOf 98 = .ok (.bipush (-2), 2) := by decide +kernel
theorem dX7_pupilOf_100 : decode cX7_pupilOf 100 = .ok (.invokevirtual 84, 3) := by decide +kernel
theorem dX7_pupilOf_103 : decode cX7_pupilOf 103 = .ok (.ireturn, 1) := by decide +kernel
theorem dX7_at_0 : decode cX7_at 0 = .ok (.aload_n 0, 1) := by decide +kernel
theorem dX7_at_1 : decode cX7_at 1 = .ok (.getfield 10, 3) := by decide +kernel
theorem dX7_at_4 : decode cX7_at 4 = .ok (.iload_n 1, 1) := by decide +kernel
theorem dX7_at_5 : decode cX7_at 5 = .ok (.invokevirtual 167, 3) := by decide +kernel
theorem dX7_at_8 : decode cX7_at 8 = .ok (.ifCond .eq 14, 3) := by decide +kernel
theorem dX7_at_11 : decode cX7_at 11 = .ok (.aload_n 0, 1) := by decide +kernel
theorem dX7_at_12 : decode cX7_at 12 = .ok (.getfield 10, 3) := by decide +kernel
theorem dX7_at_15 : decode cX7_at 15 = .ok (.iload_n 1, 1) := by decide +kernel
theorem dX7_at_16 : decode cX7_at 16 = .ok (.invokevirtual 173, 3) := by decide +kernel
theorem dX7_at_19 : decode cX7_at 19 = .ok (.goto 9, 3) := by decide +kernel
theorem dX7_at_22 : decode cX7_at 22 = .ok (.aload_n 0, 1) := by decide +kernel
theorem dX7_at_23 : decode cX7_at 23 = .ok (.bipush (-2), 2) := by decide +kernel
theorem dX7_at_25 : decode cX7_at 25 = .ok (.invokevirtual 84, 3) := by decide +kernel
theorem dX7_at_28 : decode cX7_at 28 = .ok (.ireturn, 1) := by decide +kernel
theorem dX7_loss_0 : decode cX7_loss 0 = .ok (.aload_n 0, 1) := by decide +kernel
theorem dX7_loss_1 : decode cX7_loss 1 = .ok (.getfield 10, 3) := by decide +kernel
theorem dX7_loss_4 : decode cX7_loss 4 = .ok (.iload_n 1, 1) := by decide +kernel
theorem dX7_loss_5 : decode cX7_loss 5 = .ok (.invokevirtual 132, 3) := by decide +kernel
theorem dX7_loss_8 : decode cX7_loss 8 = .ok (.ifCond .eq 10, 3) := by decide +kernel
theorem dX7_loss_11 : decode cX7_loss 11 = .ok (.iload_n 2, 1) := by decide +kernel
theorem dX7_loss_12 : decode cX7_loss 12 = .ok (.invokestatic 236, 3) := by decide +kernel
theorem dX7_loss_15 : decode cX7_loss 15 = .ok (.ifCond .ne 10, 3) := by decide +kernel
theorem dX7_loss_18 : decode cX7_loss 18 = .ok (.aload_n 0, 1) := by decide +kernel
theorem dX7_loss_19 : decode cX7_loss 19 = .ok (.bipush (-2), 2) := by decide +kernel
theorem dX7_loss_21 : decode cX7_loss 21 = .ok (.invokevirtual 84, 3) := by decide +kernel
theorem dX7_loss_24 : decode cX7_loss 24 = .ok (.ireturn, 1) := by decide +kernel
theorem dX7_loss_25 : decode cX7_loss 25 = .ok (.aload_n 0, 1) := by decide +kernel
theorem dX7_loss_26 : decode cX7_loss 26 = .ok (.getfield 10, 3) := by decide +kernel
theorem dX7_loss_29 : decode cX7_loss 29 = .ok (.iload_n 1, 1) := by decide +kernel
theorem dX7_loss_30 : decode cX7_loss 30 = .ok (.iconst 0, 1) := by decide +kernel
theorem dX7_loss_31 : decode cX7_loss 31 = .ok (.iload_n 2, 1) := by decide +kernel
theorem dX7_loss_32 : decode cX7_loss 32 = .ok (.invokevirtual 239, 3) := by decide +kernel
theorem dX7_loss_35 : decode cX7_loss 35 = .ok (.ireturn, 1) := by decide +kernel
theorem dX7_crowd_0 : decode cX7_crowd 0 = .ok (.aload_n 0, 1) := by decide +kernel
theorem dX7_crowd_1 : decode cX7_crowd 1 = .ok (.getfield 10, 3) := by decide +kernel
theorem dX7_crowd_4 : decode cX7_crowd 4 = .ok (.getfield 161, 3) := by decide +kernel
theorem dX7_crowd_7 : decode cX7_crowd 7 = .ok (.ifCond .ne 10, 3) := by decide +kernel
theorem dX7_crowd_10 : decode cX7_crowd 10 = .ok (.aload_n 0, 1) := by decide +kernel
theorem dX7_crowd_11 : decode cX7_crowd 11 = .ok (.bipush (-5), 2) := by decide +kernel
theorem dX7_crowd_13 : decode cX7_crowd 13 = .ok (.invokevirtual 84, 3) := by decide +kernel
theorem dX7_crowd_16 : decode cX7_crowd 16 = .ok (.ireturn, 1) := by decide +kernel
theorem dX7_crowd_17 : decode cX7_crowd 17 = .ok (.iconst 0, 1) := by decide +kernel
theorem dX7_crowd_18 : decode cX7_crowd 18 = .ok (.istore_n 1, 1) := by decide +kernel
theorem dX7_crowd_19 : decode cX7_crowd 19 = .ok (.iconst 1, 1) := by decide +kernel
theorem dX7_crowd_20 : decode cX7_crowd 20 = .ok (.istore_n 2, 1) := by decide +kernel
theorem dX7_crowd_21 : decode cX7_crowd 21 = .ok (.iload_n 2, 1) := by decide +kernel
theorem dX7_crowd_22 : decode cX7_crowd 22 = .ok (.aload_n 0, 1) := by decide +kernel
theorem dX7_crowd_23 : decode cX7_crowd 23 = .ok (.getfield 10, 3) := by decide +kernel
theorem dX7_crowd_26 : decode cX7_crowd 26 = .ok (.getfield 161, 3) := by decide +kernel
theorem dX7_crowd_29 : decode cX7_crowd 29 = .ok (.if_icmp .ge 30, 3) := by decide +kernel
theorem dX7_crowd_32 : decode cX7_crowd 32 = .ok (.aload_n 0, 1) := by decide +kernel
theorem dX7_crowd_33 : decode cX7_crowd 33 = .ok (.getfield 10, 3) := by decide +kernel
theorem dX7_crowd_36 : decode cX7_crowd 36 = .ok (.iload_n 2, 1) := by decide +kernel
theorem dX7_crowd_37 : decode cX7_crowd 37 = .ok (.invokevirtual 243, 3) := by decide +kernel
theorem dX7_crowd_40 : decode cX7_crowd 40 = .ok (.aload_n 0, 1) := by decide +kernel
theorem dX7_crowd_41 : decode cX7_crowd 41 = .ok (.getfield 10, 3) := by decide +kernel
theorem dX7_crowd_44 : decode cX7_crowd 44 = .ok (.iload_n 1, 1) := by decide +kernel
theorem dX7_crowd_45 : decode cX7_crowd 45 = .ok (.invokevirtual 243, 3) := by decide +kernel
theorem dX7_crowd_48 : decode cX7_crowd 48 = .ok (.if_icmp .le 5, 3) := by decide +kernel
theorem dX7_crowd_51 : decode cX7_crowd 51 = .ok (.iload_n 2, 1) := by decide +kernel
theorem dX7_crowd_52 : decode cX7_crowd 52 = .ok (.istore_n 1, 1) := by decide +kernel
theorem dX7_crowd_53 : decode cX7_crowd 53 = .ok (.iinc 2 1, 3) := by decide +kernel
theorem dX7_crowd_56 : decode cX7_crowd 56 = .ok (.goto (-35), 3) := by decide +kernel
theorem dX7_crowd_59 : decode cX7_crowd 59 = .ok (.iload_n 1, 1) := by decide +kernel
theorem dX7_crowd_60 : decode cX7_crowd 60 = .ok (.ireturn, 1) := by decide +kernel
theorem dX7_inRow_0 : decode cX7_inRow 0 = .ok (.iload_n 1, 1) := by decide +kernel
theorem dX7_inRow_1 : decode cX7_inRow 1 = .ok (.ifCond .lt 14, 3) := by decide +kernel
theorem dX7_inRow_4 : decode cX7_inRow 4 = .ok (.iload_n 1, 1) := by decide +kernel
theorem dX7_inRow_5 : decode cX7_inRow 5 = .ok (.aload_n 0, 1) := by decide +kernel
theorem dX7_inRow_6 : decode cX7_inRow 6 = .ok (.getfield 10, 3) := by decide +kernel
theorem dX7_inRow_9 : decode cX7_inRow 9 = .ok (.getfield 164, 3) := by decide +kernel
theorem dX7_inRow_12 : decode cX7_inRow 12 = .ok (.if_icmp .lt 10, 3) := by decide +kernel
theorem dX7_inRow_15 : decode cX7_inRow 15 = .ok (.aload_n 0, 1) := by decide +kernel
theorem dX7_inRow_16 : decode cX7_inRow 16 = .ok (.bipush (-2), 2) := by decide +kernel
theorem dX7_inRow_18 : decode cX7_inRow 18 = .ok (.invokevirtual 84, 3) := by decide +kernel
theorem dX7_inRow_21 : decode cX7_inRow 21 = .ok (.ireturn, 1) := by decide +kernel
theorem dX7_inRow_22 : decode cX7_inRow 22 = .ok (.iconst 0, 1) := by decide +kernel
theorem dX7_inRow_23 : decode cX7_inRow 23 = .ok (.istore_n 2, 1) := by decide +kernel
theorem dX7_inRow_24 : decode cX7_inRow 24 = .ok (.iconst 0, 1) := by decide +kernel
theorem dX7_inRow_25 : decode cX7_inRow 25 = .ok (.istore_n 3, 1) := by decide +kernel
theorem dX7_inRow_26 : decode cX7_inRow 26 = .ok (.iload_n 3, 1) := by decide +kernel
theorem dX7_inRow_27 : decode cX7_inRow 27 = .ok (.aload_n 0, 1) := by decide +kernel
theorem dX7_inRow_28 : decode cX7_inRow 28 = .ok (.getfield 10, 3) := by decide +kernel
theorem dX7_inRow_31 : decode cX7_inRow 31 = .ok (.getfield 161, 3) := by decide +kernel
theorem dX7_inRow_34 : decode cX7_inRow 34 = .ok (.if_icmp .ge 29, 3) := by decide +kernel
theorem dX7_inRow_37 : decode cX7_inRow 37 = .ok (.aload_n 0, 1) := by decide +kernel
theorem dX7_inRow_38 : decode cX7_inRow 38 = .ok (.getfield 10, 3) := by decide +kernel
theorem dX7_inRow_41 : decode cX7_inRow 41 = .ok (.iload_n 3, 1) := by decide +kernel
theorem dX7_inRow_42 : decode cX7_inRow 42 = .ok (.invokevirtual 193, 3) := by decide +kernel
theorem dX7_inRow_45 : decode cX7_inRow 45 = .ok (.iconst 4, 1) := by decide +kernel
theorem dX7_inRow_46 : decode cX7_inRow 46 = .ok (.idiv, 1) := by decide +kernel
theorem dX7_inRow_47 : decode cX7_inRow 47 = .ok (.iload_n 1, 1) := by decide +kernel
theorem dX7_inRow_48 : decode cX7_inRow 48 = .ok (.if_icmp .ne 9, 3) := by decide +kernel
theorem dX7_inRow_51 : decode cX7_inRow 51 = .ok (.iload_n 2, 1) := by decide +kernel
theorem dX7_inRow_52 : decode cX7_inRow 52 = .ok (.iconst 1, 1) := by decide +kernel
theorem dX7_inRow_53 : decode cX7_inRow 53 = .ok (.iload_n 3, 1) := by decide +kernel
theorem dX7_inRow_54 : decode cX7_inRow 54 = .ok (.ishl, 1) := by decide +kernel
theorem dX7_inRow_55 : decode cX7_inRow 55 = .ok (.ior, 1) := by decide +kernel
theorem dX7_inRow_56 : decode cX7_inRow 56 = .ok (.istore_n 2, 1) := by decide +kernel
theorem dX7_inRow_57 : decode cX7_inRow 57 = .ok (.iinc 3 1, 3) := by decide +kernel
theorem dX7_inRow_60 : decode cX7_inRow 60 = .ok (.goto (-34), 3) := by decide +kernel
theorem dX7_inRow_63 : decode cX7_inRow 63 = .ok (.iload_n 2, 1) := by decide +kernel
theorem dX7_inRow_64 : decode cX7_inRow 64 = .ok (.ireturn, 1) := by decide +kernel
theorem dX7_edges_0 : decode cX7_edges 0 = .ok (.iconst 0, 1) := by decide +kernel
theorem dX7_edges_1 : decode cX7_edges 1 = .ok (.istore_n 1, 1) := by decide +kernel
theorem dX7_edges_2 : decode cX7_edges 2 = .ok (.iconst 0, 1) := by decide +kernel
theorem dX7_edges_3 : decode cX7_edges 3 = .ok (.istore_n 2, 1) := by decide +kernel
theorem dX7_edges_4 : decode cX7_edges 4 = .ok (.iload_n 2, 1) := by decide +kernel
theorem dX7_edges_5 : decode cX7_edges 5 = .ok (.aload_n 0, 1) := by decide +kernel
theorem dX7_edges_6 : decode cX7_edges 6 = .ok (.getfield 10, 3) := by decide +kernel
theorem dX7_edges_9 : decode cX7_edges 9 = .ok (.getfield 161, 3) := by decide +kernel
theorem dX7_edges_12 : decode cX7_edges 12 = .ok (.if_icmp .ge 20, 3) := by decide +kernel
theorem dX7_edges_15 : decode cX7_edges 15 = .ok (.iload_n 1, 1) := by decide +kernel
theorem dX7_edges_16 : decode cX7_edges 16 = .ok (.aload_n 0, 1) := by decide +kernel
theorem dX7_edges_17 : decode cX7_edges 17 = .ok (.getfield 10, 3) := by decide +kernel
theorem dX7_edges_20 : decode cX7_edges 20 = .ok (.iload_n 2, 1) := by decide +kernel
theorem dX7_edges_21 : decode cX7_edges 21 = .ok (.invokevirtual 243, 3) := by decide +kernel
theorem dX7_edges_24 : decode cX7_edges 24 = .ok (.iadd, 1) := by decide +kernel
theorem dX7_edges_25 : decode cX7_edges 25 = .ok (.istore_n 1, 1) := by decide +kernel
theorem dX7_edges_26 : decode cX7_edges 26 = .ok (.iinc 2 1, 3) := by decide +kernel
theorem dX7_edges_29 : decode cX7_edges 29 = .ok (.goto (-25), 3) := by decide +kernel
theorem dX7_edges_32 : decode cX7_edges 32 = .ok (.iload_n 1, 1) := by decide +kernel
theorem dX7_edges_33 : decode cX7_edges 33 = .ok (.iconst 2, 1) := by decide +kernel
theorem dX7_edges_34 : decode cX7_edges 34 = .ok (.idiv, 1) := by decide +kernel
theorem dX7_edges_35 : decode cX7_edges 35 = .ok (.ireturn, 1) := by decide +kernel
theorem dX7_lonely_0 : decode cX7_lonely 0 = .ok (.iconst 0, 1) := by decide +kernel
theorem dX7_lonely_1 : decode cX7_lonely 1 = .ok (.istore_n 1, 1) := by decide +kernel
theorem dX7_lonely_2 : decode cX7_lonely 2 = .ok (.iconst 0, 1) := by decide +kernel
theorem dX7_lonely_3 : decode cX7_lonely 3 = .ok (.istore_n 2, 1) := by decide +kernel
theorem dX7_lonely_4 : decode cX7_lonely 4 = .ok (.iload_n 2, 1) := by decide +kernel
theorem dX7_lonely_5 : decode cX7_lonely 5 = .ok (.aload_n 0, 1) := by decide +kernel
theorem dX7_lonely_6 : decode cX7_lonely 6 = .ok (.getfield 10, 3) := by decide +kernel
theorem dX7_lonely_9 : decode cX7_lonely 9 = .ok (.getfield 161, 3) := by decide +kernel
theorem dX7_lonely_12 : decode cX7_lonely 12 = .ok (.if_icmp .ge 26, 3) := by decide +kernel
theorem dX7_lonely_15 : decode cX7_lonely 15 = .ok (.aload_n 0, 1) := by decide +kernel
theorem dX7_lonely_16 : decode cX7_lonely 16 = .ok (.getfield 10, 3) := by decide +kernel
theorem dX7_lonely_19 : decode cX7_lonely 19 = .ok (.iload_n 2, 1) := by decide +kernel
theorem dX7_lonely_20 : decode cX7_lonely 20 = .ok (.invokevirtual 230, 3) := by decide +kernel
theorem dX7_lonely_23 : decode cX7_lonely 23 = .ok (.ifCond .ne 9, 3) := by decide +kernel
theorem dX7_lonely_26 : decode cX7_lonely 26 = .ok (.iload_n 1, 1) := by decide +kernel
theorem dX7_lonely_27 : decode cX7_lonely 27 = .ok (.iconst 1, 1) := by decide +kernel
theorem dX7_lonely_28 : decode cX7_lonely 28 = .ok (.iload_n 2, 1) := by decide +kernel
theorem dX7_lonely_29 : decode cX7_lonely 29 = .ok (.ishl, 1) := by decide +kernel
theorem dX7_lonely_30 : decode cX7_lonely 30 = .ok (.ior, 1) := by decide +kernel
theorem dX7_lonely_31 : decode cX7_lonely 31 = .ok (.istore_n 1, 1) := by decide +kernel
theorem dX7_lonely_32 : decode cX7_lonely 32 = .ok (.iinc 2 1, 3) := by decide +kernel
theorem dX7_lonely_35 : decode cX7_lonely 35 = .ok (.goto (-31), 3) := by decide +kernel
theorem dX7_lonely_38 : decode cX7_lonely 38 = .ok (.iload_n 1, 1) := by decide +kernel
theorem dX7_lonely_39 : decode cX7_lonely 39 = .ok (.ireturn, 1) := by decide +kernel
theorem dX7_ways_0 : decode cX7_ways 0 = .ok (.aload_n 0, 1) := by decide +kernel
theorem dX7_ways_1 : decode cX7_ways 1 = .ok (.iload_n 1, 1) := by decide +kernel
theorem dX7_ways_2 : decode cX7_ways 2 = .ok (.iload_n 2, 1) := by decide +kernel
theorem dX7_ways_3 : decode cX7_ways 3 = .ok (.invokevirtual 183, 3) := by decide +kernel
theorem dX7_ways_6 : decode cX7_ways 6 = .ok (.ifCond .ne 10, 3) := by decide +kernel
theorem dX7_ways_9 : decode cX7_ways 9 = .ok (.aload_n 0, 1) := by decide +kernel
theorem dX7_ways_10 : decode cX7_ways 10 = .ok (.bipush (-2), 2) := by decide +kernel
theorem dX7_ways_12 : decode cX7_ways 12 = .ok (.invokevirtual 84, 3) := by decide +kernel
theorem dX7_ways_15 : decode cX7_ways 15 = .ok (.ireturn, 1) := by decide +kernel
theorem dX7_ways_16 : decode cX7_ways 16 = .ok (.aload_n 0, 1) := by decide +kernel
theorem dX7_ways_17 : decode cX7_ways 17 = .ok (.getfield 61, 3) := by decide +kernel
theorem dX7_ways_20 : decode cX7_ways 20 = .ok (.aload_n 0, 1) := by decide +kernel
theorem dX7_ways_21 : decode cX7_ways 21 = .ok (.getfield 10, 3) := by decide +kernel
theorem dX7_ways_24 : decode cX7_ways 24 = .ok (.iload_n 1, 1) := by decide +kernel
theorem dX7_ways_25 : decode cX7_ways 25 = .ok (.iload_n 2, 1) := by decide +kernel
theorem dX7_ways_26 : decode cX7_ways 26 = .ok (.invokevirtual 246, 3) := by decide +kernel
theorem dX7_ways_29 : decode cX7_ways 29 = .ok (.aload_n 0, 1) := by decide +kernel
theorem dX7_ways_30 : decode cX7_ways 30 = .ok (.getfield 61, 3) := by decide +kernel
theorem dX7_ways_33 : decode cX7_ways 33 = .ok (.getfield 250, 3) := by decide +kernel
theorem dX7_ways_36 : decode cX7_ways 36 = .ok (.ireturn, 1) := by decide +kernel
theorem dX7_fewest_0 : decode cX7_fewest 0 = .ok (.aload_n 0, 1) := by decide +kernel
theorem dX7_fewest_1 : decode cX7_fewest 1 = .ok (.iload_n 1, 1) := by decide +kernel
theorem dX7_fewest_2 : decode cX7_fewest 2 = .ok (.iload_n 2, 1) := by decide +kernel
theorem dX7_fewest_3 : decode cX7_fewest 3 = .ok (.invokevirtual 183, 3) := by decide +kernel
theorem dX7_fewest_6 : decode cX7_fewest 6 = .ok (.ifCond .ne 10, 3) := by decide +kernel
theorem dX7_fewest_9 : decode cX7_fewest 9 = .ok (.aload_n 0, 1) := by decide +kernel
theorem dX7_fewest_10 : decode cX7_fewest 10 = .ok (.bipush (-2), 2) := by decide +kernel
theorem dX7_fewest_12 : decode cX7_fewest 12 = .ok (.invokevirtual 84, 3) := by decide +kernel
theorem dX7_fewest_15 : decode cX7_fewest 15 = .ok (.ireturn, 1) := by decide +kernel
theorem dX7_fewest_16 : decode cX7_fewest 16 = .ok (.aload_n 0, 1) := by decide +kernel
theorem dX7_fewest_17 : decode cX7_fewest 17 = .ok (.getfield 61, 3) := by decide +kernel
theorem dX7_fewest_20 : decode cX7_fewest 20 = .ok (.aload_n 0, 1) := by decide +kernel
theorem dX7_fewest_21 : decode cX7_fewest 21 = .ok (.getfield 10, 3) := by decide +kernel
theorem dX7_fewest_24 : decode cX7_fewest 24 = .ok (.iload_n 1, 1) := by decide +kernel
theorem dX7_fewest_25 : decode cX7_fewest 25 = .ok (.iload_n 2, 1) := by decide +kernel
theorem dX7_fewest_26 : decode cX7_fewest 26 = .ok (.invokevirtual 246, 3) := by decide +kernel
theorem dX7_fewest_29 : decode cX7_fewest 29 = .ok (.iconst (-1), 1) := by decide +kernel
theorem dX7_fewest_30 : decode cX7_fewest 30 = .ok (.istore_n 3, 1) := by decide +kernel
theorem dX7_fewest_31 : decode cX7_fewest 31 = .ok (.iconst 0, 1) := by decide +kernel
theorem dX7_fewest_32 : decode cX7_fewest 32 = .ok (.istore 4, 2) := by decide +kernel
theorem dX7_fewest_34 : decode cX7_fewest 34 = .ok (.iload 4, 2) := by decide +kernel
theorem dX7_fewest_36 : decode cX7_fewest 36 = .ok (.aload_n 0, 1) := by decide +kernel
theorem dX7_fewest_37 : decode cX7_fewest 37 = .ok (.getfield 61, 3) := by decide +kernel
theorem dX7_fewest_40 : decode cX7_fewest 40 = .ok (.getfield 250, 3) := by decide +kernel
theorem dX7_fewest_43 : decode cX7_fewest 43 = .ok (.if_icmp .ge 36, 3) := by decide +kernel
theorem dX7_fewest_46 : decode cX7_fewest 46 = .ok (.aload_n 0, 1) := by decide +kernel
theorem dX7_fewest_47 : decode cX7_fewest 47 = .ok (.getfield 61, 3) := by decide +kernel
theorem dX7_fewest_50 : decode cX7_fewest 50 = .ok (.iload 4, 2) := by decide +kernel
theorem dX7_fewest_52 : decode cX7_fewest 52 = .ok (.invokevirtual 251, 3) := by decide +kernel
theorem dX7_fewest_55 : decode cX7_fewest 55 = .ok (.iconst 1, 1) := by decide +kernel
theorem dX7_fewest_56 : decode cX7_fewest 56 = .ok (.isub, 1) := by decide +kernel
theorem dX7_fewest_57 : decode cX7_fewest 57 = .ok (.istore 5, 2) := by decide +kernel
theorem dX7_fewest_59 : decode cX7_fewest 59 = .ok (.iload_n 3, 1) := by decide +kernel
theorem dX7_fewest_60 : decode cX7_fewest 60 = .ok (.iconst (-1), 1) := by decide +kernel
theorem dX7_fewest_61 : decode cX7_fewest 61 = .ok (.if_icmp .eq 9, 3) := by decide +kernel
theorem dX7_fewest_64 : decode cX7_fewest 64 = .ok (.iload 5, 2) := by decide +kernel
theorem dX7_fewest_66 : decode cX7_fewest 66 = .ok (.iload_n 3, 1) := by decide +kernel
theorem dX7_fewest_67 : decode cX7_fewest 67 = .ok (.if_icmp .ge 6, 3) := by decide +kernel
theorem dX7_fewest_70 : decode cX7_fewest 70 = .ok (.iload 5, 2) := by decide +kernel
theorem dX7_fewest_72 : decode cX7_fewest 72 = .ok (.istore_n 3, 1) := by decide +kernel
theorem dX7_fewest_73 : decode cX7_fewest 73 = .ok (.iinc 4 1, 3) := by decide +kernel
theorem dX7_fewest_76 : decode cX7_fewest 76 = .ok (.goto (-42), 3) := by decide +kernel
theorem dX7_fewest_79 : decode cX7_fewest 79 = .ok (.iload_n 3, 1) := by decide +kernel
theorem dX7_fewest_80 : decode cX7_fewest 80 = .ok (.ireturn, 1) := by decide +kernel
theorem dX7_surest_0 : decode cX7_surest 0 = .ok (.aload_n 0, 1) := by decide +kernel
theorem dX7_surest_1 : decode cX7_surest 1 = .ok (.iload_n 1, 1) := by decide +kernel
theorem dX7_surest_2 : decode cX7_surest 2 = .ok (.iload_n 2, 1) := by decide +kernel
theorem dX7_surest_3 : decode cX7_surest 3 = .ok (.iload_n 3, 1) := by decide +kernel
theorem dX7_surest_4 : decode cX7_surest 4 = .ok (.iload 4, 2) := by decide +kernel
theorem dX7_surest_6 : decode cX7_surest 6 = .ok (.iconst 0, 1) := by decide +kernel
theorem dX7_surest_7 : decode cX7_surest 7 = .ok (.invokevirtual 254, 3) := by decide +kernel
theorem dX7_surest_10 : decode cX7_surest 10 = .ok (.ireturn, 1) := by decide +kernel
theorem dX7_unread_0 : decode cX7_unread 0 = .ok (.aload_n 0, 1) := by decide +kernel
theorem dX7_unread_1 : decode cX7_unread 1 = .ok (.iload_n 1, 1) := by decide +kernel
theorem dX7_unread_2 : decode cX7_unread 2 = .ok (.iload_n 2, 1) := by decide +kernel
theorem dX7_unread_3 : decode cX7_unread 3 = .ok (.iload_n 3, 1) := by decide +kernel
theorem dX7_unread_4 : decode cX7_unread 4 = .ok (.iload 4, 2) := by decide +kernel
theorem dX7_unread_6 : decode cX7_unread 6 = .ok (.iconst 1, 1) := by decide +kernel
theorem dX7_unread_7 : decode cX7_unread 7 = .ok (.invokevirtual 254, 3) := by decide +kernel
theorem dX7_unread_10 : decode cX7_unread 10 = .ok (.ireturn, 1) := by decide +kernel
theorem dX7_unseen_0 : decode cX7_unseen 0 = .ok (.aload_n 0, 1) := by decide +kernel
theorem dX7_unseen_1 : decode cX7_unseen 1 = .ok (.iload_n 1, 1) := by decide +kernel
theorem dX7_unseen_2 : decode cX7_unseen 2 = .ok (.iload_n 2, 1) := by decide +kernel
theorem dX7_unseen_3 : decode cX7_unseen 3 = .ok (.iload_n 3, 1) := by decide +kernel
theorem dX7_unseen_4 : decode cX7_unseen 4 = .ok (.iload 4, 2) := by decide +kernel
theorem dX7_unseen_6 : decode cX7_unseen 6 = .ok (.iconst 2, 1) := by decide +kernel
theorem dX7_unseen_7 : decode cX7_unseen 7 = .ok (.invokevirtual 254, 3) := by decide +kernel
theorem dX7_unseen_10 : decode cX7_unseen 10 = .ok (.ireturn, 1) := by decide +kernel
theorem dX7_readers_0 : decode cX7_readers 0 = .ok (.aload_n 0, 1) := by decide +kernel
theorem dX7_readers_1 : decode cX7_readers 1 = .ok (.iload_n 1, 1) := by decide +kernel
theorem dX7_readers_2 : decode cX7_readers 2 = .ok (.iload_n 2, 1) := by decide +kernel
theorem dX7_readers_3 : decode cX7_readers 3 = .ok (.invokevirtual 183, 3) := by decide +kernel
theorem dX7_readers_6 : decode cX7_readers 6 = .ok (.ifCond .ne 10, 3) := by decide +kernel
theorem dX7_readers_9 : decode cX7_readers 9 = .ok (.aload_n 0, 1) := by decide +kernel
theorem dX7_readers_10 : decode cX7_readers 10 = .ok (.bipush (-2), 2) := by decide +kernel
theorem dX7_readers_12 : decode cX7_readers 12 = .ok (.invokevirtual 84, 3) := by decide +kernel
theorem dX7_readers_15 : decode cX7_readers 15 = .ok (.ireturn, 1) := by decide +kernel
theorem dX7_readers_16 : decode cX7_readers 16 = .ok (.aload_n 0, 1) := by decide +kernel
theorem dX7_readers_17 : decode cX7_readers 17 = .ok (.getfield 61, 3) := by decide +kernel
theorem dX7_readers_20 : decode cX7_readers 20 = .ok (.aload_n 0, 1) := by decide +kernel
theorem dX7_readers_21 : decode cX7_readers 21 = .ok (.getfield 10, 3) := by decide +kernel
theorem dX7_readers_24 : decode cX7_readers 24 = .ok (.iload_n 1, 1) := by decide +kernel
theorem dX7_readers_25 : decode cX7_readers 25 = .ok (.iload_n 2, 1) := by decide +kernel
theorem dX7_readers_26 : decode cX7_readers 26 = .ok (.invokevirtual 246, 3) := by decide +kernel
theorem dX7_readers_29 : decode cX7_readers 29 = .ok (.aload_n 0, 1) := by decide +kernel
theorem dX7_readers_30 : decode cX7_readers 30 = .ok (.getfield 61, 3) := by decide +kernel
theorem dX7_readers_33 : decode cX7_readers 33 = .ok (.getfield 250, 3) := by decide +kernel
theorem dX7_readers_36 : decode cX7_readers 36 = .ok (.ifCond .ne 10, 3) := by decide +kernel
theorem dX7_readers_39 : decode cX7_readers 39 = .ok (.aload_n 0, 1) := by decide +kernel
theorem dX7_readers_40 : decode cX7_readers 40 = .ok (.bipush (-5), 2) := by decide +kernel
theorem dX7_readers_42 : decode cX7_readers 42 = .ok (.invokevirtual 84, 3) := by decide +kernel
theorem dX7_readers_45 : decode cX7_readers 45 = .ok (.ireturn, 1) := by decide +kernel
theorem dX7_readers_46 : decode cX7_readers 46 = .ok (.bipush 9, 2) := by decide +kernel
theorem dX7_readers_48 : decode cX7_readers 48 = .ok (.istore_n 3, 1) := by decide +kernel
theorem dX7_readers_49 : decode cX7_readers 49 = .ok (.iconst 0, 1) := by decide +kernel
theorem dX7_readers_50 : decode cX7_readers 50 = .ok (.istore 4, 2) := by decide +kernel
theorem dX7_readers_52 : decode cX7_readers 52 = .ok (.iload 4, 2) := by decide +kernel
theorem dX7_readers_54 : decode cX7_readers 54 = .ok (.aload_n 0, 1) := by decide +kernel
theorem dX7_readers_55 : decode cX7_readers 55 = .ok (.getfield 61, 3) := by decide +kernel
theorem dX7_readers_58 : decode cX7_readers 58 = .ok (.getfield 250, 3) := by decide +kernel
theorem dX7_readers_61 : decode cX7_readers 61 = .ok (.if_icmp .ge 33, 3) := by decide +kernel
theorem dX7_readers_64 : decode cX7_readers 64 = .ok (.iload_n 3, 1) := by decide +kernel
theorem dX7_readers_65 : decode cX7_readers 65 = .ok (.aload_n 0, 1) := by decide +kernel
theorem dX7_readers_66 : decode cX7_readers 66 = .ok (.getfield 10, 3) := by decide +kernel
theorem dX7_readers_69 : decode cX7_readers 69 = .ok (.aload_n 0, 1) := by decide +kernel
theorem dX7_readers_70 : decode cX7_readers 70 = .ok (.getfield 61, 3) := by decide +kernel
theorem dX7_readers_73 : decode cX7_readers 73 = .ok (.iload 4, 2) := by decide +kernel
theorem dX7_readers_75 : decode cX7_readers 75 = .ok (.invokevirtual 258, 3) := by decide +kernel
theorem dX7_readers_78 : decode cX7_readers 78 = .ok (.invokevirtual 261, 3) := by decide +kernel
theorem dX7_readers_81 : decode cX7_readers 81 = .ok (.invokestatic 264, 3) := by decide +kernel
theorem dX7_readers_84 : decode cX7_readers 84 = .ok (.invokestatic 205, 3) := by decide +kernel
theorem dX7_readers_87 : decode cX7_readers 87 = .ok (.istore_n 3, 1) := by decide +kernel
theorem dX7_readers_88 : decode cX7_readers 88 = .ok (.iinc 4 1, 3) := by decide +kernel
theorem dX7_readers_91 : decode cX7_readers 91 = .ok (.goto (-39), 3) := by decide +kernel
theorem dX7_readers_94 : decode cX7_readers 94 = .ok (.iload_n 3, 1) := by decide +kernel
theorem dX7_readers_95 : decode cX7_readers 95 = .ok (.ireturn, 1) := by decide +kernel
theorem dX7_together_0 : decode cX7_together 0 = .ok (.aload_n 0, 1) := by decide +kernel
theorem dX7_together_1 : decode cX7_together 1 = .ok (.iload_n 1, 1) := by decide +kernel
theorem dX7_together_2 : decode cX7_together 2 = .ok (.iload_n 2, 1) := by decide +kernel
theorem dX7_together_3 : decode cX7_together 3 = .ok (.invokevirtual 183, 3) := by decide +kernel
theorem dX7_together_6 : decode cX7_together 6 = .ok (.ifCond .eq 21, 3) := by decide +kernel
theorem dX7_together_9 : decode cX7_together 9 = .ok (.aload_n 0, 1) := by decide +kernel
theorem dX7_together_10 : decode cX7_together 10 = .ok (.iload_n 3, 1) := by decide +kernel
theorem dX7_together_11 : decode cX7_together 11 = .ok (.iload 4, 2) := by decide +kernel
theorem dX7_together_13 : decode cX7_together 13 = .ok (.invokevirtual 183, 3) := by decide +kernel
theorem dX7_together_16 : decode cX7_together 16 = .ok (.ifCond .eq 11, 3) := by decide +kernel
theorem dX7_together_19 : decode cX7_together 19 = .ok (.iload 5, 2) := by decide +kernel
theorem dX7_together_21 : decode cX7_together 21 = .ok (.invokestatic 236, 3) := by decide +kernel
theorem dX7_together_24 : decode cX7_together 24 = .ok (.ifCond .ne 10, 3) := by decide +kernel
theorem dX7_together_27 : decode cX7_together 27 = .ok (.aload_n 0, 1) := by decide +kernel
theorem dX7_together_28 : decode cX7_together 28 = .ok (.bipush (-2), 2) := by decide +kernel
theorem dX7_together_30 : decode cX7_together 30 = .ok (.invokevirtual 84, 3) := by decide +kernel
theorem dX7_together_33 : decode cX7_together 33 = .ok (.ireturn, 1) := by decide +kernel
theorem dX7_together_34 : decode cX7_together 34 = .ok (.aload_n 0, 1) := by decide +kernel
theorem dX7_together_35 : decode cX7_together 35 = .ok (.getfield 61, 3) := by decide +kernel
theorem dX7_together_38 : decode cX7_together 38 = .ok (.aload_n 0, 1) := by decide +kernel
theorem dX7_together_39 : decode cX7_together 39 = .ok (.getfield 10, 3) := by decide +kernel
theorem dX7_together_42 : decode cX7_together 42 = .ok (.iload_n 1, 1) := by decide +kernel
theorem dX7_together_43 : decode cX7_together 43 = .ok (.iload_n 2, 1) := by decide +kernel
theorem dX7_together_44 : decode cX7_together 44 = .ok (.invokevirtual 246, 3) := by decide +kernel
theorem dX7_together_47 : decode cX7_together 47 = .ok (.aload_n 0, 1) := by decide +kernel
theorem dX7_together_48 : decode cX7_together 48 = .ok (.getfield 65, 3) := by decide +kernel
theorem dX7_together_51 : decode cX7_together 51 = .ok (.aload_n 0, 1) := by decide +kernel
theorem dX7_together_52 : decode cX7_together 52 = .ok (.getfield 10, 3) := by decide +kernel
theorem dX7_together_55 : decode cX7_together 55 = .ok (.iload_n 3, 1) := by decide +kernel
theorem dX7_together_56 : decode cX7_together 56 = .ok (.iload 4, 2) := by decide +kernel
theorem dX7_together_58 : decode cX7_together 58 = .ok (.invokevirtual 246, 3) := by decide +kernel
theorem dX7_together_61 : decode cX7_together 61 = .ok (.aload_n 0, 1) := by decide +kernel
theorem dX7_together_62 : decode cX7_together 62 = .ok (.getfield 71, 3) := by decide +kernel
theorem dX7_together_65 : decode cX7_together 65 = .ok (.aload_n 0, 1) := by decide +kernel
theorem dX7_together_66 : decode cX7_together 66 = .ok (.getfield 10, 3) := by decide +kernel
theorem dX7_together_69 : decode cX7_together 69 = .ok (.aload_n 0, 1) := by decide +kernel
theorem dX7_together_70 : decode cX7_together 70 = .ok (.getfield 61, 3) := by decide +kernel
theorem dX7_together_73 : decode cX7_together 73 = .ok (.iload 5, 2) := by decide +kernel
theorem dX7_together_75 : decode cX7_together 75 = .ok (.invokevirtual 269, 3) := by decide +kernel
theorem dX7_together_78 : decode cX7_together 78 = .ok (.aload_n 0, 1) := by decide +kernel
theorem dX7_together_79 : decode cX7_together 79 = .ok (.getfield 71, 3) := by decide +kernel
theorem dX7_together_82 : decode cX7_together 82 = .ok (.aload_n 0, 1) := by decide +kernel
theorem dX7_together_83 : decode cX7_together 83 = .ok (.getfield 10, 3) := by decide +kernel
theorem dX7_together_86 : decode cX7_together 86 = .ok (.aload_n 0, 1) := by decide +kernel
theorem dX7_together_87 : decode cX7_together 87 = .ok (.getfield 65, 3) := by decide +kernel
theorem dX7_together_90 : decode cX7_together 90 = .ok (.iload 5, 2) := by decide +kernel
theorem dX7_together_92 : decode cX7_together 92 = .ok (.invokevirtual 269, 3) := by decide +kernel
theorem dX7_together_95 : decode cX7_together 95 = .ok (.iconst (-1), 1) := by decide +kernel
theorem dX7_together_96 : decode cX7_together 96 = .ok (.istore 6, 2) := by decide +kernel
theorem dX7_together_98 : decode cX7_together 98 = .ok (.iconst 0, 1) := by decide +kernel
theorem dX7_together_99 : decode cX7_together 99 = .ok (.istore 7, 2) := by decide +kernel
theorem dX7_together_101 : decode cX7_together 101 = .ok (.iload 7, 2) := by decide +kernel
theorem dX7_together_103 : decode cX7_together 103 = .ok (.aload_n 0, 1) := by decide +kernel
theorem dX7_together_104 : decode cX7_together 104 = .ok (.getfield 61, 3) := by decide +kernel
theorem dX7_together_107 : decode cX7_together 107 = .ok (.getfield 250, 3) := by decide +kernel
theorem dX7_together_110 : decode cX7_together 110 = .ok (.if_icmp .ge 80, 3) := by decide +kernel
theorem dX7_together_113 : decode cX7_together 113 = .ok (.iconst 0, 1) := by decide +kernel
theorem dX7_together_114 : decode cX7_together 114 = .ok (.istore 8, 2) := by decide +kernel
theorem dX7_together_116 : decode cX7_together 116 = .ok (.iload 8, 2) := by decide +kernel
theorem dX7_together_118 : decode cX7_together 118 = .ok (.aload_n 0, 1) := by decide +kernel
theorem dX7_together_119 : decode cX7_together 119 = .ok (.getfield 65, 3) := by decide +kernel
theorem dX7_together_122 : decode cX7_together 122 = .ok (.getfield 250, 3) := by decide +kernel
theorem dX7_together_125 : decode cX7_together 125 = .ok (.if_icmp .ge 59, 3) := by decide +kernel
theorem dX7_together_128 : decode cX7_together 128 = .ok (.aload_n 0, 1) := by decide +kernel
theorem dX7_together_129 : decode cX7_together 129 = .ok (.getfield 61, 3) := by decide +kernel
theorem dX7_together_132 : decode cX7_together 132 = .ok (.iload 7, 2) := by decide +kernel
theorem dX7_together_134 : decode cX7_together 134 = .ok (.invokevirtual 273, 3) := by decide +kernel
theorem dX7_together_137 : decode cX7_together 137 = .ok (.aload_n 0, 1) := by decide +kernel
theorem dX7_together_138 : decode cX7_together 138 = .ok (.getfield 65, 3) := by decide +kernel
theorem dX7_together_141 : decode cX7_together 141 = .ok (.iload 8, 2) := by decide +kernel
theorem dX7_together_143 : decode cX7_together 143 = .ok (.invokevirtual 273, 3) := by decide +kernel
theorem dX7_together_146 : decode cX7_together 146 = .ok (.iand, 1) := by decide +kernel
theorem dX7_together_147 : decode cX7_together 147 = .ok (.ifCond .ne 31, 3) := by decide +kernel
theorem dX7_together_150 : decode cX7_together 150 = .ok (.iload 6, 2) := by decide +kernel
theorem dX7_together_152 : decode cX7_together 152 = .ok (.aload_n 0, 1) := by decide +kernel
theorem dX7_together_153 : decode cX7_together 153 = .ok (.getfield 61, 3) := by decide +kernel
theorem dX7_together_156 : decode cX7_together 156 = .ok (.iload 7, 2) := by decide +kernel
theorem dX7_together_158 : decode cX7_together 158 = .ok (.invokevirtual 276, 3) := by decide +kernel
theorem dX7_together_161 : decode cX7_together 161 = .ok (.aload_n 0, 1) := by decide +kernel
theorem dX7_together_162 : decode cX7_together 162 = .ok (.getfield 65, 3) := by decide +kernel
theorem dX7_together_165 : decode cX7_together 165 = .ok (.iload 8, 2) := by decide +kernel
theorem dX7_together_167 : decode cX7_together 167 = .ok (.invokevirtual 276, 3) := by decide +kernel
theorem dX7_together_170 : decode cX7_together 170 = .ok (.invokestatic 279, 3) := by decide +kernel
theorem dX7_together_173 : decode cX7_together 173 = .ok (.invokestatic 282, 3) := by decide +kernel
theorem dX7_together_176 : decode cX7_together 176 = .ok (.istore 6, 2) := by decide +kernel
theorem dX7_together_178 : decode cX7_together 178 = .ok (.iinc 8 1, 3) := by decide +kernel
theorem dX7_together_181 : decode cX7_together 181 = .ok (.goto (-65), 3) := by decide +kernel
theorem dX7_together_184 : decode cX7_together 184 = .ok (.iinc 7 1, 3) := by decide +kernel
theorem dX7_together_187 : decode cX7_together 187 = .ok (.goto (-86), 3) := by decide +kernel
theorem dX7_together_190 : decode cX7_together 190 = .ok (.iload 6, 2) := by decide +kernel
theorem dX7_together_192 : decode cX7_together 192 = .ok (.iconst (-1), 1) := by decide +kernel
theorem dX7_together_193 : decode cX7_together 193 = .ok (.if_icmp .ne 12, 3) := by decide +kernel
theorem dX7_together_196 : decode cX7_together 196 = .ok (.aload_n 0, 1) := by decide +kernel
theorem dX7_together_197 : decode cX7_together 197 = .ok (.bipush (-5), 2) := by decide +kernel
theorem dX7_together_199 : decode cX7_together 199 = .ok (.invokevirtual 84, 3) := by decide +kernel
theorem dX7_together_202 : decode cX7_together 202 = .ok (.goto 5, 3) := by decide +kernel
theorem dX7_together_205 : decode cX7_together 205 = .ok (.iload 6, 2) := by decide +kernel
theorem dX7_together_207 : decode cX7_together 207 = .ok (.ireturn, 1) := by decide +kernel
theorem dX7_spot_0 : decode cX7_spot 0 = .ok (.iload_n 1, 1) := by decide +kernel
theorem dX7_spot_1 : decode cX7_spot 1 = .ok (.invokestatic 139, 3) := by decide +kernel
theorem dX7_spot_4 : decode cX7_spot 4 = .ok (.ifCond .eq 20, 3) := by decide +kernel
theorem dX7_spot_7 : decode cX7_spot 7 = .ok (.iload_n 2, 1) := by decide +kernel
theorem dX7_spot_8 : decode cX7_spot 8 = .ok (.invokestatic 170, 3) := by decide +kernel
theorem dX7_spot_11 : decode cX7_spot 11 = .ok (.ifCond .eq 13, 3) := by decide +kernel
theorem dX7_spot_14 : decode cX7_spot 14 = .ok (.aload_n 0, 1) := by decide +kernel
theorem dX7_spot_15 : decode cX7_spot 15 = .ok (.iload_n 3, 1) := by decide +kernel
theorem dX7_spot_16 : decode cX7_spot 16 = .ok (.iload 4, 2) := by decide +kernel
theorem dX7_spot_18 : decode cX7_spot 18 = .ok (.invokevirtual 183, 3) := by decide +kernel
theorem dX7_spot_21 : decode cX7_spot 21 = .ok (.ifCond .ne 10, 3) := by decide +kernel
theorem dX7_spot_24 : decode cX7_spot 24 = .ok (.aload_n 0, 1) := by decide +kernel
theorem dX7_spot_25 : decode cX7_spot 25 = .ok (.bipush (-2), 2) := by decide +kernel
theorem dX7_spot_27 : decode cX7_spot 27 = .ok (.invokevirtual 84, 3) := by decide +kernel
theorem dX7_spot_30 : decode cX7_spot 30 = .ok (.ireturn, 1) := by decide +kernel
theorem dX7_spot_31 : decode cX7_spot 31 = .ok (.aload_n 0, 1) := by decide +kernel
theorem dX7_spot_32 : decode cX7_spot 32 = .ok (.getfield 10, 3) := by decide +kernel
theorem dX7_spot_35 : decode cX7_spot 35 = .ok (.invokevirtual 176, 3) := by decide +kernel
theorem dX7_spot_38 : decode cX7_spot 38 = .ok (.ifCond .eq 10, 3) := by decide +kernel
theorem dX7_spot_41 : decode cX7_spot 41 = .ok (.aload_n 0, 1) := by decide +kernel
theorem dX7_spot_42 : decode cX7_spot 42 = .ok (.bipush (-6), 2) := by decide +kernel
theorem dX7_spot_44 : decode cX7_spot 44 = .ok (.invokevirtual 84, 3) := by decide +kernel
theorem dX7_spot_47 : decode cX7_spot 47 = .ok (.ireturn, 1) := by decide +kernel
theorem dX7_spot_48 : decode cX7_spot 48 = .ok (.iconst (-1), 1) := by decide +kernel
theorem dX7_spot_49 : decode cX7_spot 49 = .ok (.istore 5, 2) := by decide +kernel
theorem dX7_spot_51 : decode cX7_spot 51 = .ok (.iconst (-1), 1) := by decide +kernel
theorem dX7_spot_52 : decode cX7_spot 52 = .ok (.istore 6, 2) := by decide +kernel
theorem dX7_spot_54 : decode cX7_spot 54 = .ok (.iconst 0, 1) := by decide +kernel
theorem dX7_spot_55 : decode cX7_spot 55 = .ok (.istore 7, 2) := by decide +kernel
theorem dX7_spot_57 : decode cX7_spot 57 = .ok (.iload 7, 2) := by decide +kernel
theorem dX7_spot_59 : decode cX7_spot 59 = .ok (.aload_n 0, 1) := by decide +kernel
theorem dX7_spot_60 : decode cX7_spot 60 = .ok (.getfield 10, 3) := by decide +kernel
theorem dX7_spot_63 : decode cX7_spot 63 = .ok (.invokevirtual 285, 3) := by decide +kernel
theorem dX7_spot_66 : decode cX7_spot 66 = .ok (.if_icmp .ge 80, 3) := by decide +kernel
theorem dX7_spot_69 : decode cX7_spot 69 = .ok (.aload_n 0, 1) := by decide +kernel
theorem dX7_spot_70 : decode cX7_spot 70 = .ok (.getfield 10, 3) := by decide +kernel
theorem dX7_spot_73 : decode cX7_spot 73 = .ok (.iload 7, 2) := by decide +kernel
theorem dX7_spot_75 : decode cX7_spot 75 = .ok (.invokevirtual 173, 3) := by decide +kernel
theorem dX7_spot_78 : decode cX7_spot 78 = .ok (.iconst (-1), 1) := by decide +kernel
theorem dX7_spot_79 : decode cX7_spot 79 = .ok (.if_icmp .ne 61, 3) := by decide +kernel
theorem dX7_spot_82 : decode cX7_spot 82 = .ok (.aload_n 0, 1) := by decide +kernel
theorem dX7_spot_83 : decode cX7_spot 83 = .ok (.getfield 16, 3) := by decide +kernel
theorem dX7_spot_86 : decode cX7_spot 86 = .ok (.aload_n 0, 1) := by decide +kernel
theorem dX7_spot_87 : decode cX7_spot 87 = .ok (.getfield 10, 3) := by decide +kernel
theorem dX7_spot_90 : decode cX7_spot 90 = .ok (.invokevirtual 217, 3) := by decide +kernel
theorem dX7_spot_93 : decode cX7_spot 93 = .ok (.aload_n 0, 1) := by decide +kernel
theorem dX7_spot_94 : decode cX7_spot 94 = .ok (.getfield 16, 3) := by decide +kernel
theorem dX7_spot_97 : decode cX7_spot 97 = .ok (.iload_n 1, 1) := by decide +kernel
theorem dX7_spot_98 : decode cX7_spot 98 = .ok (.iload 7, 2) := by decide +kernel
theorem dX7_spot_100 : decode cX7_spot 100 = .ok (.iload_n 2, 1) := by decide +kernel
theorem dX7_spot_101 : decode cX7_spot 101 = .ok (.invokevirtual 179, 3) := by decide +kernel
theorem dX7_spot_104 : decode cX7_spot 104 = .ok (.pop, 1) := by decide +kernel
theorem dX7_spot_105 : decode cX7_spot 105 = .ok (.aload_n 0, 1) := by decide +kernel
theorem dX7_spot_106 : decode cX7_spot 106 = .ok (.aload_n 0, 1) := by decide +kernel
theorem dX7_spot_107 : decode cX7_spot 107 = .ok (.getfield 16, 3) := by decide +kernel
theorem dX7_spot_110 : decode cX7_spot 110 = .ok (.iload_n 3, 1) := by decide +kernel
theorem dX7_spot_111 : decode cX7_spot 111 = .ok (.iload 4, 2) := by decide +kernel
theorem dX7_spot_113 : decode cX7_spot 113 = .ok (.iconst 0, 1) := by decide +kernel
theorem dX7_spot_114 : decode cX7_spot 114 = .ok (.invokevirtual 288, 3) := by decide +kernel
theorem dX7_spot_117 : decode cX7_spot 117 = .ok (.istore 8, 2) := by decide +kernel
theorem dX7_spot_119 : decode cX7_spot 119 = .ok (.iload 5, 2) := by decide +kernel
theorem dX7_spot_121 : decode cX7_spot 121 = .ok (.iconst (-1), 1) := by decide +kernel
theorem dX7_spot_122 : decode cX7_spot 122 = .ok (.if_icmp .eq 10, 3) := by decide +kernel
theorem dX7_spot_125 : decode cX7_spot 125 = .ok (.iload 8, 2) := by decide +kernel
theorem dX7_spot_127 : decode cX7_spot 127 = .ok (.iload 6, 2) := by decide +kernel
theorem dX7_spot_129 : decode cX7_spot 129 = .ok (.if_icmp .le 11, 3) := by decide +kernel
theorem dX7_spot_132 : decode cX7_spot 132 = .ok (.iload 7, 2) := by decide +kernel
theorem dX7_spot_134 : decode cX7_spot 134 = .ok (.istore 5, 2) := by decide +kernel
theorem dX7_spot_136 : decode cX7_spot 136 = .ok (.iload 8, 2) := by decide +kernel
theorem dX7_spot_138 : decode cX7_spot 138 = .ok (.istore 6, 2) := by decide +kernel
theorem dX7_spot_140 : decode cX7_spot 140 = .ok (.iinc 7 1, 3) := by decide +kernel
theorem dX7_spot_143 : decode cX7_spot 143 = .ok (.goto (-86), 3) := by decide +kernel
theorem dX7_spot_146 : decode cX7_spot 146 = .ok (.iload 5, 2) := by decide +kernel
theorem dX7_spot_148 : decode cX7_spot 148 = .ok (.iconst (-1), 1) := by decide +kernel
theorem dX7_spot_149 : decode cX7_spot 149 = .ok (.if_icmp .ne 12, 3) := by decide +kernel
theorem dX7_spot_152 : decode cX7_spot 152 = .ok (.aload_n 0, 1) := by decide +kernel
theorem dX7_spot_153 : decode cX7_spot 153 = .ok (.bipush (-5), 2) := by decide +kernel
theorem dX7_spot_155 : decode cX7_spot 155 = .ok (.invokevirtual 84, 3) := by decide +kernel
theorem dX7_spot_158 : decode cX7_spot 158 = .ok (.goto 5, 3) := by decide +kernel
theorem dX7_spot_161 : decode cX7_spot 161 = .ok (.iload 5, 2) := by decide +kernel
theorem dX7_spot_163 : decode cX7_spot 163 = .ok (.ireturn, 1) := by decide +kernel
theorem dX7_when_0 : decode cX7_when 0 = .ok (.aload_n 0, 1) := by decide +kernel
theorem dX7_when_1 : decode cX7_when 1 = .ok (.iload_n 1, 1) := by decide +kernel
theorem dX7_when_2 : decode cX7_when 2 = .ok (.iload_n 2, 1) := by decide +kernel
theorem dX7_when_3 : decode cX7_when 3 = .ok (.invokevirtual 183, 3) := by decide +kernel
theorem dX7_when_6 : decode cX7_when 6 = .ok (.ifCond .ne 10, 3) := by decide +kernel
theorem dX7_when_9 : decode cX7_when 9 = .ok (.aload_n 0, 1) := by decide +kernel
theorem dX7_when_10 : decode cX7_when 10 = .ok (.bipush (-2), 2) := by decide +kernel
theorem dX7_when_12 : decode cX7_when 12 = .ok (.invokevirtual 84, 3) := by decide +kernel
theorem dX7_when_15 : decode cX7_when 15 = .ok (.ireturn, 1) := by decide +kernel
theorem dX7_when_16 : decode cX7_when 16 = .ok (.aload_n 0, 1) := by decide +kernel
theorem dX7_when_17 : decode cX7_when 17 = .ok (.getfield 61, 3) := by decide +kernel
theorem dX7_when_20 : decode cX7_when 20 = .ok (.aload_n 0, 1) := by decide +kernel
theorem dX7_when_21 : decode cX7_when 21 = .ok (.getfield 10, 3) := by decide +kernel
theorem dX7_when_24 : decode cX7_when 24 = .ok (.iload_n 1, 1) := by decide +kernel
theorem dX7_when_25 : decode cX7_when 25 = .ok (.iload_n 2, 1) := by decide +kernel
theorem dX7_when_26 : decode cX7_when 26 = .ok (.invokevirtual 246, 3) := by decide +kernel
theorem dX7_when_29 : decode cX7_when 29 = .ok (.iconst (-1), 1) := by decide +kernel
theorem dX7_when_30 : decode cX7_when 30 = .ok (.istore_n 3, 1) := by decide +kernel
theorem dX7_when_31 : decode cX7_when 31 = .ok (.iconst (-1), 1) := by decide +kernel
theorem dX7_when_32 : decode cX7_when 32 = .ok (.istore 4, 2) := by decide +kernel
theorem dX7_when_34 : decode cX7_when 34 = .ok (.iconst 0, 1) := by decide +kernel
theorem dX7_when_35 : decode cX7_when 35 = .ok (.istore 5, 2) := by decide +kernel
theorem dX7_when_37 : decode cX7_when 37 = .ok (.iload 5, 2) := by decide +kernel
theorem dX7_when_39 : decode cX7_when 39 = .ok (.aload_n 0, 1) := by decide +kernel
theorem dX7_when_40 : decode cX7_when 40 = .ok (.getfield 10, 3) := by decide +kernel
theorem dX7_when_43 : decode cX7_when 43 = .ok (.getfield 199, 3) := by decide +kernel
theorem dX7_when_46 : decode cX7_when 46 = .ok (.if_icmp .ge 54, 3) := by decide +kernel
theorem dX7_when_49 : decode cX7_when 49 = .ok (.aload_n 0, 1) := by decide +kernel
theorem dX7_when_50 : decode cX7_when 50 = .ok (.getfield 71, 3) := by decide +kernel
theorem dX7_when_53 : decode cX7_when 53 = .ok (.aload_n 0, 1) := by decide +kernel
theorem dX7_when_54 : decode cX7_when 54 = .ok (.getfield 10, 3) := by decide +kernel
theorem dX7_when_57 : decode cX7_when 57 = .ok (.aload_n 0, 1) := by decide +kernel
theorem dX7_when_58 : decode cX7_when 58 = .ok (.getfield 61, 3) := by decide +kernel
theorem dX7_when_61 : decode cX7_when 61 = .ok (.iload 5, 2) := by decide +kernel
theorem dX7_when_63 : decode cX7_when 63 = .ok (.iconst 0, 1) := by decide +kernel
theorem dX7_when_64 : decode cX7_when 64 = .ok (.invokevirtual 292, 3) := by decide +kernel
theorem dX7_when_67 : decode cX7_when 67 = .ok (.ifCond .eq 27, 3) := by decide +kernel
theorem dX7_when_70 : decode cX7_when 70 = .ok (.aload_n 0, 1) := by decide +kernel
theorem dX7_when_71 : decode cX7_when 71 = .ok (.getfield 71, 3) := by decide +kernel
theorem dX7_when_74 : decode cX7_when 74 = .ok (.getfield 296, 3) := by decide +kernel
theorem dX7_when_77 : decode cX7_when 77 = .ok (.iload 4, 2) := by decide +kernel
theorem dX7_when_79 : decode cX7_when 79 = .ok (.if_icmp .le 15, 3) := by decide +kernel
theorem dX7_when_82 : decode cX7_when 82 = .ok (.iload 5, 2) := by decide +kernel
theorem dX7_when_84 : decode cX7_when 84 = .ok (.istore_n 3, 1) := by decide +kernel
theorem dX7_when_85 : decode cX7_when 85 = .ok (.aload_n 0, 1) := by decide +kernel
theorem dX7_when_86 : decode cX7_when 86 = .ok (.getfield 71, 3) := by decide +kernel
theorem dX7_when_89 : decode cX7_when 89 = .ok (.getfield 296, 3) := by decide +kernel
theorem dX7_when_92 : decode cX7_when 92 = .ok (.istore 4, 2) := by decide +kernel
theorem dX7_when_94 : decode cX7_when 94 = .ok (.iinc 5 1, 3) := by decide +kernel
theorem dX7_when_97 : decode cX7_when 97 = .ok (.goto (-60), 3) := by decide +kernel
theorem dX7_when_100 : decode cX7_when 100 = .ok (.iload_n 3, 1) := by decide +kernel
theorem dX7_when_101 : decode cX7_when 101 = .ok (.iconst (-1), 1) := by decide +kernel
theorem dX7_when_102 : decode cX7_when 102 = .ok (.if_icmp .ne 12, 3) := by decide +kernel
theorem dX7_when_105 : decode cX7_when 105 = .ok (.aload_n 0, 1) := by decide +kernel
theorem dX7_when_106 : decode cX7_when 106 = .ok (.bipush (-5), 2) := by decide +kernel
theorem dX7_when_108 : decode cX7_when 108 = .ok (.invokevirtual 84, 3) := by decide +kernel
theorem dX7_when_111 : decode cX7_when 111 = .ok (.goto 4, 3) := by decide +kernel
theorem dX7_when_114 : decode cX7_when 114 = .ok (.iload_n 3, 1) := by decide +kernel
theorem dX7_when_115 : decode cX7_when 115 = .ok (.ireturn, 1) := by decide +kernel
theorem dX7_answer_0 : decode cX7_answer 0 = .ok (.aload_n 0, 1) := by decide +kernel
theorem dX7_answer_1 : decode cX7_answer 1 = .ok (.iload_n 1, 1) := by decide +kernel
theorem dX7_answer_2 : decode cX7_answer 2 = .ok (.iload_n 2, 1) := by decide +kernel
theorem dX7_answer_3 : decode cX7_answer 3 = .ok (.invokevirtual 183, 3) := by decide +kernel
theorem dX7_answer_6 : decode cX7_answer 6 = .ok (.ifCond .eq 10, 3) := by decide +kernel
theorem dX7_answer_9 : decode cX7_answer 9 = .ok (.iload_n 3, 1) := by decide +kernel
theorem dX7_answer_10 : decode cX7_answer 10 = .ok (.invokestatic 236, 3) := by decide +kernel
theorem dX7_answer_13 : decode cX7_answer 13 = .ok (.ifCond .ne 10, 3) := by decide +kernel
theorem dX7_answer_16 : decode cX7_answer 16 = .ok (.aload_n 0, 1) := by decide +kernel
theorem dX7_answer_17 : decode cX7_answer 17 = .ok (.bipush (-2), 2) := by decide +kernel
theorem dX7_answer_19 : decode cX7_answer 19 = .ok (.invokevirtual 84, 3) := by decide +kernel
theorem dX7_answer_22 : decode cX7_answer 22 = .ok (.ireturn, 1) := by decide +kernel
theorem dX7_answer_23 : decode cX7_answer 23 = .ok (.aload_n 0, 1) := by decide +kernel
theorem dX7_answer_24 : decode cX7_answer 24 = .ok (.aload_n 0, 1) := by decide +kernel
theorem dX7_answer_25 : decode cX7_answer 25 = .ok (.getfield 10, 3) := by decide +kernel
theorem dX7_answer_28 : decode cX7_answer 28 = .ok (.iload_n 1, 1) := by decide +kernel
theorem dX7_answer_29 : decode cX7_answer 29 = .ok (.iload_n 2, 1) := by decide +kernel
theorem dX7_answer_30 : decode cX7_answer 30 = .ok (.iload_n 3, 1) := by decide +kernel
theorem dX7_answer_31 : decode cX7_answer 31 = .ok (.invokevirtual 288, 3) := by decide +kernel
theorem dX7_answer_34 : decode cX7_answer 34 = .ok (.istore 4, 2) := by decide +kernel
theorem dX7_answer_36 : decode cX7_answer 36 = .ok (.iload 4, 2) := by decide +kernel
theorem dX7_answer_38 : decode cX7_answer 38 = .ok (.iconst (-1), 1) := by decide +kernel
theorem dX7_answer_39 : decode cX7_answer 39 = .ok (.if_icmp .ne 10, 3) := by decide +kernel
theorem dX7_answer_42 : decode cX7_answer 42 = .ok (.aload_n 0, 1) := by decide +kernel
theorem dX7_answer_43 : decode cX7_answer 43 = .ok (.bipush (-5), 2) := by decide +kernel
theorem dX7_answer_45 : decode cX7_answer 45 = .ok (.invokevirtual 84, 3) := by decide +kernel
theorem dX7_answer_48 : decode cX7_answer 48 = .ok (.ireturn, 1) := by decide +kernel
theorem dX7_answer_49 : decode cX7_answer 49 = .ok (.aload_n 0, 1) := by decide +kernel
theorem dX7_answer_50 : decode cX7_answer 50 = .ok (.aload_n 0, 1) := by decide +kernel
theorem dX7_answer_51 : decode cX7_answer 51 = .ok (.getfield 10, 3) := by decide +kernel
theorem dX7_answer_54 : decode cX7_answer 54 = .ok (.iload_n 2, 1) := by decide +kernel
theorem dX7_answer_55 : decode cX7_answer 55 = .ok (.iload_n 1, 1) := by decide +kernel
theorem dX7_answer_56 : decode cX7_answer 56 = .ok (.iload_n 3, 1) := by decide +kernel
theorem dX7_answer_57 : decode cX7_answer 57 = .ok (.aload_n 0, 1) := by decide +kernel
theorem dX7_answer_58 : decode cX7_answer 58 = .ok (.getfield 71, 3) := by decide +kernel
theorem dX7_answer_61 : decode cX7_answer 61 = .ok (.getfield 299, 3) := by decide +kernel
theorem dX7_answer_64 : decode cX7_answer 64 = .ok (.iadd, 1) := by decide +kernel
theorem dX7_answer_65 : decode cX7_answer 65 = .ok (.invokevirtual 288, 3) := by decide +kernel
theorem dX7_answer_68 : decode cX7_answer 68 = .ok (.istore 5, 2) := by decide +kernel
theorem dX7_answer_70 : decode cX7_answer 70 = .ok (.iload 5, 2) := by decide +kernel
theorem dX7_answer_72 : decode cX7_answer 72 = .ok (.iconst (-1), 1) := by decide +kernel
theorem dX7_answer_73 : decode cX7_answer 73 = .ok (.if_icmp .ne 12, 3) := by decide +kernel
theorem dX7_answer_76 : decode cX7_answer 76 = .ok (.aload_n 0, 1) := by decide +kernel
theorem dX7_answer_77 : decode cX7_answer 77 = .ok (.bipush (-5), 2) := by decide +kernel
theorem dX7_answer_79 : decode cX7_answer 79 = .ok (.invokevirtual 84, 3) := by decide +kernel
theorem dX7_answer_82 : decode cX7_answer 82 = .ok (.goto 10, 3) := by decide +kernel
theorem dX7_answer_85 : decode cX7_answer 85 = .ok (.iload 4, 2) := by decide +kernel
theorem dX7_answer_87 : decode cX7_answer 87 = .ok (.iload 5, 2) := by decide +kernel
theorem dX7_answer_89 : decode cX7_answer 89 = .ok (.invokestatic 279, 3) := by decide +kernel
theorem dX7_answer_92 : decode cX7_answer 92 = .ok (.ireturn, 1) := by decide +kernel
theorem dX7_halves_0 : decode cX7_halves 0 = .ok (.aload_n 0, 1) := by decide +kernel
theorem dX7_halves_1 : decode cX7_halves 1 = .ok (.iload_n 1, 1) := by decide +kernel
theorem dX7_halves_2 : decode cX7_halves 2 = .ok (.iload_n 2, 1) := by decide +kernel
theorem dX7_halves_3 : decode cX7_halves 3 = .ok (.invokevirtual 183, 3) := by decide +kernel
theorem dX7_halves_6 : decode cX7_halves 6 = .ok (.ifCond .eq 10, 3) := by decide +kernel
theorem dX7_halves_9 : decode cX7_halves 9 = .ok (.iload_n 3, 1) := by decide +kernel
theorem dX7_halves_10 : decode cX7_halves 10 = .ok (.invokestatic 236, 3) := by decide +kernel
theorem dX7_halves_13 : decode cX7_halves 13 = .ok (.ifCond .ne 10, 3) := by decide +kernel
theorem dX7_halves_16 : decode cX7_halves 16 = .ok (.aload_n 0, 1) := by decide +kernel
theorem dX7_halves_17 : decode cX7_halves 17 = .ok (.bipush (-2), 2) := by decide +kernel
theorem dX7_halves_19 : decode cX7_halves 19 = .ok (.invokevirtual 84, 3) := by decide +kernel
theorem dX7_halves_22 : decode cX7_halves 22 = .ok (.ireturn, 1) := by decide +kernel
theorem dX7_halves_23 : decode cX7_halves 23 = .ok (.aload_n 0, 1) := by decide +kernel
theorem dX7_halves_24 : decode cX7_halves 24 = .ok (.getfield 61, 3) := by decide +kernel
theorem dX7_halves_27 : decode cX7_halves 27 = .ok (.aload_n 0, 1) := by decide +kernel
theorem dX7_halves_28 : decode cX7_halves 28 = .ok (.getfield 10, 3) := by decide +kernel
theorem dX7_halves_31 : decode cX7_halves 31 = .ok (.iload_n 1, 1) := by decide +kernel
theorem dX7_halves_32 : decode cX7_halves 32 = .ok (.iload_n 2, 1) := by decide +kernel
theorem dX7_halves_33 : decode cX7_halves 33 = .ok (.invokevirtual 246, 3) := by decide +kernel
theorem dX7_halves_36 : decode cX7_halves 36 = .ok (.aload_n 0, 1) := by decide +kernel
theorem dX7_halves_37 : decode cX7_halves 37 = .ok (.getfield 71, 3) := by decide +kernel
theorem dX7_halves_40 : decode cX7_halves 40 = .ok (.aload_n 0, 1) := by decide +kernel
theorem dX7_halves_41 : decode cX7_halves 41 = .ok (.getfield 10, 3) := by decide +kernel
theorem dX7_halves_44 : decode cX7_halves 44 = .ok (.aload_n 0, 1) := by decide +kernel
theorem dX7_halves_45 : decode cX7_halves 45 = .ok (.getfield 61, 3) := by decide +kernel
theorem dX7_halves_48 : decode cX7_halves 48 = .ok (.iload_n 3, 1) := by decide +kernel
theorem dX7_halves_49 : decode cX7_halves 49 = .ok (.invokevirtual 269, 3) := by decide +kernel
theorem dX7_halves_52 : decode cX7_halves 52 = .ok (.iconst (-1), 1) := by decide +kernel
theorem dX7_halves_53 : decode cX7_halves 53 = .ok (.istore 4, 2) := by decide +kernel
theorem dX7_halves_55 : decode cX7_halves 55 = .ok (.iconst 0, 1) := by decide +kernel
theorem dX7_halves_56 : decode cX7_halves 56 = .ok (.istore 5, 2) := by decide +kernel
theorem dX7_halves_58 : decode cX7_halves 58 = .ok (.iload 5, 2) := by decide +kernel
theorem dX7_halves_60 : decode cX7_halves 60 = .ok (.aload_n 0, 1) := by decide +kernel
theorem dX7_halves_61 : decode cX7_halves 61 = .ok (.getfield 61, 3) := by decide +kernel
theorem dX7_halves_64 : decode cX7_halves 64 = .ok (.getfield 250, 3) := by decide +kernel
theorem dX7_halves_67 : decode cX7_halves 67 = .ok (.if_icmp .ge 83, 3) := by decide +kernel
theorem dX7_halves_70 : decode cX7_halves 70 = .ok (.iload 5, 2) := by decide +kernel
theorem dX7_halves_72 : decode cX7_halves 72 = .ok (.iconst 1, 1) := by decide +kernel
theorem dX7_halves_73 : decode cX7_halves 73 = .ok (.iadd, 1) := by decide +kernel
theorem dX7_halves_74 : decode cX7_halves 74 = .ok (.istore 6, 2) := by decide +kernel
theorem dX7_halves_76 : decode cX7_halves 76 = .ok (.iload 6, 2) := by decide +kernel
theorem dX7_halves_78 : decode cX7_halves 78 = .ok (.aload_n 0, 1) := by decide +kernel
theorem dX7_halves_79 : decode cX7_halves 79 = .ok (.getfield 61, 3) := by decide +kernel
theorem dX7_halves_82 : decode cX7_halves 82 = .ok (.getfield 250, 3) := by decide +kernel
theorem dX7_halves_85 : decode cX7_halves 85 = .ok (.if_icmp .ge 59, 3) := by decide +kernel
theorem dX7_halves_88 : decode cX7_halves 88 = .ok (.aload_n 0, 1) := by decide +kernel
theorem dX7_halves_89 : decode cX7_halves 89 = .ok (.getfield 61, 3) := by decide +kernel
theorem dX7_halves_92 : decode cX7_halves 92 = .ok (.iload 5, 2) := by decide +kernel
theorem dX7_halves_94 : decode cX7_halves 94 = .ok (.invokevirtual 258, 3) := by decide +kernel
theorem dX7_halves_97 : decode cX7_halves 97 = .ok (.aload_n 0, 1) := by decide +kernel
theorem dX7_halves_98 : decode cX7_halves 98 = .ok (.getfield 61, 3) := by decide +kernel
theorem dX7_halves_101 : decode cX7_halves 101 = .ok (.iload 6, 2) := by decide +kernel
theorem dX7_halves_103 : decode cX7_halves 103 = .ok (.invokevirtual 258, 3) := by decide +kernel
theorem dX7_halves_106 : decode cX7_halves 106 = .ok (.iand, 1) := by decide +kernel
theorem dX7_halves_107 : decode cX7_halves 107 = .ok (.ifCond .ne 31, 3) := by decide +kernel
theorem dX7_halves_110 : decode cX7_halves 110 = .ok (.iload 4, 2) := by decide +kernel
theorem dX7_halves_112 : decode cX7_halves 112 = .ok (.aload_n 0, 1) := by decide +kernel
theorem dX7_halves_113 : decode cX7_halves 113 = .ok (.getfield 61, 3) := by decide +kernel
theorem dX7_halves_116 : decode cX7_halves 116 = .ok (.iload 5, 2) := by decide +kernel
theorem dX7_halves_118 : decode cX7_halves 118 = .ok (.invokevirtual 276, 3) := by decide +kernel
theorem dX7_halves_121 : decode cX7_halves 121 = .ok (.aload_n 0, 1) := by decide +kernel
theorem dX7_halves_122 : decode cX7_halves 122 = .ok (.getfield 61, 3) := by decide +kernel
theorem dX7_halves_125 : decode cX7_halves 125 = .ok (.iload 6, 2) := by decide +kernel
theorem dX7_halves_127 : decode cX7_halves 127 = .ok (.invokevirtual 276, 3) := by decide +kernel
theorem dX7_halves_130 : decode cX7_halves 130 = .ok (.invokestatic 279, 3) := by decide +kernel
theorem dX7_halves_133 : decode cX7_halves 133 = .ok (.invokestatic 282, 3) := by decide +kernel
theorem dX7_halves_136 : decode cX7_halves 136 = .ok (.istore 4, 2) := by decide +kernel
theorem dX7_halves_138 : decode cX7_halves 138 = .ok (.iinc 6 1, 3) := by decide +kernel
theorem dX7_halves_141 : decode cX7_halves 141 = .ok (.goto (-65), 3) := by decide +kernel
theorem dX7_halves_144 : decode cX7_halves 144 = .ok (.iinc 5 1, 3) := by decide +kernel
theorem dX7_halves_147 : decode cX7_halves 147 = .ok (.goto (-89), 3) := by decide +kernel
theorem dX7_halves_150 : decode cX7_halves 150 = .ok (.iload 4, 2) := by decide +kernel
theorem dX7_halves_152 : decode cX7_halves 152 = .ok (.iconst (-1), 1) := by decide +kernel
theorem dX7_halves_153 : decode cX7_halves 153 = .ok (.if_icmp .ne 12, 3) := by decide +kernel
theorem dX7_halves_156 : decode cX7_halves 156 = .ok (.aload_n 0, 1) := by decide +kernel
theorem dX7_halves_157 : decode cX7_halves 157 = .ok (.bipush (-5), 2) := by decide +kernel
theorem dX7_halves_159 : decode cX7_halves 159 = .ok (.invokevirtual 84, 3) := by decide +kernel
theorem dX7_halves_162 : decode cX7_halves 162 = .ok (.goto 5, 3) := by decide +kernel
theorem dX7_halves_165 : decode cX7_halves 165 = .ok (.iload 4, 2) := by decide +kernel
theorem dX7_halves_167 : decode cX7_halves 167 = .ok (.ireturn, 1) := by decide +kernel
theorem dX7_must_0 : decode cX7_must 0 = .ok (.aload_n 0, 1) := by decide +kernel
theorem dX7_must_1 : decode cX7_must 1 = .ok (.iload_n 1, 1) := by decide +kernel
theorem dX7_must_2 : decode cX7_must 2 = .ok (.iload_n 2, 1) := by decide +kernel
theorem dX7_must_3 : decode cX7_must 3 = .ok (.invokevirtual 183, 3) := by decide +kernel
theorem dX7_must_6 : decode cX7_must 6 = .ok (.ifCond .ne 10, 3) := by decide +kernel
theorem dX7_must_9 : decode cX7_must 9 = .ok (.aload_n 0, 1) := by decide +kernel
theorem dX7_must_10 : decode cX7_must 10 = .ok (.bipush (-2), 2) := by decide +kernel
theorem dX7_must_12 : decode cX7_must 12 = .ok (.invokevirtual 84, 3) := by decide +kernel
theorem dX7_must_15 : decode cX7_must 15 = .ok (.ireturn, 1) := by decide +kernel
theorem dX7_must_16 : decode cX7_must 16 = .ok (.aload_n 0, 1) := by decide +kernel
theorem dX7_must_17 : decode cX7_must 17 = .ok (.getfield 61, 3) := by decide +kernel
theorem dX7_must_20 : decode cX7_must 20 = .ok (.aload_n 0, 1) := by decide +kernel
theorem dX7_must_21 : decode cX7_must 21 = .ok (.getfield 10, 3) := by decide +kernel
theorem dX7_must_24 : decode cX7_must 24 = .ok (.iload_n 1, 1) := by decide +kernel
theorem dX7_must_25 : decode cX7_must 25 = .ok (.iload_n 2, 1) := by decide +kernel
theorem dX7_must_26 : decode cX7_must 26 = .ok (.invokevirtual 246, 3) := by decide +kernel
theorem dX7_must_29 : decode cX7_must 29 = .ok (.aload_n 0, 1) := by decide +kernel
theorem dX7_must_30 : decode cX7_must 30 = .ok (.getfield 61, 3) := by decide +kernel
theorem dX7_must_33 : decode cX7_must 33 = .ok (.getfield 250, 3) := by decide +kernel
theorem dX7_must_36 : decode cX7_must 36 = .ok (.ifCond .ne 10, 3) := by decide +kernel
theorem dX7_must_39 : decode cX7_must 39 = .ok (.aload_n 0, 1) := by decide +kernel
theorem dX7_must_40 : decode cX7_must 40 = .ok (.bipush (-5), 2) := by decide +kernel
theorem dX7_must_42 : decode cX7_must 42 = .ok (.invokevirtual 84, 3) := by decide +kernel
theorem dX7_must_45 : decode cX7_must 45 = .ok (.ireturn, 1) := by decide +kernel
theorem dX7_must_46 : decode cX7_must 46 = .ok (.aload_n 0, 1) := by decide +kernel
theorem dX7_must_47 : decode cX7_must 47 = .ok (.getfield 61, 3) := by decide +kernel
theorem dX7_must_50 : decode cX7_must 50 = .ok (.iconst 0, 1) := by decide +kernel
theorem dX7_must_51 : decode cX7_must 51 = .ok (.invokevirtual 258, 3) := by decide +kernel
theorem dX7_must_54 : decode cX7_must 54 = .ok (.istore_n 3, 1) := by decide +kernel
theorem dX7_must_55 : decode cX7_must 55 = .ok (.iconst 1, 1) := by decide +kernel
theorem dX7_must_56 : decode cX7_must 56 = .ok (.istore 4, 2) := by decide +kernel
theorem dX7_must_58 : decode cX7_must 58 = .ok (.iload 4, 2) := by decide +kernel
theorem dX7_must_60 : decode cX7_must 60 = .ok (.aload_n 0, 1) := by decide +kernel
theorem dX7_must_61 : decode cX7_must 61 = .ok (.getfield 61, 3) := by decide +kernel
theorem dX7_must_64 : decode cX7_must 64 = .ok (.getfield 250, 3) := by decide +kernel
theorem dX7_must_67 : decode cX7_must 67 = .ok (.if_icmp .ge 21, 3) := by decide +kernel
theorem dX7_must_70 : decode cX7_must 70 = .ok (.iload_n 3, 1) := by decide +kernel
theorem dX7_must_71 : decode cX7_must 71 = .ok (.aload_n 0, 1) := by decide +kernel
theorem dX7_must_72 : decode cX7_must 72 = .ok (.getfield 61, 3) := by decide +kernel
theorem dX7_must_75 : decode cX7_must 75 = .ok (.iload 4, 2) := by decide +kernel
theorem dX7_must_77 : decode cX7_must 77 = .ok (.invokevirtual 258, 3) := by decide +kernel
theorem dX7_must_80 : decode cX7_must 80 = .ok (.iand, 1) := by decide +kernel
theorem dX7_must_81 : decode cX7_must 81 = .ok (.istore_n 3, 1) := by decide +kernel
theorem dX7_must_82 : decode cX7_must 82 = .ok (.iinc 4 1, 3) := by decide +kernel
theorem dX7_must_85 : decode cX7_must 85 = .ok (.goto (-27), 3) := by decide +kernel
theorem dX7_must_88 : decode cX7_must 88 = .ok (.iload_n 3, 1) := by decide +kernel
theorem dX7_must_89 : decode cX7_must 89 = .ok (.ireturn, 1) := by decide +kernel
theorem dX7_cut_0 : decode cX7_cut 0 = .ok (.aload_n 0, 1) := by decide +kernel
theorem dX7_cut_1 : decode cX7_cut 1 = .ok (.iload_n 1, 1) := by decide +kernel
theorem dX7_cut_2 : decode cX7_cut 2 = .ok (.iload_n 2, 1) := by decide +kernel
theorem dX7_cut_3 : decode cX7_cut 3 = .ok (.invokevirtual 183, 3) := by decide +kernel
theorem dX7_cut_6 : decode cX7_cut 6 = .ok (.ifCond .ne 10, 3) := by decide +kernel
theorem dX7_cut_9 : decode cX7_cut 9 = .ok (.aload_n 0, 1) := by decide +kernel
theorem dX7_cut_10 : decode cX7_cut 10 = .ok (.bipush (-2), 2) := by decide +kernel
theorem dX7_cut_12 : decode cX7_cut 12 = .ok (.invokevirtual 84, 3) := by decide +kernel
theorem dX7_cut_15 : decode cX7_cut 15 = .ok (.ireturn, 1) := by decide +kernel
theorem dX7_cut_16 : decode cX7_cut 16 = .ok (.aload_n 0, 1) := by decide +kernel
theorem dX7_cut_17 : decode cX7_cut 17 = .ok (.getfield 10, 3) := by decide +kernel
theorem dX7_cut_20 : decode cX7_cut 20 = .ok (.iload_n 1, 1) := by decide +kernel
theorem dX7_cut_21 : decode cX7_cut 21 = .ok (.invokevirtual 230, 3) := by decide +kernel
theorem dX7_cut_24 : decode cX7_cut 24 = .ok (.iload_n 2, 1) := by decide +kernel
theorem dX7_cut_25 : decode cX7_cut 25 = .ok (.ishr, 1) := by decide +kernel
theorem dX7_cut_26 : decode cX7_cut 26 = .ok (.iconst 1, 1) := by decide +kernel
theorem dX7_cut_27 : decode cX7_cut 27 = .ok (.iand, 1) := by decide +kernel
theorem dX7_cut_28 : decode cX7_cut 28 = .ok (.ifCond .eq 5, 3) := by decide +kernel
theorem dX7_cut_31 : decode cX7_cut 31 = .ok (.iconst (-1), 1) := by decide +kernel
theorem dX7_cut_32 : decode cX7_cut 32 = .ok (.ireturn, 1) := by decide +kernel
theorem dX7_cut_33 : decode cX7_cut 33 = .ok (.aload_n 0, 1) := by decide +kernel
theorem dX7_cut_34 : decode cX7_cut 34 = .ok (.getfield 10, 3) := by decide +kernel
theorem dX7_cut_37 : decode cX7_cut 37 = .ok (.iload_n 1, 1) := by decide +kernel
theorem dX7_cut_38 : decode cX7_cut 38 = .ok (.invokevirtual 243, 3) := by decide +kernel
theorem dX7_cut_41 : decode cX7_cut 41 = .ok (.aload_n 0, 1) := by decide +kernel
theorem dX7_cut_42 : decode cX7_cut 42 = .ok (.getfield 10, 3) := by decide +kernel
theorem dX7_cut_45 : decode cX7_cut 45 = .ok (.iload_n 2, 1) := by decide +kernel
theorem dX7_cut_46 : decode cX7_cut 46 = .ok (.invokevirtual 243, 3) := by decide +kernel
theorem dX7_cut_49 : decode cX7_cut 49 = .ok (.invokestatic 205, 3) := by decide +kernel
theorem dX7_cut_52 : decode cX7_cut 52 = .ok (.istore_n 3, 1) := by decide +kernel
theorem dX7_cut_53 : decode cX7_cut 53 = .ok (.iconst 1, 1) := by decide +kernel
theorem dX7_cut_54 : decode cX7_cut 54 = .ok (.iload_n 1, 1) := by decide +kernel
theorem dX7_cut_55 : decode cX7_cut 55 = .ok (.ishl, 1) := by decide +kernel
theorem dX7_cut_56 : decode cX7_cut 56 = .ok (.iconst 1, 1) := by decide +kernel
theorem dX7_cut_57 : decode cX7_cut 57 = .ok (.iload_n 2, 1) := by decide +kernel
theorem dX7_cut_58 : decode cX7_cut 58 = .ok (.ishl, 1) := by decide +kernel
theorem dX7_cut_59 : decode cX7_cut 59 = .ok (.ior, 1) := by decide +kernel
theorem dX7_cut_60 : decode cX7_cut 60 = .ok (.istore 4, 2) := by decide +kernel
theorem dX7_cut_62 : decode cX7_cut 62 = .ok (.iconst 0, 1) := by decide +kernel
theorem dX7_cut_63 : decode cX7_cut 63 = .ok (.istore 5, 2) := by decide +kernel
theorem dX7_cut_65 : decode cX7_cut 65 = .ok (.iload 5, 2) := by decide +kernel
theorem dX7_cut_67 : decode cX7_cut 67 = .ok (.iconst 1, 1) := by decide +kernel
theorem dX7_cut_68 : decode cX7_cut 68 = .ok (.aload_n 0, 1) := by decide +kernel
theorem dX7_cut_69 : decode cX7_cut 69 = .ok (.getfield 10, 3) := by decide +kernel
theorem dX7_cut_72 : decode cX7_cut 72 = .ok (.getfield 161, 3) := by decide +kernel
theorem dX7_cut_75 : decode cX7_cut 75 = .ok (.ishl, 1) := by decide +kernel
theorem dX7_cut_76 : decode cX7_cut 76 = .ok (.if_icmp .ge 51, 3) := by decide +kernel
theorem dX7_cut_79 : decode cX7_cut 79 = .ok (.iload 5, 2) := by decide +kernel
theorem dX7_cut_81 : decode cX7_cut 81 = .ok (.iload 4, 2) := by decide +kernel
theorem dX7_cut_83 : decode cX7_cut 83 = .ok (.iand, 1) := by decide +kernel
theorem dX7_cut_84 : decode cX7_cut 84 = .ok (.ifCond .ne 37, 3) := by decide +kernel
theorem dX7_cut_87 : decode cX7_cut 87 = .ok (.iload 5, 2) := by decide +kernel
theorem dX7_cut_89 : decode cX7_cut 89 = .ok (.invokestatic 264, 3) := by decide +kernel
theorem dX7_cut_92 : decode cX7_cut 92 = .ok (.iload_n 3, 1) := by decide +kernel
theorem dX7_cut_93 : decode cX7_cut 93 = .ok (.if_icmp .ge 28, 3) := by decide +kernel
theorem dX7_cut_96 : decode cX7_cut 96 = .ok (.aload_n 0, 1) := by decide +kernel
theorem dX7_cut_97 : decode cX7_cut 97 = .ok (.getfield 10, 3) := by decide +kernel
theorem dX7_cut_100 : decode cX7_cut 100 = .ok (.iload_n 1, 1) := by decide +kernel
theorem dX7_cut_101 : decode cX7_cut 101 = .ok (.iload 5, 2) := by decide +kernel
theorem dX7_cut_103 : decode cX7_cut 103 = .ok (.iconst (-1), 1) := by decide +kernel
theorem dX7_cut_104 : decode cX7_cut 104 = .ok (.ixor, 1) := by decide +kernel
theorem dX7_cut_105 : decode cX7_cut 105 = .ok (.invokevirtual 302, 3) := by decide +kernel
theorem dX7_cut_108 : decode cX7_cut 108 = .ok (.iload_n 2, 1) := by decide +kernel
theorem dX7_cut_109 : decode cX7_cut 109 = .ok (.ishr, 1) := by decide +kernel
theorem dX7_cut_110 : decode cX7_cut 110 = .ok (.iconst 1, 1) := by decide +kernel
theorem dX7_cut_111 : decode cX7_cut 111 = .ok (.iand, 1) := by decide +kernel
theorem dX7_cut_112 : decode cX7_cut 112 = .ok (.ifCond .ne 9, 3) := by decide +kernel
theorem dX7_cut_115 : decode cX7_cut 115 = .ok (.iload 5, 2) := by decide +kernel
theorem dX7_cut_117 : decode cX7_cut 117 = .ok (.invokestatic 264, 3) := by decide +kernel
theorem dX7_cut_120 : decode cX7_cut 120 = .ok (.istore_n 3, 1) := by decide +kernel
theorem dX7_cut_121 : decode cX7_cut 121 = .ok (.iinc 5 1, 3) := by decide +kernel
theorem dX7_cut_124 : decode cX7_cut 124 = .ok (.goto (-59), 3) := by decide +kernel
theorem dX7_cut_127 : decode cX7_cut 127 = .ok (.iload_n 3, 1) := by decide +kernel
theorem dX7_cut_128 : decode cX7_cut 128 = .ok (.ireturn, 1) := by decide +kernel
theorem dX7_reach_0 : decode cX7_reach 0 = .ok (.aload_n 0, 1) := by decide +kernel
theorem dX7_reach_1 : decode cX7_reach 1 = .ok (.getfield 10, 3) := by decide +kernel
theorem dX7_reach_4 : decode cX7_reach 4 = .ok (.iload_n 1, 1) := by decide +kernel
theorem dX7_reach_5 : decode cX7_reach 5 = .ok (.invokevirtual 132, 3) := by decide +kernel
theorem dX7_reach_8 : decode cX7_reach 8 = .ok (.ifCond .ne 10, 3) := by decide +kernel
theorem dX7_reach_11 : decode cX7_reach 11 = .ok (.aload_n 0, 1) := by decide +kernel
theorem dX7_reach_12 : decode cX7_reach 12 = .ok (.bipush (-2), 2) := by decide +kernel
theorem dX7_reach_14 : decode cX7_reach 14 = .ok (.invokevirtual 84, 3) := by decide +kernel
theorem dX7_reach_17 : decode cX7_reach 17 = .ok (.ireturn, 1) := by decide +kernel
theorem dX7_reach_18 : decode cX7_reach 18 = .ok (.aload_n 0, 1) := by decide +kernel
theorem dX7_reach_19 : decode cX7_reach 19 = .ok (.getfield 10, 3) := by decide +kernel
theorem dX7_reach_22 : decode cX7_reach 22 = .ok (.iload_n 1, 1) := by decide +kernel
theorem dX7_reach_23 : decode cX7_reach 23 = .ok (.aload_n 0, 1) := by decide +kernel
theorem dX7_reach_24 : decode cX7_reach 24 = .ok (.getfield 10, 3) := by decide +kernel
theorem dX7_reach_27 : decode cX7_reach 27 = .ok (.aload_n 0, 1) := by decide +kernel
theorem dX7_reach_28 : decode cX7_reach 28 = .ok (.getfield 10, 3) := by decide +kernel
theorem dX7_reach_31 : decode cX7_reach 31 = .ok (.invokevirtual 305, 3) := by decide +kernel
theorem dX7_reach_34 : decode cX7_reach 34 = .ok (.invokevirtual 261, 3) := by decide +kernel
theorem dX7_reach_37 : decode cX7_reach 37 = .ok (.iconst (-1), 1) := by decide +kernel
theorem dX7_reach_38 : decode cX7_reach 38 = .ok (.ixor, 1) := by decide +kernel
theorem dX7_reach_39 : decode cX7_reach 39 = .ok (.invokevirtual 302, 3) := by decide +kernel
theorem dX7_reach_42 : decode cX7_reach 42 = .ok (.ireturn, 1) := by decide +kernel
theorem dX7_judge_0 : decode cX7_judge 0 = .ok (.iload_n 1, 1) := by decide +kernel
theorem dX7_judge_1 : decode cX7_judge 1 = .ok (.invokestatic 80, 3) := by decide +kernel
theorem dX7_judge_4 : decode cX7_judge 4 = .ok (.ifCond .eq 13, 3) := by decide +kernel
theorem dX7_judge_7 : decode cX7_judge 7 = .ok (.iload_n 2, 1) := by decide +kernel
theorem dX7_judge_8 : decode cX7_judge 8 = .ok (.ifCond .lt 9, 3) := by decide +kernel
theorem dX7_judge_11 : decode cX7_judge 11 = .ok (.iload_n 2, 1) := by decide +kernel
theorem dX7_judge_12 : decode cX7_judge 12 = .ok (.bipush 9, 2) := by decide +kernel
theorem dX7_judge_14 : decode cX7_judge 14 = .ok (.if_icmp .le 10, 3) := by decide +kernel
theorem dX7_judge_17 : decode cX7_judge 17 = .ok (.aload_n 0, 1) := by decide +kernel
theorem dX7_judge_18 : decode cX7_judge 18 = .ok (.bipush (-2), 2) := by decide +kernel
theorem dX7_judge_20 : decode cX7_judge 20 = .ok (.invokevirtual 84, 3) := by decide +kernel
theorem dX7_judge_23 : decode cX7_judge 23 = .ok (.ireturn, 1) := by decide +kernel
theorem dX7_judge_24 : decode cX7_judge 24 = .ok (.aload_n 0, 1) := by decide +kernel
theorem dX7_judge_25 : decode cX7_judge 25 = .ok (.iload_n 1, 1) := by decide +kernel
theorem dX7_judge_26 : decode cX7_judge 26 = .ok (.invokevirtual 92, 3) := by decide +kernel
theorem dX7_judge_29 : decode cX7_judge 29 = .ok (.istore_n 3, 1) := by decide +kernel
theorem dX7_judge_30 : decode cX7_judge 30 = .ok (.iload_n 3, 1) := by decide +kernel
theorem dX7_judge_31 : decode cX7_judge 31 = .ok (.ifCond .eq 9, 3) := by decide +kernel
theorem dX7_judge_34 : decode cX7_judge 34 = .ok (.aload_n 0, 1) := by decide +kernel
theorem dX7_judge_35 : decode cX7_judge 35 = .ok (.iload_n 3, 1) := by decide +kernel
theorem dX7_judge_36 : decode cX7_judge 36 = .ok (.invokevirtual 84, 3) := by decide +kernel
theorem dX7_judge_39 : decode cX7_judge 39 = .ok (.ireturn, 1) := by decide +kernel
theorem dX7_judge_40 : decode cX7_judge 40 = .ok (.iload_n 2, 1) := by decide +kernel
theorem dX7_judge_41 : decode cX7_judge 41 = .ok (.aload_n 0, 1) := by decide +kernel
theorem dX7_judge_42 : decode cX7_judge 42 = .ok (.getfield 38, 3) := by decide +kernel
theorem dX7_judge_45 : decode cX7_judge 45 = .ok (.iload_n 1, 1) := by decide +kernel
theorem dX7_judge_46 : decode cX7_judge 46 = .ok (.aaload, 1) := by decide +kernel
theorem dX7_judge_47 : decode cX7_judge 47 = .ok (.getfield 95, 3) := by decide +kernel
theorem dX7_judge_50 : decode cX7_judge 50 = .ok (.if_icmp .le 10, 3) := by decide +kernel
theorem dX7_judge_53 : decode cX7_judge 53 = .ok (.aload_n 0, 1) := by decide +kernel
theorem dX7_judge_54 : decode cX7_judge 54 = .ok (.bipush (-2), 2) := by decide +kernel
theorem dX7_judge_56 : decode cX7_judge 56 = .ok (.invokevirtual 84, 3) := by decide +kernel
theorem dX7_judge_59 : decode cX7_judge 59 = .ok (.ireturn, 1) := by decide +kernel
theorem dX7_judge_60 : decode cX7_judge 60 = .ok (.aload_n 0, 1) := by decide +kernel
theorem dX7_judge_61 : decode cX7_judge 61 = .ok (.aload_n 0, 1) := by decide +kernel
theorem dX7_judge_62 : decode cX7_judge 62 = .ok (.getfield 38, 3) := by decide +kernel
theorem dX7_judge_65 : decode cX7_judge 65 = .ok (.iload_n 1, 1) := by decide +kernel
theorem dX7_judge_66 : decode cX7_judge 66 = .ok (.aaload, 1) := by decide +kernel
theorem dX7_judge_67 : decode cX7_judge 67 = .ok (.iload_n 2, 1) := by decide +kernel
theorem dX7_judge_68 : decode cX7_judge 68 = .ok (.invokevirtual 308, 3) := by decide +kernel
theorem dX7_judge_71 : decode cX7_judge 71 = .ok (.ireturn, 1) := by decide +kernel
theorem dX7_told_0 : decode cX7_told 0 = .ok (.iload_n 1, 1) := by decide +kernel
theorem dX7_told_1 : decode cX7_told 1 = .ok (.invokestatic 80, 3) := by decide +kernel
theorem dX7_told_4 : decode cX7_told 4 = .ok (.ifCond .eq 32, 3) := by decide +kernel
theorem dX7_told_7 : decode cX7_told 7 = .ok (.iload_n 2, 1) := by decide +kernel
theorem dX7_told_8 : decode cX7_told 8 = .ok (.iconst 2, 1) := by decide +kernel
theorem dX7_told_9 : decode cX7_told 9 = .ok (.if_icmp .lt 27, 3) := by decide +kernel
theorem dX7_told_12 : decode cX7_told 12 = .ok (.iload_n 2, 1) := by decide +kernel
theorem dX7_told_13 : decode cX7_told 13 = .ok (.bipush 9, 2) := by decide +kernel
theorem dX7_told_15 : decode cX7_told 15 = .ok (.if_icmp .gt 21, 3) := by decide +kernel
theorem dX7_told_18 : decode cX7_told 18 = .ok (.iload_n 3, 1) := by decide +kernel
theorem dX7_told_19 : decode cX7_told 19 = .ok (.invokestatic 236, 3) := by decide +kernel
theorem dX7_told_22 : decode cX7_told 22 = .ok (.ifCond .eq 14, 3) := by decide +kernel
theorem dX7_told_25 : decode cX7_told 25 = .ok (.iload 4, 2) := by decide +kernel
theorem dX7_told_27 : decode cX7_told 27 = .ok (.ifCond .lt 9, 3) := by decide +kernel
theorem dX7_told_30 : decode cX7_told 30 = .ok (.iload 4, 2) := by decide +kernel
theorem dX7_told_32 : decode cX7_told 32 = .ok (.iconst 2, 1) := by decide +kernel
theorem dX7_told_33 : decode cX7_told 33 = .ok (.if_icmp .le 10, 3) := by decide +kernel
theorem dX7_told_36 : decode cX7_told 36 = .ok (.aload_n 0, 1) := by decide +kernel
theorem dX7_told_37 : decode cX7_told 37 = .ok (.bipush (-2), 2) := by decide +kernel
theorem dX7_told_39 : decode cX7_told 39 = .ok (.invokevirtual 84, 3) := by decide +kernel
theorem dX7_told_42 : decode cX7_told 42 = .ok (.ireturn, 1) := by decide +kernel
theorem dX7_told_43 : decode cX7_told 43 = .ok (.aload_n 0, 1) := by decide +kernel
theorem dX7_told_44 : decode cX7_told 44 = .ok (.iload_n 1, 1) := by decide +kernel
theorem dX7_told_45 : decode cX7_told 45 = .ok (.invokevirtual 92, 3) := by decide +kernel
theorem dX7_told_48 : decode cX7_told 48 = .ok (.istore 5, 2) := by decide +kernel
theorem dX7_told_50 : decode cX7_told 50 = .ok (.iload 5, 2) := by decide +kernel
theorem dX7_told_52 : decode cX7_told 52 = .ok (.ifCond .eq 10, 3) := by decide +kernel
theorem dX7_told_55 : decode cX7_told 55 = .ok (.aload_n 0, 1) := by decide +kernel
theorem dX7_told_56 : decode cX7_told 56 = .ok (.iload 5, 2) := by decide +kernel
theorem dX7_told_58 : decode cX7_told 58 = .ok (.invokevirtual 84, 3) := by decide +kernel
theorem dX7_told_61 : decode cX7_told 61 = .ok (.ireturn, 1) := by decide +kernel
theorem dX7_told_62 : decode cX7_told 62 = .ok (.iload_n 2, 1) := by decide +kernel
theorem dX7_told_63 : decode cX7_told 63 = .ok (.aload_n 0, 1) := by decide +kernel
theorem dX7_told_64 : decode cX7_told 64 = .ok (.getfield 38, 3) := by decide +kernel
theorem dX7_told_67 : decode cX7_told 67 = .ok (.iload_n 1, 1) := by decide +kernel
theorem dX7_told_68 : decode cX7_told 68 = .ok (.aaload, 1) := by decide +kernel
theorem dX7_told_69 : decode cX7_told 69 = .ok (.getfield 95, 3) := by decide +kernel
theorem dX7_told_72 : decode cX7_told 72 = .ok (.if_icmp .le 10, 3) := by decide +kernel
theorem dX7_told_75 : decode cX7_told 75 = .ok (.aload_n 0, 1) := by decide +kernel
theorem dX7_told_76 : decode cX7_told 76 = .ok (.bipush (-2), 2) := by decide +kernel
theorem dX7_told_78 : decode cX7_told 78 = .ok (.invokevirtual 84, 3) := by decide +kernel
theorem dX7_told_81 : decode cX7_told 81 = .ok (.ireturn, 1) := by decide +kernel
theorem dX7_told_82 : decode cX7_told 82 = .ok (.aload_n 0, 1) := by decide +kernel
theorem dX7_told_83 : decode cX7_told 83 = .ok (.aload_n 0, 1) := by decide +kernel
theorem dX7_told_84 : decode cX7_told 84 = .ok (.getfield 38, 3) := by decide +kernel
theorem dX7_told_87 : decode cX7_told 87 = .ok (.iload_n 1, 1) := by decide +kernel
theorem dX7_told_88 : decode cX7_told 88 = .ok (.aaload, 1) := by decide +kernel
theorem dX7_told_89 : decode cX7_told 89 = .ok (.iload_n 2, 1) := by decide +kernel
theorem dX7_told_90 : decode cX7_told 90 = .ok (.invokevirtual 308, 3) := by decide +kernel
theorem dX7_told_93 : decode cX7_told 93 = .ok (.iconst (-1), 1) := by decide +kernel
theorem dX7_told_94 : decode cX7_told 94 = .ok (.if_icmp .eq 10, 3) := by decide +kernel
theorem dX7_told_97 : decode cX7_told 97 = .ok (.aload_n 0, 1) := by decide +kernel
theorem dX7_told_98 : decode cX7_told 98 = .ok (.bipush (-5), 2) := by decide +kernel
theorem dX7_told_100 : decode cX7_told 100 = .ok (.invokevirtual 84, 3) := by decide +kernel
theorem dX7_told_103 : decode cX7_told 103 = .ok (.ireturn, 1) := by decide +kernel
theorem dX7_told_104 : decode cX7_told 104 = .ok (.aload_n 0, 1) := by decide +kernel
theorem dX7_told_105 : decode cX7_told 105 = .ok (.getfield 61, 3) := by decide +kernel
theorem dX7_told_108 : decode cX7_told 108 = .ok (.aload_n 0, 1) := by decide +kernel
theorem dX7_told_109 : decode cX7_told 109 = .ok (.getfield 38, 3) := by decide +kernel
theorem dX7_told_112 : decode cX7_told 112 = .ok (.iload_n 1, 1) := by decide +kernel
theorem dX7_told_113 : decode cX7_told 113 = .ok (.aaload, 1) := by decide +kernel
theorem dX7_told_114 : decode cX7_told 114 = .ok (.iload_n 2, 1) := by decide +kernel
theorem dX7_told_115 : decode cX7_told 115 = .ok (.invokevirtual 312, 3) := by decide +kernel
theorem dX7_told_118 : decode cX7_told 118 = .ok (.aload_n 0, 1) := by decide +kernel
theorem dX7_told_119 : decode cX7_told 119 = .ok (.getfield 71, 3) := by decide +kernel
theorem dX7_told_122 : decode cX7_told 122 = .ok (.aload_n 0, 1) := by decide +kernel
theorem dX7_told_123 : decode cX7_told 123 = .ok (.getfield 10, 3) := by decide +kernel
theorem dX7_told_126 : decode cX7_told 126 = .ok (.aload_n 0, 1) := by decide +kernel
theorem dX7_told_127 : decode cX7_told 127 = .ok (.getfield 61, 3) := by decide +kernel
theorem dX7_told_130 : decode cX7_told 130 = .ok (.iconst 0, 1) := by decide +kernel
theorem dX7_told_131 : decode cX7_told 131 = .ok (.iload_n 3, 1) := by decide +kernel
theorem dX7_told_132 : decode cX7_told 132 = .ok (.invokevirtual 316, 3) := by decide +kernel
theorem dX7_told_135 : decode cX7_told 135 = .ok (.iload 4, 2) := by decide +kernel
theorem dX7_told_137 : decode cX7_told 137 = .ok (.ifCond .ne 11, 3) := by decide +kernel
theorem dX7_told_140 : decode cX7_told 140 = .ok (.aload_n 0, 1) := by decide +kernel
theorem dX7_told_141 : decode cX7_told 141 = .ok (.getfield 71, 3) := by decide +kernel
theorem dX7_told_144 : decode cX7_told 144 = .ok (.getfield 296, 3) := by decide +kernel
theorem dX7_told_147 : decode cX7_told 147 = .ok (.ireturn, 1) := by decide +kernel
theorem dX7_told_148 : decode cX7_told 148 = .ok (.iload 4, 2) := by decide +kernel
theorem dX7_told_150 : decode cX7_told 150 = .ok (.iconst 1, 1) := by decide +kernel
theorem dX7_told_151 : decode cX7_told 151 = .ok (.if_icmp .ne 13, 3) := by decide +kernel
theorem dX7_told_154 : decode cX7_told 154 = .ok (.aload_n 0, 1) := by decide +kernel
theorem dX7_told_155 : decode cX7_told 155 = .ok (.getfield 71, 3) := by decide +kernel
theorem dX7_told_158 : decode cX7_told 158 = .ok (.getfield 299, 3) := by decide +kernel
theorem dX7_told_161 : decode cX7_told 161 = .ok (.goto 18, 3) := by decide +kernel
theorem dX7_told_164 : decode cX7_told 164 = .ok (.aload_n 0, 1) := by decide +kernel
theorem dX7_told_165 : decode cX7_told 165 = .ok (.getfield 10, 3) := by decide +kernel
theorem dX7_told_168 : decode cX7_told 168 = .ok (.aload_n 0, 1) := by decide +kernel
theorem dX7_told_169 : decode cX7_told 169 = .ok (.getfield 61, 3) := by decide +kernel
theorem dX7_told_172 : decode cX7_told 172 = .ok (.iconst 0, 1) := by decide +kernel
theorem dX7_told_173 : decode cX7_told 173 = .ok (.invokevirtual 258, 3) := by decide +kernel
theorem dX7_told_176 : decode cX7_told 176 = .ok (.invokevirtual 261, 3) := by decide +kernel
theorem dX7_told_179 : decode cX7_told 179 = .ok (.ireturn, 1) := by decide +kernel
theorem dX7_change_0 : decode cX7_change 0 = .ok (.aload_n 0, 1) := by decide +kernel
theorem dX7_change_1 : decode cX7_change 1 = .ok (.iload_n 1, 1) := by decide +kernel
theorem dX7_change_2 : decode cX7_change 2 = .ok (.iload_n 2, 1) := by decide +kernel
theorem dX7_change_3 : decode cX7_change 3 = .ok (.invokevirtual 183, 3) := by decide +kernel
theorem dX7_change_6 : decode cX7_change 6 = .ok (.ifCond .eq 10, 3) := by decide +kernel
theorem dX7_change_9 : decode cX7_change 9 = .ok (.iload_n 3, 1) := by decide +kernel
theorem dX7_change_10 : decode cX7_change 10 = .ok (.invokestatic 236, 3) := by decide +kernel
theorem dX7_change_13 : decode cX7_change 13 = .ok (.ifCond .ne 10, 3) := by decide +kernel
theorem dX7_change_16 : decode cX7_change 16 = .ok (.aload_n 0, 1) := by decide +kernel
theorem dX7_change_17 : decode cX7_change 17 = .ok (.bipush (-2), 2) := by decide +kernel
theorem dX7_change_19 : decode cX7_change 19 = .ok (.invokevirtual 84, 3) := by decide +kernel
theorem dX7_change_22 : decode cX7_change 22 = .ok (.ireturn, 1) := by decide +kernel
theorem dX7_change_23 : decode cX7_change 23 = .ok (.iconst (-1), 1) := by decide +kernel
theorem dX7_change_24 : decode cX7_change 24 = .ok (.istore 4, 2) := by decide +kernel
theorem dX7_change_26 : decode cX7_change 26 = .ok (.aload_n 0, 1) := by decide +kernel
theorem dX7_change_27 : decode cX7_change 27 = .ok (.aload_n 0, 1) := by decide +kernel
theorem dX7_change_28 : decode cX7_change 28 = .ok (.getfield 10, 3) := by decide +kernel
theorem dX7_change_31 : decode cX7_change 31 = .ok (.iload_n 1, 1) := by decide +kernel
theorem dX7_change_32 : decode cX7_change 32 = .ok (.iload_n 2, 1) := by decide +kernel
theorem dX7_change_33 : decode cX7_change 33 = .ok (.iload_n 3, 1) := by decide +kernel
theorem dX7_change_34 : decode cX7_change 34 = .ok (.invokevirtual 288, 3) := by decide +kernel
theorem dX7_change_37 : decode cX7_change 37 = .ok (.istore 5, 2) := by decide +kernel
theorem dX7_change_39 : decode cX7_change 39 = .ok (.iconst 0, 1) := by decide +kernel
theorem dX7_change_40 : decode cX7_change 40 = .ok (.istore 6, 2) := by decide +kernel
theorem dX7_change_42 : decode cX7_change 42 = .ok (.iload 6, 2) := by decide +kernel
theorem dX7_change_44 : decode cX7_change 44 = .ok (.aload_n 0, 1) := by decide +kernel
theorem dX7_change_45 : decode cX7_change 45 = .ok (.getfield 10, 3) := by decide +kernel
theorem dX7_change_48 : decode cX7_change 48 = .ok (.getfield 161, 3) := by decide +kernel
theorem dX7_change_51 : decode cX7_change 51 = .ok (.if_icmp .ge 113, 3) := by decide +kernel
theorem dX7_change_54 : decode cX7_change 54 = .ok (.iload 6, 2) := by decide +kernel
theorem dX7_change_56 : decode cX7_change 56 = .ok (.iconst 1, 1) := by decide +kernel
theorem dX7_change_57 : decode cX7_change 57 = .ok (.iadd, 1) := by decide +kernel
theorem dX7_change_58 : decode cX7_change 58 = .ok (.istore 7, 2) := by decide +kernel
theorem dX7_change_60 : decode cX7_change 60 = .ok (.iload 7, 2) := by decide +kernel
theorem dX7_change_62 : decode cX7_change 62 = .ok (.aload_n 0, 1) := by decide +kernel
theorem dX7_change_63 : decode cX7_change 63 = .ok (.getfield 10, 3) := by decide +kernel
theorem dX7_change_66 : decode cX7_change 66 = .ok (.getfield 161, 3) := by decide +kernel
theorem dX7_change_69 : decode cX7_change 69 = .ok (.if_icmp .ge 89, 3) := by decide +kernel
theorem dX7_change_72 : decode cX7_change 72 = .ok (.iload 6, 2) := by decide +kernel
theorem dX7_change_74 : decode cX7_change 74 = .ok (.iload_n 1, 1) := by decide +kernel
theorem dX7_change_75 : decode cX7_change 75 = .ok (.if_icmp .eq 77, 3) := by decide +kernel
theorem dX7_change_78 : decode cX7_change 78 = .ok (.iload 6, 2) := by decide +kernel
theorem dX7_change_80 : decode cX7_change 80 = .ok (.iload_n 2, 1) := by decide +kernel
theorem dX7_change_81 : decode cX7_change 81 = .ok (.if_icmp .eq 71, 3) := by decide +kernel
theorem dX7_change_84 : decode cX7_change 84 = .ok (.iload 7, 2) := by decide +kernel
theorem dX7_change_86 : decode cX7_change 86 = .ok (.iload_n 1, 1) := by decide +kernel
theorem dX7_change_87 : decode cX7_change 87 = .ok (.if_icmp .eq 65, 3) := by decide +kernel
theorem dX7_change_90 : decode cX7_change 90 = .ok (.iload 7, 2) := by decide +kernel
theorem dX7_change_92 : decode cX7_change 92 = .ok (.iload_n 2, 1) := by decide +kernel
theorem dX7_change_93 : decode cX7_change 93 = .ok (.if_icmp .eq 59, 3) := by decide +kernel
theorem dX7_change_96 : decode cX7_change 96 = .ok (.aload_n 0, 1) := by decide +kernel
theorem dX7_change_97 : decode cX7_change 97 = .ok (.getfield 16, 3) := by decide +kernel
theorem dX7_change_100 : decode cX7_change 100 = .ok (.aload_n 0, 1) := by decide +kernel
theorem dX7_change_101 : decode cX7_change 101 = .ok (.getfield 10, 3) := by decide +kernel
theorem dX7_change_104 : decode cX7_change 104 = .ok (.invokevirtual 217, 3) := by decide +kernel
theorem dX7_change_107 : decode cX7_change 107 = .ok (.aload_n 0, 1) := by decide +kernel
theorem dX7_change_108 : decode cX7_change 108 = .ok (.getfield 16, 3) := by decide +kernel
theorem dX7_change_111 : decode cX7_change 111 = .ok (.iload 6, 2) := by decide +kernel
theorem dX7_change_113 : decode cX7_change 113 = .ok (.iload 7, 2) := by decide +kernel
theorem dX7_change_115 : decode cX7_change 115 = .ok (.invokevirtual 320, 3) := by decide +kernel
theorem dX7_change_118 : decode cX7_change 118 = .ok (.aload_n 0, 1) := by decide +kernel
theorem dX7_change_119 : decode cX7_change 119 = .ok (.aload_n 0, 1) := by decide +kernel
theorem dX7_change_120 : decode cX7_change 120 = .ok (.getfield 16, 3) := by decide +kernel
theorem dX7_change_123 : decode cX7_change 123 = .ok (.iload_n 1, 1) := by decide +kernel
theorem dX7_change_124 : decode cX7_change 124 = .ok (.iload_n 2, 1) := by decide +kernel
theorem dX7_change_125 : decode cX7_change 125 = .ok (.iload_n 3, 1) := by decide +kernel
theorem dX7_change_126 : decode cX7_change 126 = .ok (.invokevirtual 288, 3) := by decide +kernel
theorem dX7_change_129 : decode cX7_change 129 = .ok (.istore 8, 2) := by decide +kernel
theorem dX7_change_131 : decode cX7_change 131 = .ok (.iload 8, 2) := by decide +kernel
theorem dX7_change_133 : decode cX7_change 133 = .ok (.iload 5, 2) := by decide +kernel
theorem dX7_change_135 : decode cX7_change 135 = .ok (.if_icmp .le 17, 3) := by decide +kernel
theorem dX7_change_138 : decode cX7_change 138 = .ok (.iload 8, 2) := by decide +kernel
theorem dX7_change_140 : decode cX7_change 140 = .ok (.istore 5, 2) := by decide +kernel
theorem dX7_change_142 : decode cX7_change 142 = .ok (.bipush 100, 2) := by decide +kernel
theorem dX7_change_144 : decode cX7_change 144 = .ok (.iload 6, 2) := by decide +kernel
theorem dX7_change_146 : decode cX7_change 146 = .ok (.imul, 1) := by decide +kernel
theorem dX7_change_147 : decode cX7_change 147 = .ok (.iload 7, 2) := by decide +kernel
theorem dX7_change_149 : decode cX7_change 149 = .ok (.iadd, 1) := by decide +kernel
theorem dX7_change_150 : decode cX7_change 150 = .ok (.istore 4, 2) := by decide +kernel
theorem dX7_change_152 : decode cX7_change 152 = .ok (.iinc 7 1, 3) := by decide +kernel
theorem dX7_change_155 : decode cX7_change 155 = .ok (.goto (-95), 3) := by decide +kernel
theorem dX7_change_158 : decode cX7_change 158 = .ok (.iinc 6 1, 3) := by decide +kernel
theorem dX7_change_161 : decode cX7_change 161 = .ok (.goto (-119), 3) := by decide +kernel
theorem dX7_change_164 : decode cX7_change 164 = .ok (.iload 4, 2) := by decide +kernel
theorem dX7_change_166 : decode cX7_change 166 = .ok (.ireturn, 1) := by decide +kernel
theorem dX7_code_0 : decode cX7_code 0 = .ok (.iload_n 1, 1) := by decide +kernel
theorem dX7_code_1 : decode cX7_code 1 = .ok (.invokestatic 80, 3) := by decide +kernel
theorem dX7_code_4 : decode cX7_code 4 = .ok (.ifCond .eq 20, 3) := by decide +kernel
theorem dX7_code_7 : decode cX7_code 7 = .ok (.iload_n 2, 1) := by decide +kernel
theorem dX7_code_8 : decode cX7_code 8 = .ok (.invokestatic 80, 3) := by decide +kernel
theorem dX7_code_11 : decode cX7_code 11 = .ok (.ifCond .eq 13, 3) := by decide +kernel
theorem dX7_code_14 : decode cX7_code 14 = .ok (.iload_n 3, 1) := by decide +kernel
theorem dX7_code_15 : decode cX7_code 15 = .ok (.ifCond .lt 9, 3) := by decide +kernel
theorem dX7_code_18 : decode cX7_code 18 = .ok (.iload_n 3, 1) := by decide +kernel
theorem dX7_code_19 : decode cX7_code 19 = .ok (.bipush 40, 2) := by decide +kernel
theorem dX7_code_21 : decode cX7_code 21 = .ok (.if_icmp .le 10, 3) := by decide +kernel
theorem dX7_code_24 : decode cX7_code 24 = .ok (.aload_n 0, 1) := by decide +kernel
theorem dX7_code_25 : decode cX7_code 25 = .ok (.bipush (-2), 2) := by decide +kernel
theorem dX7_code_27 : decode cX7_code 27 = .ok (.invokevirtual 84, 3) := by decide +kernel
theorem dX7_code_30 : decode cX7_code 30 = .ok (.ireturn, 1) := by decide +kernel
theorem dX7_code_31 : decode cX7_code 31 = .ok (.aload_n 0, 1) := by decide +kernel
theorem dX7_code_32 : decode cX7_code 32 = .ok (.iload_n 1, 1) := by decide +kernel
theorem dX7_code_33 : decode cX7_code 33 = .ok (.iload_n 2, 1) := by decide +kernel
theorem dX7_code_34 : decode cX7_code 34 = .ok (.invokevirtual 110, 3) := by decide +kernel
theorem dX7_code_37 : decode cX7_code 37 = .ok (.istore 4, 2) := by decide +kernel
theorem dX7_code_39 : decode cX7_code 39 = .ok (.iload 4, 2) := by decide +kernel
theorem dX7_code_41 : decode cX7_code 41 = .ok (.ifCond .eq 10, 3) := by decide +kernel
theorem dX7_code_44 : decode cX7_code 44 = .ok (.aload_n 0, 1) := by decide +kernel
theorem dX7_code_45 : decode cX7_code 45 = .ok (.iload 4, 2) := by decide +kernel
theorem dX7_code_47 : decode cX7_code 47 = .ok (.invokevirtual 84, 3) := by decide +kernel
theorem dX7_code_50 : decode cX7_code 50 = .ok (.ireturn, 1) := by decide +kernel
theorem dX7_code_51 : decode cX7_code 51 = .ok (.aload_n 0, 1) := by decide +kernel
theorem dX7_code_52 : decode cX7_code 52 = .ok (.getfield 38, 3) := by decide +kernel
theorem dX7_code_55 : decode cX7_code 55 = .ok (.iload_n 1, 1) := by decide +kernel
theorem dX7_code_56 : decode cX7_code 56 = .ok (.aaload, 1) := by decide +kernel
theorem dX7_code_57 : decode cX7_code 57 = .ok (.astore 5, 2) := by decide +kernel
theorem dX7_code_59 : decode cX7_code 59 = .ok (.aload_n 0, 1) := by decide +kernel
theorem dX7_code_60 : decode cX7_code 60 = .ok (.getfield 38, 3) := by decide +kernel
theorem dX7_code_63 : decode cX7_code 63 = .ok (.iload_n 2, 1) := by decide +kernel
theorem dX7_code_64 : decode cX7_code 64 = .ok (.aaload, 1) := by decide +kernel
theorem dX7_code_65 : decode cX7_code 65 = .ok (.astore 6, 2) := by decide +kernel
theorem dX7_code_67 : decode cX7_code 67 = .ok (.iload_n 3, 1) := by decide +kernel
theorem dX7_code_68 : decode cX7_code 68 = .ok (.aload 5, 2) := by decide +kernel
theorem dX7_code_70 : decode cX7_code 70 = .ok (.getfield 95, 3) := by decide +kernel
theorem dX7_code_73 : decode cX7_code 73 = .ok (.if_icmp .gt 25, 3) := by decide +kernel
theorem dX7_code_76 : decode cX7_code 76 = .ok (.aload 5, 2) := by decide +kernel
theorem dX7_code_78 : decode cX7_code 78 = .ok (.iload_n 3, 1) := by decide +kernel
theorem dX7_code_79 : decode cX7_code 79 = .ok (.invokevirtual 323, 3) := by decide +kernel
theorem dX7_code_82 : decode cX7_code 82 = .ok (.ifCond .eq 16, 3) := by decide +kernel
theorem dX7_code_85 : decode cX7_code 85 = .ok (.aload 6, 2) := by decide +kernel
theorem dX7_code_87 : decode cX7_code 87 = .ok (.aload 6, 2) := by decide +kernel
theorem dX7_code_89 : decode cX7_code 89 = .ok (.getfield 95, 3) := by decide +kernel
theorem dX7_code_92 : decode cX7_code 92 = .ok (.invokevirtual 323, 3) := by decide +kernel
theorem dX7_code_95 : decode cX7_code 95 = .ok (.ifCond .ne 10, 3) := by decide +kernel
theorem dX7_code_98 : decode cX7_code 98 = .ok (.aload_n 0, 1) := by decide +kernel
theorem dX7_code_99 : decode cX7_code 99 = .ok (.bipush (-2), 2) := by decide +kernel
theorem dX7_code_101 : decode cX7_code 101 = .ok (.invokevirtual 84, 3) := by decide +kernel
theorem dX7_code_104 : decode cX7_code 104 = .ok (.ireturn, 1) := by decide +kernel
theorem dX7_code_105 : decode cX7_code 105 = .ok (.aload 6, 2) := by decide +kernel
theorem dX7_code_107 : decode cX7_code 107 = .ok (.getfield 95, 3) := by decide +kernel
theorem dX7_code_110 : decode cX7_code 110 = .ok (.iconst 1, 1) := by decide +kernel
theorem dX7_code_111 : decode cX7_code 111 = .ok (.if_icmp .ge 10, 3) := by decide +kernel
theorem dX7_code_114 : decode cX7_code 114 = .ok (.aload_n 0, 1) := by decide +kernel
theorem dX7_code_115 : decode cX7_code 115 = .ok (.bipush (-5), 2) := by decide +kernel
theorem dX7_code_117 : decode cX7_code 117 = .ok (.invokevirtual 84, 3) := by decide +kernel
theorem dX7_code_120 : decode cX7_code 120 = .ok (.ireturn, 1) := by decide +kernel
theorem dX7_code_121 : decode cX7_code 121 = .ok (.iconst 0, 1) := by decide +kernel
theorem dX7_code_122 : decode cX7_code 122 = .ok (.istore 7, 2) := by decide +kernel
theorem dX7_code_124 : decode cX7_code 124 = .ok (.iload 7, 2) := by decide +kernel
theorem dX7_code_126 : decode cX7_code 126 = .ok (.iload_n 3, 1) := by decide +kernel
theorem dX7_code_127 : decode cX7_code 127 = .ok (.if_icmp .ge 41, 3) := by decide +kernel
theorem dX7_code_130 : decode cX7_code 130 = .ok (.aload 5, 2) := by decide +kernel
theorem dX7_code_132 : decode cX7_code 132 = .ok (.iload 7, 2) := by decide +kernel
theorem dX7_code_134 : decode cX7_code 134 = .ok (.aload 5, 2) := by decide +kernel
theorem dX7_code_136 : decode cX7_code 136 = .ok (.iload 7, 2) := by decide +kernel
theorem dX7_code_138 : decode cX7_code 138 = .ok (.invokevirtual 128, 3) := by decide +kernel
theorem dX7_code_141 : decode cX7_code 141 = .ok (.aload 6, 2) := by decide +kernel
theorem dX7_code_143 : decode cX7_code 143 = .ok (.iload 7, 2) := by decide +kernel
theorem dX7_code_145 : decode cX7_code 145 = .ok (.aload 6, 2) := by decide +kernel
theorem dX7_code_147 : decode cX7_code 147 = .ok (.getfield 95, 3) := by decide +kernel
theorem dX7_code_150 : decode cX7_code 150 = .ok (.irem, 1) := by decide +kernel
theorem dX7_code_151 : decode cX7_code 151 = .ok (.invokevirtual 128, 3) := by decide +kernel
theorem dX7_code_154 : decode cX7_code 154 = .ok (.ladd, 1) := by decide +kernel
theorem dX7_code_155 : decode cX7_code 155 = .ok (.ldc2_w 326, 3) := by decide +kernel
theorem dX7_code_158 : decode cX7_code 158 = .ok (.lrem, 1) := by decide +kernel
theorem dX7_code_159 : decode cX7_code 159 = .ok (.invokevirtual 99, 3) := by decide +kernel
theorem dX7_code_162 : decode cX7_code 162 = .ok (.iinc 7 1, 3) := by decide +kernel
theorem dX7_code_165 : decode cX7_code 165 = .ok (.goto (-41), 3) := by decide +kernel
theorem dX7_code_168 : decode cX7_code 168 = .ok (.iload_n 3, 1) := by decide +kernel
theorem dX7_code_169 : decode cX7_code 169 = .ok (.ireturn, 1) := by decide +kernel
theorem dX7_keyLength_0 : decode cX7_keyLength 0 = .ok (.iload_n 1, 1) := by decide +kernel
theorem dX7_keyLength_1 : decode cX7_keyLength 1 = .ok (.invokestatic 80, 3) := by decide +kernel
theorem dX7_keyLength_4 : decode cX7_keyLength 4 = .ok (.ifCond .eq 20, 3) := by decide +kernel
theorem dX7_keyLength_7 : decode cX7_keyLength 7 = .ok (.iload_n 2, 1) := by decide +kernel
theorem dX7_keyLength_8 : decode cX7_keyLength 8 = .ok (.invokestatic 80, 3) := by decide +kernel
theorem dX7_keyLength_11 : decode cX7_keyLength 11 = .ok (.ifCond .eq 13, 3) := by decide +kernel
theorem dX7_keyLength_14 : decode cX7_keyLength 14 = .ok (.iload_n 3, 1) := by decide +kernel
theorem dX7_keyLength_15 : decode cX7_keyLength 15 = .ok (.ifCond .lt 9, 3) := by decide +kernel
theorem dX7_keyLength_18 : decode cX7_keyLength 18 = .ok (.iload_n 3, 1) := by decide +kernel
theorem dX7_keyLength_19 : decode cX7_keyLength 19 = .ok (.bipush 40, 2) := by decide +kernel
theorem dX7_keyLength_21 : decode cX7_keyLength 21 = .ok (.if_icmp .le 10, 3) := by decide +kernel
theorem dX7_keyLength_24 : decode cX7_keyLength 24 = .ok (.aload_n 0, 1) := by decide +kernel
theorem dX7_keyLength_25 : decode cX7_keyLength 25 = .ok (.bipush (-2), 2) := by decide +kernel
theorem dX7_keyLength_27 : decode cX7_keyLength 27 = .ok (.invokevirtual 84, 3) := by decide +kernel
theorem dX7_keyLength_30 : decode cX7_keyLength 30 = .ok (.ireturn, 1) := by decide +kernel
theorem dX7_keyLength_31 : decode cX7_keyLength 31 = .ok (.aload_n 0, 1) := by decide +kernel
theorem dX7_keyLength_32 : decode cX7_keyLength 32 = .ok (.iload_n 1, 1) := by decide +kernel
theorem dX7_keyLength_33 : decode cX7_keyLength 33 = .ok (.iload_n 2, 1) := by decide +kernel
theorem dX7_keyLength_34 : decode cX7_keyLength 34 = .ok (.invokevirtual 110, 3) := by decide +kernel
theorem dX7_keyLength_37 : decode cX7_keyLength 37 = .ok (.istore 4, 2) := by decide +kernel
theorem dX7_keyLength_39 : decode cX7_keyLength 39 = .ok (.iload 4, 2) := by decide +kernel
theorem dX7_keyLength_41 : decode cX7_keyLength 41 = .ok (.ifCond .eq 10, 3) := by decide +kernel
theorem dX7_keyLength_44 : decode cX7_keyLength 44 = .ok (.aload_n 0, 1) := by decide +kernel
theorem dX7_keyLength_45 : decode cX7_keyLength 45 = .ok (.iload 4, 2) := by decide +kernel
theorem dX7_keyLength_47 : decode cX7_keyLength 47 = .ok (.invokevirtual 84, 3) := by decide +kernel
theorem dX7_keyLength_50 : decode cX7_keyLength 50 = .ok (.ireturn, 1) := by decide +kernel
theorem dX7_keyLength_51 : decode cX7_keyLength 51 = .ok (.aload_n 0, 1) := by decide +kernel
theorem dX7_keyLength_52 : decode cX7_keyLength 52 = .ok (.getfield 38, 3) := by decide +kernel
theorem dX7_keyLength_55 : decode cX7_keyLength 55 = .ok (.iload_n 1, 1) := by decide +kernel
theorem dX7_keyLength_56 : decode cX7_keyLength 56 = .ok (.aaload, 1) := by decide +kernel
theorem dX7_keyLength_57 : decode cX7_keyLength 57 = .ok (.astore 5, 2) := by decide +kernel
theorem dX7_keyLength_59 : decode cX7_keyLength 59 = .ok (.aload_n 0, 1) := by decide +kernel
theorem dX7_keyLength_60 : decode cX7_keyLength 60 = .ok (.getfield 38, 3) := by decide +kernel
theorem dX7_keyLength_63 : decode cX7_keyLength 63 = .ok (.iload_n 2, 1) := by decide +kernel
theorem dX7_keyLength_64 : decode cX7_keyLength 64 = .ok (.aaload, 1) := by decide +kernel
theorem dX7_keyLength_65 : decode cX7_keyLength 65 = .ok (.astore 6, 2) := by decide +kernel
theorem dX7_keyLength_67 : decode cX7_keyLength 67 = .ok (.iload_n 3, 1) := by decide +kernel
theorem dX7_keyLength_68 : decode cX7_keyLength 68 = .ok (.aload 5, 2) := by decide +kernel
theorem dX7_keyLength_70 : decode cX7_keyLength 70 = .ok (.getfield 95, 3) := by decide +kernel
theorem dX7_keyLength_73 : decode cX7_keyLength 73 = .ok (.if_icmp .gt 30, 3) := by decide +kernel
theorem dX7_keyLength_76 : decode cX7_keyLength 76 = .ok (.iload_n 3, 1) := by decide +kernel
theorem dX7_keyLength_77 : decode cX7_keyLength 77 = .ok (.aload 6, 2) := by decide +kernel
theorem dX7_keyLength_79 : decode cX7_keyLength 79 = .ok (.getfield 95, 3) := by decide +kernel
theorem dX7_keyLength_82 : decode cX7_keyLength 82 = .ok (.if_icmp .gt 21, 3) := by decide +kernel
theorem dX7_keyLength_85 : decode cX7_keyLength 85 = .ok (.aload 5, 2) := by decide +kernel
theorem dX7_keyLength_87 : decode cX7_keyLength 87 = .ok (.iload_n 3, 1) := by decide +kernel
theorem dX7_keyLength_88 : decode cX7_keyLength 88 = .ok (.invokevirtual 323, 3) := by decide +kernel
theorem dX7_keyLength_91 : decode cX7_keyLength 91 = .ok (.ifCond .eq 12, 3) := by decide +kernel
theorem dX7_keyLength_94 : decode cX7_keyLength 94 = .ok (.aload 6, 2) := by decide +kernel
theorem dX7_keyLength_96 : decode cX7_keyLength 96 = .ok (.iload_n 3, 1) := by decide +kernel
theorem dX7_keyLength_97 : decode cX7_keyLength 97 = .ok (.invokevirtual 323, 3) := by decide +kernel
theorem dX7_keyLength_100 : decode cX7_keyLength 100 = .ok (.ifCond .ne 10, 3) := by decide +kernel
theorem dX7_keyLength_103 : decode cX7_keyLength 103 = .ok (.aload_n 0, 1) := by decide +kernel
theorem dX7_keyLength_104 : decode cX7_keyLength 104 = .ok (.bipush (-2), 2) := by decide +kernel
theorem dX7_keyLength_106 : decode cX7_keyLength 106 = .ok (.invokevirtual 84, 3) := by decide +kernel
theorem dX7_keyLength_109 : decode cX7_keyLength 109 = .ok (.ireturn, 1) := by decide +kernel
theorem dX7_keyLength_110 : decode cX7_keyLength 110 = .ok (.iconst 1, 1) := by decide +kernel
theorem dX7_keyLength_111 : decode cX7_keyLength 111 = .ok (.istore 7, 2) := by decide +kernel
theorem dX7_keyLength_113 : decode cX7_keyLength 113 = .ok (.iload 7, 2) := by decide +kernel
theorem dX7_keyLength_115 : decode cX7_keyLength 115 = .ok (.iload_n 3, 1) := by decide +kernel
theorem dX7_keyLength_116 : decode cX7_keyLength 116 = .ok (.if_icmp .ge 25, 3) := by decide +kernel
theorem dX7_keyLength_119 : decode cX7_keyLength 119 = .ok (.aload 5, 2) := by decide +kernel
theorem dX7_keyLength_121 : decode cX7_keyLength 121 = .ok (.aload 6, 2) := by decide +kernel
theorem dX7_keyLength_123 : decode cX7_keyLength 123 = .ok (.iload_n 3, 1) := by decide +kernel
theorem dX7_keyLength_124 : decode cX7_keyLength 124 = .ok (.iload 7, 2) := by decide +kernel
theorem dX7_keyLength_126 : decode cX7_keyLength 126 = .ok (.invokestatic 328, 3) := by decide +kernel
theorem dX7_keyLength_129 : decode cX7_keyLength 129 = .ok (.ifCond .eq 6, 3) := by decide +kernel
theorem dX7_keyLength_132 : decode cX7_keyLength 132 = .ok (.iload 7, 2) := by decide +kernel
theorem dX7_keyLength_134 : decode cX7_keyLength 134 = .ok (.ireturn, 1) := by decide +kernel
theorem dX7_keyLength_135 : decode cX7_keyLength 135 = .ok (.iinc 7 1, 3) := by decide +kernel
theorem dX7_keyLength_138 : decode cX7_keyLength 138 = .ok (.goto (-25), 3) := by decide +kernel
theorem dX7_keyLength_141 : decode cX7_keyLength 141 = .ok (.iload_n 3, 1) := by decide +kernel
theorem dX7_keyLength_142 : decode cX7_keyLength 142 = .ok (.ireturn, 1) := by decide +kernel
theorem dX7_send_0 : decode cX7_send 0 = .ok (.aload_n 0, 1) := by decide +kernel
theorem dX7_send_1 : decode cX7_send 1 = .ok (.iload_n 1, 1) := by decide +kernel
theorem dX7_send_2 : decode cX7_send 2 = .ok (.iload_n 2, 1) := by decide +kernel
theorem dX7_send_3 : decode cX7_send 3 = .ok (.invokevirtual 183, 3) := by decide +kernel
theorem dX7_send_6 : decode cX7_send 6 = .ok (.ifCond .ne 10, 3) := by decide +kernel
theorem dX7_send_9 : decode cX7_send 9 = .ok (.aload_n 0, 1) := by decide +kernel
theorem dX7_send_10 : decode cX7_send 10 = .ok (.bipush (-2), 2) := by decide +kernel
theorem dX7_send_12 : decode cX7_send 12 = .ok (.invokevirtual 84, 3) := by decide +kernel
theorem dX7_send_15 : decode cX7_send 15 = .ok (.ireturn, 1) := by decide +kernel
theorem dX7_send_16 : decode cX7_send 16 = .ok (.aload_n 0, 1) := by decide +kernel
theorem dX7_send_17 : decode cX7_send 17 = .ok (.getfield 61, 3) := by decide +kernel
theorem dX7_send_20 : decode cX7_send 20 = .ok (.aload_n 0, 1) := by decide +kernel
theorem dX7_send_21 : decode cX7_send 21 = .ok (.getfield 10, 3) := by decide +kernel
theorem dX7_send_24 : decode cX7_send 24 = .ok (.iload_n 1, 1) := by decide +kernel
theorem dX7_send_25 : decode cX7_send 25 = .ok (.iload_n 2, 1) := by decide +kernel
theorem dX7_send_26 : decode cX7_send 26 = .ok (.invokevirtual 246, 3) := by decide +kernel
theorem dX7_send_29 : decode cX7_send 29 = .ok (.aload_n 0, 1) := by decide +kernel
theorem dX7_send_30 : decode cX7_send 30 = .ok (.getfield 71, 3) := by decide +kernel
theorem dX7_send_33 : decode cX7_send 33 = .ok (.aload_n 0, 1) := by decide +kernel
theorem dX7_send_34 : decode cX7_send 34 = .ok (.getfield 10, 3) := by decide +kernel
theorem dX7_send_37 : decode cX7_send 37 = .ok (.aload_n 0, 1) := by decide +kernel
theorem dX7_send_38 : decode cX7_send 38 = .ok (.getfield 61, 3) := by decide +kernel
theorem dX7_send_41 : decode cX7_send 41 = .ok (.aload_n 0, 1) := by decide +kernel
theorem dX7_send_42 : decode cX7_send 42 = .ok (.getfield 25, 3) := by decide +kernel
theorem dX7_send_45 : decode cX7_send 45 = .ok (.getfield 332, 3) := by decide +kernel
theorem dX7_send_48 : decode cX7_send 48 = .ok (.iconst 0, 1) := by decide +kernel
theorem dX7_send_49 : decode cX7_send 49 = .ok (.invokevirtual 292, 3) := by decide +kernel
theorem dX7_send_52 : decode cX7_send 52 = .ok (.ifCond .ne 10, 3) := by decide +kernel
theorem dX7_send_55 : decode cX7_send 55 = .ok (.aload_n 0, 1) := by decide +kernel
theorem dX7_send_56 : decode cX7_send 56 = .ok (.bipush (-5), 2) := by decide +kernel
theorem dX7_send_58 : decode cX7_send 58 = .ok (.invokevirtual 84, 3) := by decide +kernel
theorem dX7_send_61 : decode cX7_send 61 = .ok (.ireturn, 1) := by decide +kernel
theorem dX7_send_62 : decode cX7_send 62 = .ok (.aload_n 0, 1) := by decide +kernel
theorem dX7_send_63 : decode cX7_send 63 = .ok (.getfield 25, 3) := by decide +kernel
theorem dX7_send_66 : decode cX7_send 66 = .ok (.aload_n 0, 1) := by decide +kernel
theorem dX7_send_67 : decode cX7_send 67 = .ok (.getfield 10, 3) := by decide +kernel
theorem dX7_send_70 : decode cX7_send 70 = .ok (.aload_n 0, 1) := by decide +kernel
theorem dX7_send_71 : decode cX7_send 71 = .ok (.getfield 61, 3) := by decide +kernel
theorem dX7_send_74 : decode cX7_send 74 = .ok (.aload_n 0, 1) := by decide +kernel
theorem dX7_send_75 : decode cX7_send 75 = .ok (.getfield 71, 3) := by decide +kernel
theorem dX7_send_78 : decode cX7_send 78 = .ok (.getfield 335, 3) := by decide +kernel
theorem dX7_send_81 : decode cX7_send 81 = .ok (.invokevirtual 338, 3) := by decide +kernel
theorem dX7_send_84 : decode cX7_send 84 = .ok (.ifCond .eq 7, 3) := by decide +kernel
theorem dX7_send_87 : decode cX7_send 87 = .ok (.iconst 1, 1) := by decide +kernel
theorem dX7_send_88 : decode cX7_send 88 = .ok (.goto 4, 3) := by decide +kernel
theorem dX7_send_91 : decode cX7_send 91 = .ok (.iconst 0, 1) := by decide +kernel
theorem dX7_send_92 : decode cX7_send 92 = .ok (.ireturn, 1) := by decide +kernel
theorem dX7_note_0 : decode cX7_note 0 = .ok (.iload_n 1, 1) := by decide +kernel
theorem dX7_note_1 : decode cX7_note 1 = .ok (.iconst (-1), 1) := by decide +kernel
theorem dX7_note_2 : decode cX7_note 2 = .ok (.if_icmp .ge 10, 3) := by decide +kernel
theorem dX7_note_5 : decode cX7_note 5 = .ok (.aload_n 0, 1) := by decide +kernel
theorem dX7_note_6 : decode cX7_note 6 = .ok (.bipush (-2), 2) := by decide +kernel
theorem dX7_note_8 : decode cX7_note 8 = .ok (.invokevirtual 84, 3) := by decide +kernel
theorem dX7_note_11 : decode cX7_note 11 = .ok (.ireturn, 1) := by decide +kernel
theorem dX7_note_12 : decode cX7_note 12 = .ok (.iload_n 1, 1) := by decide +kernel
theorem dX7_note_13 : decode cX7_note 13 = .ok (.iconst (-1), 1) := by decide +kernel
theorem dX7_note_14 : decode cX7_note 14 = .ok (.if_icmp .ne 11, 3) := by decide +kernel
theorem dX7_note_17 : decode cX7_note 17 = .ok (.aload_n 0, 1) := by decide +kernel
theorem dX7_note_18 : decode cX7_note 18 = .ok (.getfield 25, 3) := by decide +kernel
theorem dX7_note_21 : decode cX7_note 21 = .ok (.getfield 342, 3) := by decide +kernel
theorem dX7_note_24 : decode cX7_note 24 = .ok (.ireturn, 1) := by decide +kernel
theorem dX7_note_25 : decode cX7_note 25 = .ok (.aload_n 0, 1) := by decide +kernel
theorem dX7_note_26 : decode cX7_note 26 = .ok (.getfield 25, 3) := by decide +kernel
theorem dX7_note_29 : decode cX7_note 29 = .ok (.iload_n 1, 1) := by decide +kernel
theorem dX7_note_30 : decode cX7_note 30 = .ok (.invokevirtual 345, 3) := by decide +kernel
theorem dX7_note_33 : decode cX7_note 33 = .ok (.ifCond .eq 14, 3) := by decide +kernel
theorem dX7_note_36 : decode cX7_note 36 = .ok (.aload_n 0, 1) := by decide +kernel
theorem dX7_note_37 : decode cX7_note 37 = .ok (.getfield 25, 3) := by decide +kernel
theorem dX7_note_40 : decode cX7_note 40 = .ok (.iload_n 1, 1) := by decide +kernel
theorem dX7_note_41 : decode cX7_note 41 = .ok (.invokevirtual 348, 3) := by decide +kernel
theorem dX7_note_44 : decode cX7_note 44 = .ok (.goto 9, 3) := by decide +kernel
theorem dX7_note_47 : decode cX7_note 47 = .ok (.aload_n 0, 1) := by decide +kernel
theorem dX7_note_48 : decode cX7_note 48 = .ok (.bipush (-5), 2) := by decide +kernel
theorem dX7_note_50 : decode cX7_note 50 = .ok (.invokevirtual 84, 3) := by decide +kernel
theorem dX7_note_53 : decode cX7_note 53 = .ok (.ireturn, 1) := by decide +kernel
theorem dX7_came_0 : decode cX7_came 0 = .ok (.iload_n 1, 1) := by decide +kernel
theorem dX7_came_1 : decode cX7_came 1 = .ok (.ifCond .ge 10, 3) := by decide +kernel
theorem dX7_came_4 : decode cX7_came 4 = .ok (.aload_n 0, 1) := by decide +kernel
theorem dX7_came_5 : decode cX7_came 5 = .ok (.bipush (-2), 2) := by decide +kernel
theorem dX7_came_7 : decode cX7_came 7 = .ok (.invokevirtual 84, 3) := by decide +kernel
theorem dX7_came_10 : decode cX7_came 10 = .ok (.ireturn, 1) := by decide +kernel
theorem dX7_came_11 : decode cX7_came 11 = .ok (.aload_n 0, 1) := by decide +kernel
theorem dX7_came_12 : decode cX7_came 12 = .ok (.getfield 25, 3) := by decide +kernel
theorem dX7_came_15 : decode cX7_came 15 = .ok (.iload_n 1, 1) := by decide +kernel
theorem dX7_came_16 : decode cX7_came 16 = .ok (.invokevirtual 345, 3) := by decide +kernel
theorem dX7_came_19 : decode cX7_came 19 = .ok (.ifCond .ne 10, 3) := by decide +kernel
theorem dX7_came_22 : decode cX7_came 22 = .ok (.aload_n 0, 1) := by decide +kernel
theorem dX7_came_23 : decode cX7_came 23 = .ok (.bipush (-5), 2) := by decide +kernel
theorem dX7_came_25 : decode cX7_came 25 = .ok (.invokevirtual 84, 3) := by decide +kernel
theorem dX7_came_28 : decode cX7_came 28 = .ok (.ireturn, 1) := by decide +kernel
theorem dX7_came_29 : decode cX7_came 29 = .ok (.aload_n 0, 1) := by decide +kernel
theorem dX7_came_30 : decode cX7_came 30 = .ok (.getfield 25, 3) := by decide +kernel
theorem dX7_came_33 : decode cX7_came 33 = .ok (.iload_n 1, 1) := by decide +kernel
theorem dX7_came_34 : decode cX7_came 34 = .ok (.invokevirtual 349, 3) := by decide +kernel
theorem dX7_came_37 : decode cX7_came 37 = .ok (.ifCond .eq 7, 3) := by decide +kernel
theorem dX7_came_40 : decode cX7_came 40 = .ok (.iconst 1, 1) := by decide +kernel
theorem dX7_came_41 : decode cX7_came 41 = .ok (.goto 4, 3) := by decide +kernel
theorem dX7_came_44 : decode cX7_came 44 = .ok (.iconst 0, 1) := by decide +kernel
theorem dX7_came_45 : decode cX7_came 45 = .ok (.ireturn, 1) := by decide +kernel
theorem dX7_suspect_0 : decode cX7_suspect 0 = .ok (.iconst (-1), 1) := by decide +kernel
theorem dX7_suspect_1 : decode cX7_suspect 1 = .ok (.istore_n 1, 1) := by decide +kernel
theorem dX7_suspect_2 : decode cX7_suspect 2 = .ok (.iconst 0, 1) := by decide +kernel
theorem dX7_suspect_3 : decode cX7_suspect 3 = .ok (.istore_n 2, 1) := by decide +kernel
theorem dX7_suspect_4 : decode cX7_suspect 4 = .ok (.iconst 0, 1) := by decide +kernel
theorem dX7_suspect_5 : decode cX7_suspect 5 = .ok (.istore_n 3, 1) := by decide +kernel
theorem dX7_suspect_6 : decode cX7_suspect 6 = .ok (.iload_n 3, 1) := by decide +kernel
theorem dX7_suspect_7 : decode cX7_suspect 7 = .ok (.aload_n 0, 1) := by decide +kernel
theorem dX7_suspect_8 : decode cX7_suspect 8 = .ok (.getfield 10, 3) := by decide +kernel
theorem dX7_suspect_11 : decode cX7_suspect 11 = .ok (.getfield 161, 3) := by decide +kernel
theorem dX7_suspect_14 : decode cX7_suspect 14 = .ok (.if_icmp .ge 30, 3) := by decide +kernel
theorem dX7_suspect_17 : decode cX7_suspect 17 = .ok (.aload_n 0, 1) := by decide +kernel
theorem dX7_suspect_18 : decode cX7_suspect 18 = .ok (.getfield 25, 3) := by decide +kernel
theorem dX7_suspect_21 : decode cX7_suspect 21 = .ok (.iload_n 3, 1) := by decide +kernel
theorem dX7_suspect_22 : decode cX7_suspect 22 = .ok (.invokevirtual 352, 3) := by decide +kernel
theorem dX7_suspect_25 : decode cX7_suspect 25 = .ok (.istore 4, 2) := by decide +kernel
theorem dX7_suspect_27 : decode cX7_suspect 27 = .ok (.iload 4, 2) := by decide +kernel
theorem dX7_suspect_29 : decode cX7_suspect 29 = .ok (.iload_n 2, 1) := by decide +kernel
theorem dX7_suspect_30 : decode cX7_suspect 30 = .ok (.if_icmp .le 8, 3) := by decide +kernel
theorem dX7_suspect_33 : decode cX7_suspect 33 = .ok (.iload_n 3, 1) := by decide +kernel
theorem dX7_suspect_34 : decode cX7_suspect 34 = .ok (.istore_n 1, 1) := by decide +kernel
theorem dX7_suspect_35 : decode cX7_suspect 35 = .ok (.iload 4, 2) := by decide +kernel
theorem dX7_suspect_37 : decode cX7_suspect 37 = .ok (.istore_n 2, 1) := by decide +kernel
theorem dX7_suspect_38 : decode cX7_suspect 38 = .ok (.iinc 3 1, 3) := by decide +kernel
theorem dX7_suspect_41 : decode cX7_suspect 41 = .ok (.goto (-35), 3) := by decide +kernel
theorem dX7_suspect_44 : decode cX7_suspect 44 = .ok (.iload_n 1, 1) := by decide +kernel
theorem dX7_suspect_45 : decode cX7_suspect 45 = .ok (.ireturn, 1) := by decide +kernel
theorem dX7_swap_0 : decode cX7_swap 0 = .ok (.aload_n 0, 1) := by decide +kernel
theorem dX7_swap_1 : decode cX7_swap 1 = .ok (.getfield 10, 3) := by decide +kernel
theorem dX7_swap_4 : decode cX7_swap 4 = .ok (.iload_n 1, 1) := by decide +kernel
theorem dX7_swap_5 : decode cX7_swap 5 = .ok (.invokevirtual 132, 3) := by decide +kernel
theorem dX7_swap_8 : decode cX7_swap 8 = .ok (.ifCond .eq 14, 3) := by decide +kernel
theorem dX7_swap_11 : decode cX7_swap 11 = .ok (.aload_n 0, 1) := by decide +kernel
theorem dX7_swap_12 : decode cX7_swap 12 = .ok (.getfield 10, 3) := by decide +kernel
theorem dX7_swap_15 : decode cX7_swap 15 = .ok (.iload_n 2, 1) := by decide +kernel
theorem dX7_swap_16 : decode cX7_swap 16 = .ok (.invokevirtual 132, 3) := by decide +kernel
theorem dX7_swap_19 : decode cX7_swap 19 = .ok (.ifCond .ne 10, 3) := by decide +kernel
theorem dX7_swap_22 : decode cX7_swap 22 = .ok (.aload_n 0, 1) := by decide +kernel
theorem dX7_swap_23 : decode cX7_swap 23 = .ok (.bipush (-2), 2) := by decide +kernel
theorem dX7_swap_25 : decode cX7_swap 25 = .ok (.invokevirtual 84, 3) := by decide +kernel
theorem dX7_swap_28 : decode cX7_swap 28 = .ok (.ireturn, 1) := by decide +kernel
theorem dX7_swap_29 : decode cX7_swap 29 = .ok (.iload_n 1, 1) := by decide +kernel
theorem dX7_swap_30 : decode cX7_swap 30 = .ok (.iload_n 2, 1) := by decide +kernel
theorem dX7_swap_31 : decode cX7_swap 31 = .ok (.if_icmp .ne 5, 3) := by decide +kernel
theorem dX7_swap_34 : decode cX7_swap 34 = .ok (.iconst 0, 1) := by decide +kernel
theorem dX7_swap_35 : decode cX7_swap 35 = .ok (.ireturn, 1) := by decide +kernel
theorem dX7_swap_36 : decode cX7_swap 36 = .ok (.aload_n 0, 1) := by decide +kernel
theorem dX7_swap_37 : decode cX7_swap 37 = .ok (.getfield 10, 3) := by decide +kernel
theorem dX7_swap_40 : decode cX7_swap 40 = .ok (.iload_n 1, 1) := by decide +kernel
theorem dX7_swap_41 : decode cX7_swap 41 = .ok (.iload_n 2, 1) := by decide +kernel
theorem dX7_swap_42 : decode cX7_swap 42 = .ok (.invokevirtual 320, 3) := by decide +kernel
theorem dX7_swap_45 : decode cX7_swap 45 = .ok (.iconst 1, 1) := by decide +kernel
theorem dX7_swap_46 : decode cX7_swap 46 = .ok (.ireturn, 1) := by decide +kernel
theorem dX7_waits_0 : decode cX7_waits 0 = .ok (.iload_n 1, 1) := by decide +kernel
theorem dX7_waits_1 : decode cX7_waits 1 = .ok (.iconst 1, 1) := by decide +kernel
theorem dX7_waits_2 : decode cX7_waits 2 = .ok (.if_icmp .lt 10, 3) := by decide +kernel
theorem dX7_waits_5 : decode cX7_waits 5 = .ok (.iload_n 1, 1) := by decide +kernel
theorem dX7_waits_6 : decode cX7_waits 6 = .ok (.sipush 999, 3) := by decide +kernel
theorem dX7_waits_9 : decode cX7_waits 9 = .ok (.if_icmp .le 10, 3) := by decide +kernel
theorem dX7_waits_12 : decode cX7_waits 12 = .ok (.aload_n 0, 1) := by decide +kernel
theorem dX7_waits_13 : decode cX7_waits 13 = .ok (.bipush (-2), 2) := by decide +kernel
theorem dX7_waits_15 : decode cX7_waits 15 = .ok (.invokevirtual 84, 3) := by decide +kernel
theorem dX7_waits_18 : decode cX7_waits 18 = .ok (.ireturn, 1) := by decide +kernel
theorem dX7_waits_19 : decode cX7_waits 19 = .ok (.aload_n 0, 1) := by decide +kernel
theorem dX7_waits_20 : decode cX7_waits 20 = .ok (.getfield 25, 3) := by decide +kernel
theorem dX7_waits_23 : decode cX7_waits 23 = .ok (.dup, 1) := by decide +kernel
theorem dX7_waits_24 : decode cX7_waits 24 = .ok (.getfield 332, 3) := by decide +kernel
theorem dX7_waits_27 : decode cX7_waits 27 = .ok (.iload_n 1, 1) := by decide +kernel
theorem dX7_waits_28 : decode cX7_waits 28 = .ok (.iadd, 1) := by decide +kernel
theorem dX7_waits_29 : decode cX7_waits 29 = .ok (.putfield 332, 3) := by decide +kernel
theorem dX7_waits_32 : decode cX7_waits 32 = .ok (.aload_n 0, 1) := by decide +kernel
theorem dX7_waits_33 : decode cX7_waits 33 = .ok (.getfield 25, 3) := by decide +kernel
theorem dX7_waits_36 : decode cX7_waits 36 = .ok (.getfield 332, 3) := by decide +kernel
theorem dX7_waits_39 : decode cX7_waits 39 = .ok (.ireturn, 1) := by decide +kernel
theorem dX7_seed_0 : decode cX7_seed 0 = .ok (.aload_n 0, 1) := by decide +kernel
theorem dX7_seed_1 : decode cX7_seed 1 = .ok (.getfield 25, 3) := by decide +kernel
theorem dX7_seed_4 : decode cX7_seed 4 = .ok (.getfield 355, 3) := by decide +kernel
theorem dX7_seed_7 : decode cX7_seed 7 = .ok (.istore_n 2, 1) := by decide +kernel
theorem dX7_seed_8 : decode cX7_seed 8 = .ok (.aload_n 0, 1) := by decide +kernel
theorem dX7_seed_9 : decode cX7_seed 9 = .ok (.getfield 25, 3) := by decide +kernel
theorem dX7_seed_12 : decode cX7_seed 12 = .ok (.iload_n 1, 1) := by decide +kernel
theorem dX7_seed_13 : decode cX7_seed 13 = .ok (.putfield 355, 3) := by decide +kernel
theorem dX7_seed_16 : decode cX7_seed 16 = .ok (.iload_n 2, 1) := by decide +kernel
theorem dX7_seed_17 : decode cX7_seed 17 = .ok (.ireturn, 1) := by decide +kernel
theorem dX7_image_0 : decode cX7_image 0 = .ok (.aload_n 0, 1) := by decide +kernel
theorem dX7_image_1 : decode cX7_image 1 = .ok (.getfield 19, 3) := by decide +kernel
theorem dX7_image_4 : decode cX7_image 4 = .ok (.aload_n 0, 1) := by decide +kernel
theorem dX7_image_5 : decode cX7_image 5 = .ok (.getfield 10, 3) := by decide +kernel
theorem dX7_image_8 : decode cX7_image 8 = .ok (.invokevirtual 217, 3) := by decide +kernel
theorem dX7_image_11 : decode cX7_image 11 = .ok (.aload_n 0, 1) := by decide +kernel
theorem dX7_image_12 : decode cX7_image 12 = .ok (.getfield 29, 3) := by decide +kernel
theorem dX7_image_15 : decode cX7_image 15 = .ok (.aload_n 0, 1) := by decide +kernel
theorem dX7_image_16 : decode cX7_image 16 = .ok (.getfield 25, 3) := by decide +kernel
theorem dX7_image_19 : decode cX7_image 19 = .ok (.invokevirtual 358, 3) := by decide +kernel
theorem dX7_image_22 : decode cX7_image 22 = .ok (.aload_n 0, 1) := by decide +kernel
theorem dX7_image_23 : decode cX7_image 23 = .ok (.iconst 1, 1) := by decide +kernel
theorem dX7_image_24 : decode cX7_image 24 = .ok (.putfield 32, 3) := by decide +kernel
theorem dX7_image_27 : decode cX7_image 27 = .ok (.iconst 1, 1) := by decide +kernel
theorem dX7_image_28 : decode cX7_image 28 = .ok (.ireturn, 1) := by decide +kernel
theorem dX7_back_0 : decode cX7_back 0 = .ok (.aload_n 0, 1) := by decide +kernel
theorem dX7_back_1 : decode cX7_back 1 = .ok (.getfield 32, 3) := by decide +kernel
theorem dX7_back_4 : decode cX7_back 4 = .ok (.ifCond .ne 10, 3) := by decide +kernel
theorem dX7_back_7 : decode cX7_back 7 = .ok (.aload_n 0, 1) := by decide +kernel
theorem dX7_back_8 : decode cX7_back 8 = .ok (.bipush (-5), 2) := by decide +kernel
theorem dX7_back_10 : decode cX7_back 10 = .ok (.invokevirtual 84, 3) := by decide +kernel
theorem dX7_back_13 : decode cX7_back 13 = .ok (.ireturn, 1) := by decide +kernel
theorem dX7_back_14 : decode cX7_back 14 = .ok (.aload_n 0, 1) := by decide +kernel
theorem dX7_back_15 : decode cX7_back 15 = .ok (.getfield 10, 3) := by decide +kernel
theorem dX7_back_18 : decode cX7_back 18 = .ok (.aload_n 0, 1) := by decide +kernel
theorem dX7_back_19 : decode cX7_back 19 = .ok (.getfield 19, 3) := by decide +kernel
theorem dX7_back_22 : decode cX7_back 22 = .ok (.invokevirtual 217, 3) := by decide +kernel
theorem dX7_back_25 : decode cX7_back 25 = .ok (.aload_n 0, 1) := by decide +kernel
theorem dX7_back_26 : decode cX7_back 26 = .ok (.getfield 25, 3) := by decide +kernel
theorem dX7_back_29 : decode cX7_back 29 = .ok (.aload_n 0, 1) := by decide +kernel
theorem dX7_back_30 : decode cX7_back 30 = .ok (.getfield 29, 3) := by decide +kernel
theorem dX7_back_33 : decode cX7_back 33 = .ok (.invokevirtual 358, 3) := by decide +kernel
theorem dX7_back_36 : decode cX7_back 36 = .ok (.iconst 0, 1) := by decide +kernel
theorem dX7_back_37 : decode cX7_back 37 = .ok (.istore_n 1, 1) := by decide +kernel
theorem dX7_back_38 : decode cX7_back 38 = .ok (.iload_n 1, 1) := by decide +kernel
theorem dX7_back_39 : decode cX7_back 39 = .ok (.bipush 8, 2) := by decide +kernel
theorem dX7_back_41 : decode cX7_back 41 = .ok (.if_icmp .ge 50, 3) := by decide +kernel
theorem dX7_back_44 : decode cX7_back 44 = .ok (.aload_n 0, 1) := by decide +kernel
theorem dX7_back_45 : decode cX7_back 45 = .ok (.getfield 38, 3) := by decide +kernel
theorem dX7_back_48 : decode cX7_back 48 = .ok (.iload_n 1, 1) := by decide +kernel
theorem dX7_back_49 : decode cX7_back 49 = .ok (.aaload, 1) := by decide +kernel
theorem dX7_back_50 : decode cX7_back 50 = .ok (.invokevirtual 142, 3) := by decide +kernel
theorem dX7_back_53 : decode cX7_back 53 = .ok (.ifCond .eq 32, 3) := by decide +kernel
theorem dX7_back_56 : decode cX7_back 56 = .ok (.aload_n 0, 1) := by decide +kernel
theorem dX7_back_57 : decode cX7_back 57 = .ok (.getfield 10, 3) := by decide +kernel
theorem dX7_back_60 : decode cX7_back 60 = .ok (.aload_n 0, 1) := by decide +kernel
theorem dX7_back_61 : decode cX7_back 61 = .ok (.getfield 38, 3) := by decide +kernel
theorem dX7_back_64 : decode cX7_back 64 = .ok (.iload_n 1, 1) := by decide +kernel
theorem dX7_back_65 : decode cX7_back 65 = .ok (.aaload, 1) := by decide +kernel
theorem dX7_back_66 : decode cX7_back 66 = .ok (.invokevirtual 145, 3) := by decide +kernel
theorem dX7_back_69 : decode cX7_back 69 = .ok (.invokevirtual 132, 3) := by decide +kernel
theorem dX7_back_72 : decode cX7_back 72 = .ok (.ifCond .ne 13, 3) := by decide +kernel
theorem dX7_back_75 : decode cX7_back 75 = .ok (.aload_n 0, 1) := by decide +kernel
theorem dX7_back_76 : decode cX7_back 76 = .ok (.getfield 38, 3) := by decide +kernel
theorem dX7_back_79 : decode cX7_back 79 = .ok (.iload_n 1, 1) := by decide +kernel
theorem dX7_back_80 : decode cX7_back 80 = .ok (.aaload, 1) := by decide +kernel
theorem dX7_back_81 : decode cX7_back 81 = .ok (.iconst (-1), 1) := by decide +kernel
theorem dX7_back_82 : decode cX7_back 82 = .ok (.invokevirtual 135, 3) := by decide +kernel
theorem dX7_back_85 : decode cX7_back 85 = .ok (.iinc 1 1, 3) := by decide +kernel
theorem dX7_back_88 : decode cX7_back 88 = .ok (.goto (-50), 3) := by decide +kernel
theorem dX7_back_91 : decode cX7_back 91 = .ok (.iconst 1, 1) := by decide +kernel
theorem dX7_back_92 : decode cX7_back 92 = .ok (.ireturn, 1) := by decide +kernel
theorem dX7_status_0 : decode cX7_status 0 = .ok (.iload_n 1, 1) := by decide +kernel
theorem dX7_status_1 : decode cX7_status 1 = .ok (.tableswitch 156 0 11 #[63, 71, 79, 87, 95, 103, 111, 119, 127, 135, 143, 151], 63) := by decide +kernel
theorem dX7_status_64 : decode cX7_status 64 = .ok (.aload_n 0, 1) := by decide +kernel
theorem dX7_status_65 : decode cX7_status 65 = .ok (.getfield 10, 3) := by decide +kernel
theorem dX7_status_68 : decode cX7_status 68 = .ok (.getfield 164, 3) := by decide +kernel
theorem dX7_status_71 : decode cX7_status 71 = .ok (.ireturn, 1) := by decide +kernel
theorem dX7_status_72 : decode cX7_status 72 = .ok (.aload_n 0, 1) := by decide +kernel
theorem dX7_status_73 : decode cX7_status 73 = .ok (.getfield 10, 3) := by decide +kernel
theorem dX7_status_76 : decode cX7_status 76 = .ok (.getfield 161, 3) := by decide +kernel
theorem dX7_status_79 : decode cX7_status 79 = .ok (.ireturn, 1) := by decide +kernel
theorem dX7_status_80 : decode cX7_status 80 = .ok (.aload_n 0, 1) := by decide +kernel
theorem dX7_status_81 : decode cX7_status 81 = .ok (.getfield 10, 3) := by decide +kernel
theorem dX7_status_84 : decode cX7_status 84 = .ok (.invokevirtual 361, 3) := by decide +kernel
theorem dX7_status_87 : decode cX7_status 87 = .ok (.ireturn, 1) := by decide +kernel
theorem dX7_status_88 : decode cX7_status 88 = .ok (.aload_n 0, 1) := by decide +kernel
theorem dX7_status_89 : decode cX7_status 89 = .ok (.getfield 10, 3) := by decide +kernel
theorem dX7_status_92 : decode cX7_status 92 = .ok (.getfield 199, 3) := by decide +kernel
theorem dX7_status_95 : decode cX7_status 95 = .ok (.ireturn, 1) := by decide +kernel
theorem dX7_status_96 : decode cX7_status 96 = .ok (.aload_n 0, 1) := by decide +kernel
theorem dX7_status_97 : decode cX7_status 97 = .ok (.getfield 10, 3) := by decide +kernel
theorem dX7_status_100 : decode cX7_status 100 = .ok (.getfield 202, 3) := by decide +kernel
theorem dX7_status_103 : decode cX7_status 103 = .ok (.ireturn, 1) := by decide +kernel
theorem dX7_status_104 : decode cX7_status 104 = .ok (.aload_n 0, 1) := by decide +kernel
theorem dX7_status_105 : decode cX7_status 105 = .ok (.getfield 10, 3) := by decide +kernel
theorem dX7_status_108 : decode cX7_status 108 = .ok (.getfield 210, 3) := by decide +kernel
theorem dX7_status_111 : decode cX7_status 111 = .ok (.ireturn, 1) := by decide +kernel
theorem dX7_status_112 : decode cX7_status 112 = .ok (.aload_n 0, 1) := by decide +kernel
theorem dX7_status_113 : decode cX7_status 113 = .ok (.getfield 25, 3) := by decide +kernel
theorem dX7_status_116 : decode cX7_status 116 = .ok (.getfield 332, 3) := by decide +kernel
theorem dX7_status_119 : decode cX7_status 119 = .ok (.ireturn, 1) := by decide +kernel
theorem dX7_status_120 : decode cX7_status 120 = .ok (.aload_n 0, 1) := by decide +kernel
theorem dX7_status_121 : decode cX7_status 121 = .ok (.getfield 25, 3) := by decide +kernel
theorem dX7_status_124 : decode cX7_status 124 = .ok (.getfield 364, 3) := by decide +kernel
theorem dX7_status_127 : decode cX7_status 127 = .ok (.ireturn, 1) := by decide +kernel
theorem dX7_status_128 : decode cX7_status 128 = .ok (.aload_n 0, 1) := by decide +kernel
theorem dX7_status_129 : decode cX7_status 129 = .ok (.getfield 25, 3) := by decide +kernel
theorem dX7_status_132 : decode cX7_status 132 = .ok (.getfield 367, 3) := by decide +kernel
theorem dX7_status_135 : decode cX7_status 135 = .ok (.ireturn, 1) := by decide +kernel
theorem dX7_status_136 : decode cX7_status 136 = .ok (.aload_n 0, 1) := by decide +kernel
theorem dX7_status_137 : decode cX7_status 137 = .ok (.getfield 45, 3) := by decide +kernel
theorem dX7_status_140 : decode cX7_status 140 = .ok (.getfield 216, 3) := by decide +kernel
theorem dX7_status_143 : decode cX7_status 143 = .ok (.ireturn, 1) := by decide +kernel
theorem dX7_status_144 : decode cX7_status 144 = .ok (.aload_n 0, 1) := by decide +kernel
theorem dX7_status_145 : decode cX7_status 145 = .ok (.getfield 25, 3) := by decide +kernel
theorem dX7_status_148 : decode cX7_status 148 = .ok (.getfield 355, 3) := by decide +kernel
theorem dX7_status_151 : decode cX7_status 151 = .ok (.ireturn, 1) := by decide +kernel
theorem dX7_status_152 : decode cX7_status 152 = .ok (.aload_n 0, 1) := by decide +kernel
theorem dX7_status_153 : decode cX7_status 153 = .ok (.invokevirtual 370, 3) := by decide +kernel
theorem dX7_status_156 : decode cX7_status 156 = .ok (.ireturn, 1) := by decide +kernel
theorem dX7_status_157 : decode cX7_status 157 = .ok (.aload_n 0, 1) := by decide +kernel
theorem dX7_status_158 : decode cX7_status 158 = .ok (.iload_n 1, 1) := by decide +kernel
theorem dX7_status_159 : decode cX7_status 159 = .ok (.bipush 12, 2) := by decide +kernel
theorem dX7_status_161 : decode cX7_status 161 = .ok (.isub, 1) := by decide +kernel
theorem dX7_status_162 : decode cX7_status 162 = .ok (.invokevirtual 373, 3) := by decide +kernel
theorem dX7_status_165 : decode cX7_status 165 = .ok (.ireturn, 1) := by decide +kernel
theorem dX7_refuse_0 : decode cX7_refuse 0 = .ok (.bipush (-2), 2) := by decide +kernel
theorem dX7_refuse_2 : decode cX7_refuse 2 = .ok (.iload_n 1, 1) := by decide +kernel
theorem dX7_refuse_3 : decode cX7_refuse 3 = .ok (.isub, 1) := by decide +kernel
theorem dX7_refuse_4 : decode cX7_refuse 4 = .ok (.istore_n 2, 1) := by decide +kernel
theorem dX7_refuse_5 : decode cX7_refuse 5 = .ok (.iload_n 2, 1) := by decide +kernel
theorem dX7_refuse_6 : decode cX7_refuse 6 = .ok (.ifCond .lt 18, 3) := by decide +kernel
theorem dX7_refuse_9 : decode cX7_refuse 9 = .ok (.iload_n 2, 1) := by decide +kernel
theorem dX7_refuse_10 : decode cX7_refuse 10 = .ok (.iconst 5, 1) := by decide +kernel
theorem dX7_refuse_11 : decode cX7_refuse 11 = .ok (.if_icmp .ge 13, 3) := by decide +kernel
theorem dX7_refuse_14 : decode cX7_refuse 14 = .ok (.aload_n 0, 1) := by decide +kernel
theorem dX7_refuse_15 : decode cX7_refuse 15 = .ok (.getfield 75, 3) := by decide +kernel
theorem dX7_refuse_18 : decode cX7_refuse 18 = .ok (.iload_n 2, 1) := by decide +kernel
theorem dX7_refuse_19 : decode cX7_refuse 19 = .ok (.dup2, 1) := by decide +kernel
theorem dX7_refuse_20 : decode cX7_refuse 20 = .ok (.iaload, 1) := by decide +kernel
theorem dX7_refuse_21 : decode cX7_refuse 21 = .ok (.iconst 1, 1) := by decide +kernel
theorem dX7_refuse_22 : decode cX7_refuse 22 = .ok (.iadd, 1) := by decide +kernel
theorem dX7_refuse_23 : decode cX7_refuse 23 = .ok (.iastore, 1) := by decide +kernel
theorem dX7_refuse_24 : decode cX7_refuse 24 = .ok (.iload_n 1, 1) := by decide +kernel
theorem dX7_refuse_25 : decode cX7_refuse 25 = .ok (.ireturn, 1) := by decide +kernel
theorem dX7_refusalsOf_0 : decode cX7_refusalsOf 0 = .ok (.iload_n 1, 1) := by decide +kernel
theorem dX7_refusalsOf_1 : decode cX7_refusalsOf 1 = .ok (.ifCond .lt 17, 3) := by decide +kernel
theorem dX7_refusalsOf_4 : decode cX7_refusalsOf 4 = .ok (.iload_n 1, 1) := by decide +kernel
theorem dX7_refusalsOf_5 : decode cX7_refusalsOf 5 = .ok (.iconst 5, 1) := by decide +kernel
theorem dX7_refusalsOf_6 : decode cX7_refusalsOf 6 = .ok (.if_icmp .ge 12, 3) := by decide +kernel
theorem dX7_refusalsOf_9 : decode cX7_refusalsOf 9 = .ok (.aload_n 0, 1) := by decide +kernel
theorem dX7_refusalsOf_10 : decode cX7_refusalsOf 10 = .ok (.getfield 75, 3) := by decide +kernel
theorem dX7_refusalsOf_13 : decode cX7_refusalsOf 13 = .ok (.iload_n 1, 1) := by decide +kernel
theorem dX7_refusalsOf_14 : decode cX7_refusalsOf 14 = .ok (.iaload, 1) := by decide +kernel
theorem dX7_refusalsOf_15 : decode cX7_refusalsOf 15 = .ok (.goto 4, 3) := by decide +kernel
theorem dX7_refusalsOf_18 : decode cX7_refusalsOf 18 = .ok (.iconst (-1), 1) := by decide +kernel
theorem dX7_refusalsOf_19 : decode cX7_refusalsOf 19 = .ok (.ireturn, 1) := by decide +kernel
theorem dX7_isShelf_0 : decode cX7_isShelf 0 = .ok (.iload_n 0, 1) := by decide +kernel
theorem dX7_isShelf_1 : decode cX7_isShelf 1 = .ok (.ifCond .lt 13, 3) := by decide +kernel
theorem dX7_isShelf_4 : decode cX7_isShelf 4 = .ok (.iload_n 0, 1) := by decide +kernel
theorem dX7_isShelf_5 : decode cX7_isShelf 5 = .ok (.bipush 8, 2) := by decide +kernel
theorem dX7_isShelf_7 : decode cX7_isShelf 7 = .ok (.if_icmp .ge 7, 3) := by decide +kernel
theorem dX7_isShelf_10 : decode cX7_isShelf 10 = .ok (.iconst 1, 1) := by decide +kernel
theorem dX7_isShelf_11 : decode cX7_isShelf 11 = .ok (.goto 4, 3) := by decide +kernel
theorem dX7_isShelf_14 : decode cX7_isShelf 14 = .ok (.iconst 0, 1) := by decide +kernel
theorem dX7_isShelf_15 : decode cX7_isShelf 15 = .ok (.ireturn, 1) := by decide +kernel
theorem dX7_isKind_0 : decode cX7_isKind 0 = .ok (.iload_n 0, 1) := by decide +kernel
theorem dX7_isKind_1 : decode cX7_isKind 1 = .ok (.ifCond .lt 12, 3) := by decide +kernel
theorem dX7_isKind_4 : decode cX7_isKind 4 = .ok (.iload_n 0, 1) := by decide +kernel
theorem dX7_isKind_5 : decode cX7_isKind 5 = .ok (.iconst 5, 1) := by decide +kernel
theorem dX7_isKind_6 : decode cX7_isKind 6 = .ok (.if_icmp .gt 7, 3) := by decide +kernel
theorem dX7_isKind_9 : decode cX7_isKind 9 = .ok (.iconst 1, 1) := by decide +kernel
theorem dX7_isKind_10 : decode cX7_isKind 10 = .ok (.goto 4, 3) := by decide +kernel
theorem dX7_isKind_13 : decode cX7_isKind 13 = .ok (.iconst 0, 1) := by decide +kernel
theorem dX7_isKind_14 : decode cX7_isKind 14 = .ok (.ireturn, 1) := by decide +kernel
theorem dX7_isMark_0 : decode cX7_isMark 0 = .ok (.iload_n 0, 1) := by decide +kernel
theorem dX7_isMark_1 : decode cX7_isMark 1 = .ok (.ifCond .lt 13, 3) := by decide +kernel
theorem dX7_isMark_4 : decode cX7_isMark 4 = .ok (.iload_n 0, 1) := by decide +kernel
theorem dX7_isMark_5 : decode cX7_isMark 5 = .ok (.bipush 9, 2) := by decide +kernel
theorem dX7_isMark_7 : decode cX7_isMark 7 = .ok (.if_icmp .gt 7, 3) := by decide +kernel
theorem dX7_isMark_10 : decode cX7_isMark 10 = .ok (.iconst 1, 1) := by decide +kernel
theorem dX7_isMark_11 : decode cX7_isMark 11 = .ok (.goto 4, 3) := by decide +kernel
theorem dX7_isMark_14 : decode cX7_isMark 14 = .ok (.iconst 0, 1) := by decide +kernel
theorem dX7_isMark_15 : decode cX7_isMark 15 = .ok (.ireturn, 1) := by decide +kernel
theorem dX7_isSecond_0 : decode cX7_isSecond 0 = .ok (.iload_n 0, 1) := by decide +kernel
theorem dX7_isSecond_1 : decode cX7_isSecond 1 = .ok (.ifCond .lt 14, 3) := by decide +kernel
theorem dX7_isSecond_4 : decode cX7_isSecond 4 = .ok (.iload_n 0, 1) := by decide +kernel
theorem dX7_isSecond_5 : decode cX7_isSecond 5 = .ok (.sipush 9999, 3) := by decide +kernel
theorem dX7_isSecond_8 : decode cX7_isSecond 8 = .ok (.if_icmp .gt 7, 3) := by decide +kernel
theorem dX7_isSecond_11 : decode cX7_isSecond 11 = .ok (.iconst 1, 1) := by decide +kernel
theorem dX7_isSecond_12 : decode cX7_isSecond 12 = .ok (.goto 4, 3) := by decide +kernel
theorem dX7_isSecond_15 : decode cX7_isSecond 15 = .ok (.iconst 0, 1) := by decide +kernel
theorem dX7_isSecond_16 : decode cX7_isSecond 16 = .ok (.ireturn, 1) := by decide +kernel
theorem dX7_isRowCount_0 : decode cX7_isRowCount 0 = .ok (.iload_n 0, 1) := by decide +kernel
theorem dX7_isRowCount_1 : decode cX7_isRowCount 1 = .ok (.iconst 2, 1) := by decide +kernel
theorem dX7_isRowCount_2 : decode cX7_isRowCount 2 = .ok (.if_icmp .lt 12, 3) := by decide +kernel
theorem dX7_isRowCount_5 : decode cX7_isRowCount 5 = .ok (.iload_n 0, 1) := by decide +kernel
theorem dX7_isRowCount_6 : decode cX7_isRowCount 6 = .ok (.iconst 4, 1) := by decide +kernel
theorem dX7_isRowCount_7 : decode cX7_isRowCount 7 = .ok (.if_icmp .gt 7, 3) := by decide +kernel
theorem dX7_isRowCount_10 : decode cX7_isRowCount 10 = .ok (.iconst 1, 1) := by decide +kernel
theorem dX7_isRowCount_11 : decode cX7_isRowCount 11 = .ok (.goto 4, 3) := by decide +kernel
theorem dX7_isRowCount_14 : decode cX7_isRowCount 14 = .ok (.iconst 0, 1) := by decide +kernel
theorem dX7_isRowCount_15 : decode cX7_isRowCount 15 = .ok (.ireturn, 1) := by decide +kernel
theorem dX7_isPair_0 : decode cX7_isPair 0 = .ok (.aload_n 0, 1) := by decide +kernel
theorem dX7_isPair_1 : decode cX7_isPair 1 = .ok (.getfield 10, 3) := by decide +kernel
theorem dX7_isPair_4 : decode cX7_isPair 4 = .ok (.iload_n 1, 1) := by decide +kernel
theorem dX7_isPair_5 : decode cX7_isPair 5 = .ok (.invokevirtual 132, 3) := by decide +kernel
theorem dX7_isPair_8 : decode cX7_isPair 8 = .ok (.ifCond .eq 23, 3) := by decide +kernel
theorem dX7_isPair_11 : decode cX7_isPair 11 = .ok (.aload_n 0, 1) := by decide +kernel
theorem dX7_isPair_12 : decode cX7_isPair 12 = .ok (.getfield 10, 3) := by decide +kernel
theorem dX7_isPair_15 : decode cX7_isPair 15 = .ok (.iload_n 2, 1) := by decide +kernel
theorem dX7_isPair_16 : decode cX7_isPair 16 = .ok (.invokevirtual 132, 3) := by decide +kernel
theorem dX7_isPair_19 : decode cX7_isPair 19 = .ok (.ifCond .eq 12, 3) := by decide +kernel
theorem dX7_isPair_22 : decode cX7_isPair 22 = .ok (.iload_n 1, 1) := by decide +kernel
theorem dX7_isPair_23 : decode cX7_isPair 23 = .ok (.iload_n 2, 1) := by decide +kernel
theorem dX7_isPair_24 : decode cX7_isPair 24 = .ok (.if_icmp .eq 7, 3) := by decide +kernel
theorem dX7_isPair_27 : decode cX7_isPair 27 = .ok (.iconst 1, 1) := by decide +kernel
theorem dX7_isPair_28 : decode cX7_isPair 28 = .ok (.goto 4, 3) := by decide +kernel
theorem dX7_isPair_31 : decode cX7_isPair 31 = .ok (.iconst 0, 1) := by decide +kernel
theorem dX7_isPair_32 : decode cX7_isPair 32 = .ok (.ireturn, 1) := by decide +kernel
theorem dX7_isUnder_0 : decode cX7_isUnder 0 = .ok (.iload_n 0, 1) := by decide +kernel
theorem dX7_isUnder_1 : decode cX7_isUnder 1 = .ok (.iload_n 1, 1) := by decide +kernel
theorem dX7_isUnder_2 : decode cX7_isUnder 2 = .ok (.if_icmp .eq 19, 3) := by decide +kernel
theorem dX7_isUnder_5 : decode cX7_isUnder 5 = .ok (.iload_n 1, 1) := by decide +kernel
theorem dX7_isUnder_6 : decode cX7_isUnder 6 = .ok (.ifCond .eq 15, 3) := by decide +kernel
theorem dX7_isUnder_9 : decode cX7_isUnder 9 = .ok (.iload_n 1, 1) := by decide +kernel
theorem dX7_isUnder_10 : decode cX7_isUnder 10 = .ok (.iconst 2, 1) := by decide +kernel
theorem dX7_isUnder_11 : decode cX7_isUnder 11 = .ok (.if_icmp .ne 14, 3) := by decide +kernel
theorem dX7_isUnder_14 : decode cX7_isUnder 14 = .ok (.iload_n 0, 1) := by decide +kernel
theorem dX7_isUnder_15 : decode cX7_isUnder 15 = .ok (.invokestatic 376, 3) := by decide +kernel
theorem dX7_isUnder_18 : decode cX7_isUnder 18 = .ok (.ifCond .eq 7, 3) := by decide +kernel
theorem dX7_isUnder_21 : decode cX7_isUnder 21 = .ok (.iconst 1, 1) := by decide +kernel
theorem dX7_isUnder_22 : decode cX7_isUnder 22 = .ok (.goto 4, 3) := by decide +kernel
theorem dX7_isUnder_25 : decode cX7_isUnder 25 = .ok (.iconst 0, 1) := by decide +kernel
theorem dX7_isUnder_26 : decode cX7_isUnder 26 = .ok (.ireturn, 1) := by decide +kernel
theorem dX7_reads_0 : decode cX7_reads 0 = .ok (.iload_n 0, 1) := by decide +kernel
theorem dX7_reads_1 : decode cX7_reads 1 = .ok (.iconst 2, 1) := by decide +kernel
theorem dX7_reads_2 : decode cX7_reads 2 = .ok (.if_icmp .eq 13, 3) := by decide +kernel
theorem dX7_reads_5 : decode cX7_reads 5 = .ok (.iload_n 0, 1) := by decide +kernel
theorem dX7_reads_6 : decode cX7_reads 6 = .ok (.iconst 3, 1) := by decide +kernel
theorem dX7_reads_7 : decode cX7_reads 7 = .ok (.if_icmp .eq 8, 3) := by decide +kernel
theorem dX7_reads_10 : decode cX7_reads 10 = .ok (.iload_n 0, 1) := by decide +kernel
theorem dX7_reads_11 : decode cX7_reads 11 = .ok (.iconst 4, 1) := by decide +kernel
theorem dX7_reads_12 : decode cX7_reads 12 = .ok (.if_icmp .ne 7, 3) := by decide +kernel
theorem dX7_reads_15 : decode cX7_reads 15 = .ok (.iconst 1, 1) := by decide +kernel
theorem dX7_reads_16 : decode cX7_reads 16 = .ok (.goto 4, 3) := by decide +kernel
theorem dX7_reads_19 : decode cX7_reads 19 = .ok (.iconst 0, 1) := by decide +kernel
theorem dX7_reads_20 : decode cX7_reads 20 = .ok (.ireturn, 1) := by decide +kernel
theorem dX7_rowFault_0 : decode cX7_rowFault 0 = .ok (.aload_n 0, 1) := by decide +kernel
theorem dX7_rowFault_1 : decode cX7_rowFault 1 = .ok (.iload_n 1, 1) := by decide +kernel
theorem dX7_rowFault_2 : decode cX7_rowFault 2 = .ok (.iload_n 1, 1) := by decide +kernel
theorem dX7_rowFault_3 : decode cX7_rowFault 3 = .ok (.invokevirtual 110, 3) := by decide +kernel
theorem dX7_rowFault_6 : decode cX7_rowFault 6 = .ok (.ireturn, 1) := by decide +kernel
theorem dX7_rowsFault_0 : decode cX7_rowsFault 0 = .ok (.iload_n 1, 1) := by decide +kernel
theorem dX7_rowsFault_1 : decode cX7_rowsFault 1 = .ok (.invokestatic 80, 3) := by decide +kernel
theorem dX7_rowsFault_4 : decode cX7_rowsFault 4 = .ok (.ifCond .eq 10, 3) := by decide +kernel
theorem dX7_rowsFault_7 : decode cX7_rowsFault 7 = .ok (.iload_n 2, 1) := by decide +kernel
theorem dX7_rowsFault_8 : decode cX7_rowsFault 8 = .ok (.invokestatic 80, 3) := by decide +kernel
theorem dX7_rowsFault_11 : decode cX7_rowsFault 11 = .ok (.ifCond .ne 6, 3) := by decide +kernel
theorem dX7_rowsFault_14 : decode cX7_rowsFault 14 = .ok (.bipush (-2), 2) := by decide +kernel
theorem dX7_rowsFault_16 : decode cX7_rowsFault 16 = .ok (.ireturn, 1) := by decide +kernel
theorem dX7_rowsFault_17 : decode cX7_rowsFault 17 = .ok (.aload_n 0, 1) := by decide +kernel
theorem dX7_rowsFault_18 : decode cX7_rowsFault 18 = .ok (.getfield 38, 3) := by decide +kernel
theorem dX7_rowsFault_21 : decode cX7_rowsFault 21 = .ok (.iload_n 1, 1) := by decide +kernel
theorem dX7_rowsFault_22 : decode cX7_rowsFault 22 = .ok (.aaload, 1) := by decide +kernel
theorem dX7_rowsFault_23 : decode cX7_rowsFault 23 = .ok (.invokevirtual 142, 3) := by decide +kernel
theorem dX7_rowsFault_26 : decode cX7_rowsFault 26 = .ok (.ifCond .ne 15, 3) := by decide +kernel
theorem dX7_rowsFault_29 : decode cX7_rowsFault 29 = .ok (.aload_n 0, 1) := by decide +kernel
theorem dX7_rowsFault_30 : decode cX7_rowsFault 30 = .ok (.getfield 38, 3) := by decide +kernel
theorem dX7_rowsFault_33 : decode cX7_rowsFault 33 = .ok (.iload_n 2, 1) := by decide +kernel
theorem dX7_rowsFault_34 : decode cX7_rowsFault 34 = .ok (.aaload, 1) := by decide +kernel
theorem dX7_rowsFault_35 : decode cX7_rowsFault 35 = .ok (.invokevirtual 142, 3) := by decide +kernel
theorem dX7_rowsFault_38 : decode cX7_rowsFault 38 = .ok (.ifCond .eq 6, 3) := by decide +kernel
theorem dX7_rowsFault_41 : decode cX7_rowsFault 41 = .ok (.bipush (-3), 2) := by decide +kernel
theorem dX7_rowsFault_43 : decode cX7_rowsFault 43 = .ok (.ireturn, 1) := by decide +kernel
theorem dX7_rowsFault_44 : decode cX7_rowsFault 44 = .ok (.aload_n 0, 1) := by decide +kernel
theorem dX7_rowsFault_45 : decode cX7_rowsFault 45 = .ok (.getfield 38, 3) := by decide +kernel
theorem dX7_rowsFault_48 : decode cX7_rowsFault 48 = .ok (.iload_n 1, 1) := by decide +kernel
theorem dX7_rowsFault_49 : decode cX7_rowsFault 49 = .ok (.aaload, 1) := by decide +kernel
theorem dX7_rowsFault_50 : decode cX7_rowsFault 50 = .ok (.invokevirtual 103, 3) := by decide +kernel
theorem dX7_rowsFault_53 : decode cX7_rowsFault 53 = .ok (.ifCond .eq 19, 3) := by decide +kernel
theorem dX7_rowsFault_56 : decode cX7_rowsFault 56 = .ok (.aload_n 0, 1) := by decide +kernel
theorem dX7_rowsFault_57 : decode cX7_rowsFault 57 = .ok (.getfield 38, 3) := by decide +kernel
theorem dX7_rowsFault_60 : decode cX7_rowsFault 60 = .ok (.iload_n 2, 1) := by decide +kernel
theorem dX7_rowsFault_61 : decode cX7_rowsFault 61 = .ok (.aaload, 1) := by decide +kernel
theorem dX7_rowsFault_62 : decode cX7_rowsFault 62 = .ok (.invokevirtual 103, 3) := by decide +kernel
theorem dX7_rowsFault_65 : decode cX7_rowsFault 65 = .ok (.ifCond .eq 7, 3) := by decide +kernel
theorem dX7_rowsFault_68 : decode cX7_rowsFault 68 = .ok (.iconst 0, 1) := by decide +kernel
theorem dX7_rowsFault_69 : decode cX7_rowsFault 69 = .ok (.goto 5, 3) := by decide +kernel
theorem dX7_rowsFault_72 : decode cX7_rowsFault 72 = .ok (.bipush (-4), 2) := by decide +kernel
theorem dX7_rowsFault_74 : decode cX7_rowsFault 74 = .ok (.ireturn, 1) := by decide +kernel
theorem dX7_shelvesInUse_0 : decode cX7_shelvesInUse 0 = .ok (.iconst 0, 1) := by decide +kernel
theorem dX7_shelvesInUse_1 : decode cX7_shelvesInUse 1 = .ok (.istore_n 1, 1) := by decide +kernel
theorem dX7_shelvesInUse_2 : decode cX7_shelvesInUse 2 = .ok (.iconst 0, 1) := by decide +kernel
theorem dX7_shelvesInUse_3 : decode cX7_shelvesInUse 3 = .ok (.istore_n 2, 1) := by decide +kernel
theorem dX7_shelvesInUse_4 : decode cX7_shelvesInUse 4 = .ok (.iload_n 2, 1) := by decide +kernel
theorem dX7_shelvesInUse_5 : decode cX7_shelvesInUse 5 = .ok (.bipush 8, 2) := by decide +kernel
theorem dX7_shelvesInUse_7 : decode cX7_shelvesInUse 7 = .ok (.if_icmp .ge 25, 3) := by decide +kernel
theorem dX7_shelvesInUse_10 : decode cX7_shelvesInUse 10 = .ok (.aload_n 0, 1) := by decide +kernel
theorem dX7_shelvesInUse_11 : decode cX7_shelvesInUse 11 = .ok (.getfield 38, 3) := by decide +kernel
theorem dX7_shelvesInUse_14 : decode cX7_shelvesInUse 14 = .ok (.iload_n 2, 1) := by decide +kernel
theorem dX7_shelvesInUse_15 : decode cX7_shelvesInUse 15 = .ok (.aaload, 1) := by decide +kernel
theorem dX7_shelvesInUse_16 : decode cX7_shelvesInUse 16 = .ok (.getfield 107, 3) := by decide +kernel
theorem dX7_shelvesInUse_19 : decode cX7_shelvesInUse 19 = .ok (.iconst (-1), 1) := by decide +kernel
theorem dX7_shelvesInUse_20 : decode cX7_shelvesInUse 20 = .ok (.if_icmp .eq 6, 3) := by decide +kernel
theorem dX7_shelvesInUse_23 : decode cX7_shelvesInUse 23 = .ok (.iinc 1 1, 3) := by decide +kernel
theorem dX7_shelvesInUse_26 : decode cX7_shelvesInUse 26 = .ok (.iinc 2 1, 3) := by decide +kernel
theorem dX7_shelvesInUse_29 : decode cX7_shelvesInUse 29 = .ok (.goto (-25), 3) := by decide +kernel
theorem dX7_shelvesInUse_32 : decode cX7_shelvesInUse 32 = .ok (.iload_n 1, 1) := by decide +kernel
theorem dX7_shelvesInUse_33 : decode cX7_shelvesInUse 33 = .ok (.ireturn, 1) := by decide +kernel
theorem dX7_wordOf_0 : decode cX7_wordOf 0 = .ok (.iload_n 2, 1) := by decide +kernel
theorem dX7_wordOf_1 : decode cX7_wordOf 1 = .ok (.tableswitch 71 1 5 #[35, 44, 53, 35, 62], 35) := by decide +kernel
theorem dX7_wordOf_36 : decode cX7_wordOf 36 = .ok (.aload_n 0, 1) := by decide +kernel
theorem dX7_wordOf_37 : decode cX7_wordOf 37 = .ok (.getfield 10, 3) := by decide +kernel
theorem dX7_wordOf_40 : decode cX7_wordOf 40 = .ok (.iload_n 1, 1) := by decide +kernel
theorem dX7_wordOf_41 : decode cX7_wordOf 41 = .ok (.invokevirtual 379, 3) := by decide +kernel
theorem dX7_wordOf_44 : decode cX7_wordOf 44 = .ok (.ireturn, 1) := by decide +kernel
theorem dX7_wordOf_45 : decode cX7_wordOf 45 = .ok (.aload_n 0, 1) := by decide +kernel
theorem dX7_wordOf_46 : decode cX7_wordOf 46 = .ok (.getfield 10, 3) := by decide +kernel
theorem dX7_wordOf_49 : decode cX7_wordOf 49 = .ok (.iload_n 1, 1) := by decide +kernel
theorem dX7_wordOf_50 : decode cX7_wordOf 50 = .ok (.invokevirtual 243, 3) := by decide +kernel
theorem dX7_wordOf_53 : decode cX7_wordOf 53 = .ok (.ireturn, 1) := by decide +kernel
theorem dX7_wordOf_54 : decode cX7_wordOf 54 = .ok (.aload_n 0, 1) := by decide +kernel
theorem dX7_wordOf_55 : decode cX7_wordOf 55 = .ok (.getfield 10, 3) := by decide +kernel
theorem dX7_wordOf_58 : decode cX7_wordOf 58 = .ok (.iload_n 1, 1) := by decide +kernel
theorem dX7_wordOf_59 : decode cX7_wordOf 59 = .ok (.invokevirtual 227, 3) := by decide +kernel
theorem dX7_wordOf_62 : decode cX7_wordOf 62 = .ok (.ireturn, 1) := by decide +kernel
theorem dX7_wordOf_63 : decode cX7_wordOf 63 = .ok (.aload_n 0, 1) := by decide +kernel
theorem dX7_wordOf_64 : decode cX7_wordOf 64 = .ok (.getfield 10, 3) := by decide +kernel
theorem dX7_wordOf_67 : decode cX7_wordOf 67 = .ok (.iload_n 1, 1) := by decide +kernel
theorem dX7_wordOf_68 : decode cX7_wordOf 68 = .ok (.invokevirtual 382, 3) := by decide +kernel
theorem dX7_wordOf_71 : decode cX7_wordOf 71 = .ok (.ireturn, 1) := by decide +kernel
theorem dX7_wordOf_72 : decode cX7_wordOf 72 = .ok (.aload_n 0, 1) := by decide +kernel
theorem dX7_wordOf_73 : decode cX7_wordOf 73 = .ok (.getfield 10, 3) := by decide +kernel
theorem dX7_wordOf_76 : decode cX7_wordOf 76 = .ok (.iload_n 1, 1) := by decide +kernel
theorem dX7_wordOf_77 : decode cX7_wordOf 77 = .ok (.invokevirtual 193, 3) := by decide +kernel
theorem dX7_wordOf_80 : decode cX7_wordOf 80 = .ok (.ireturn, 1) := by decide +kernel
theorem dX7_surestOf_0 : decode cX7_surestOf 0 = .ok (.aload_n 0, 1) := by decide +kernel
theorem dX7_surestOf_1 : decode cX7_surestOf 1 = .ok (.iload_n 1, 1) := by decide +kernel
theorem dX7_surestOf_2 : decode cX7_surestOf 2 = .ok (.iload_n 2, 1) := by decide +kernel
theorem dX7_surestOf_3 : decode cX7_surestOf 3 = .ok (.invokevirtual 183, 3) := by decide +kernel
theorem dX7_surestOf_6 : decode cX7_surestOf 6 = .ok (.ifCond .eq 16, 3) := by decide +kernel
theorem dX7_surestOf_9 : decode cX7_surestOf 9 = .ok (.iload_n 3, 1) := by decide +kernel
theorem dX7_surestOf_10 : decode cX7_surestOf 10 = .ok (.invokestatic 236, 3) := by decide +kernel
theorem dX7_surestOf_13 : decode cX7_surestOf 13 = .ok (.ifCond .eq 9, 3) := by decide +kernel
theorem dX7_surestOf_16 : decode cX7_surestOf 16 = .ok (.iload 4, 2) := by decide +kernel
theorem dX7_surestOf_18 : decode cX7_surestOf 18 = .ok (.iconst (-1), 1) := by decide +kernel
theorem dX7_surestOf_19 : decode cX7_surestOf 19 = .ok (.if_icmp .ge 10, 3) := by decide +kernel
theorem dX7_surestOf_22 : decode cX7_surestOf 22 = .ok (.aload_n 0, 1) := by decide +kernel
theorem dX7_surestOf_23 : decode cX7_surestOf 23 = .ok (.bipush (-2), 2) := by decide +kernel
theorem dX7_surestOf_25 : decode cX7_surestOf 25 = .ok (.invokevirtual 84, 3) := by decide +kernel
theorem dX7_surestOf_28 : decode cX7_surestOf 28 = .ok (.ireturn, 1) := by decide +kernel
theorem dX7_surestOf_29 : decode cX7_surestOf 29 = .ok (.aload_n 0, 1) := by decide +kernel
theorem dX7_surestOf_30 : decode cX7_surestOf 30 = .ok (.getfield 61, 3) := by decide +kernel
theorem dX7_surestOf_33 : decode cX7_surestOf 33 = .ok (.aload_n 0, 1) := by decide +kernel
theorem dX7_surestOf_34 : decode cX7_surestOf 34 = .ok (.getfield 10, 3) := by decide +kernel
theorem dX7_surestOf_37 : decode cX7_surestOf 37 = .ok (.iload_n 1, 1) := by decide +kernel
theorem dX7_surestOf_38 : decode cX7_surestOf 38 = .ok (.iload_n 2, 1) := by decide +kernel
theorem dX7_surestOf_39 : decode cX7_surestOf 39 = .ok (.invokevirtual 246, 3) := by decide +kernel
theorem dX7_surestOf_42 : decode cX7_surestOf 42 = .ok (.aload_n 0, 1) := by decide +kernel
theorem dX7_surestOf_43 : decode cX7_surestOf 43 = .ok (.getfield 71, 3) := by decide +kernel
theorem dX7_surestOf_46 : decode cX7_surestOf 46 = .ok (.aload_n 0, 1) := by decide +kernel
theorem dX7_surestOf_47 : decode cX7_surestOf 47 = .ok (.getfield 10, 3) := by decide +kernel
theorem dX7_surestOf_50 : decode cX7_surestOf 50 = .ok (.aload_n 0, 1) := by decide +kernel
theorem dX7_surestOf_51 : decode cX7_surestOf 51 = .ok (.getfield 61, 3) := by decide +kernel
theorem dX7_surestOf_54 : decode cX7_surestOf 54 = .ok (.iload_n 3, 1) := by decide +kernel
theorem dX7_surestOf_55 : decode cX7_surestOf 55 = .ok (.iload 5, 2) := by decide +kernel
theorem dX7_surestOf_57 : decode cX7_surestOf 57 = .ok (.invokevirtual 292, 3) := by decide +kernel
theorem dX7_surestOf_60 : decode cX7_surestOf 60 = .ok (.ifCond .ne 10, 3) := by decide +kernel
theorem dX7_surestOf_63 : decode cX7_surestOf 63 = .ok (.aload_n 0, 1) := by decide +kernel
theorem dX7_surestOf_64 : decode cX7_surestOf 64 = .ok (.bipush (-5), 2) := by decide +kernel
theorem dX7_surestOf_66 : decode cX7_surestOf 66 = .ok (.invokevirtual 84, 3) := by decide +kernel
theorem dX7_surestOf_69 : decode cX7_surestOf 69 = .ok (.ireturn, 1) := by decide +kernel
theorem dX7_surestOf_70 : decode cX7_surestOf 70 = .ok (.iload 4, 2) := by decide +kernel
theorem dX7_surestOf_72 : decode cX7_surestOf 72 = .ok (.iconst (-1), 1) := by decide +kernel
theorem dX7_surestOf_73 : decode cX7_surestOf 73 = .ok (.if_icmp .ne 11, 3) := by decide +kernel
theorem dX7_surestOf_76 : decode cX7_surestOf 76 = .ok (.aload_n 0, 1) := by decide +kernel
theorem dX7_surestOf_77 : decode cX7_surestOf 77 = .ok (.getfield 71, 3) := by decide +kernel
theorem dX7_surestOf_80 : decode cX7_surestOf 80 = .ok (.getfield 296, 3) := by decide +kernel
theorem dX7_surestOf_83 : decode cX7_surestOf 83 = .ok (.ireturn, 1) := by decide +kernel
theorem dX7_surestOf_84 : decode cX7_surestOf 84 = .ok (.iload 4, 2) := by decide +kernel
theorem dX7_surestOf_86 : decode cX7_surestOf 86 = .ok (.aload_n 0, 1) := by decide +kernel
theorem dX7_surestOf_87 : decode cX7_surestOf 87 = .ok (.getfield 61, 3) := by decide +kernel
theorem dX7_surestOf_90 : decode cX7_surestOf 90 = .ok (.aload_n 0, 1) := by decide +kernel
theorem dX7_surestOf_91 : decode cX7_surestOf 91 = .ok (.getfield 71, 3) := by decide +kernel
theorem dX7_surestOf_94 : decode cX7_surestOf 94 = .ok (.getfield 335, 3) := by decide +kernel
theorem dX7_surestOf_97 : decode cX7_surestOf 97 = .ok (.invokevirtual 251, 3) := by decide +kernel
theorem dX7_surestOf_100 : decode cX7_surestOf 100 = .ok (.if_icmp .ge 22, 3) := by decide +kernel
theorem dX7_surestOf_103 : decode cX7_surestOf 103 = .ok (.aload_n 0, 1) := by decide +kernel
theorem dX7_surestOf_104 : decode cX7_surestOf 104 = .ok (.getfield 61, 3) := by decide +kernel
theorem dX7_surestOf_107 : decode cX7_surestOf 107 = .ok (.aload_n 0, 1) := by decide +kernel
theorem dX7_surestOf_108 : decode cX7_surestOf 108 = .ok (.getfield 71, 3) := by decide +kernel
theorem dX7_surestOf_111 : decode cX7_surestOf 111 = .ok (.getfield 335, 3) := by decide +kernel
theorem dX7_surestOf_114 : decode cX7_surestOf 114 = .ok (.iload 4, 2) := by decide +kernel
theorem dX7_surestOf_116 : decode cX7_surestOf 116 = .ok (.invokevirtual 385, 3) := by decide +kernel
theorem dX7_surestOf_119 : decode cX7_surestOf 119 = .ok (.goto 9, 3) := by decide +kernel
theorem dX7_surestOf_122 : decode cX7_surestOf 122 = .ok (.aload_n 0, 1) := by decide +kernel
theorem dX7_surestOf_123 : decode cX7_surestOf 123 = .ok (.bipush (-5), 2) := by decide +kernel
theorem dX7_surestOf_125 : decode cX7_surestOf 125 = .ok (.invokevirtual 84, 3) := by decide +kernel
theorem dX7_surestOf_128 : decode cX7_surestOf 128 = .ok (.ireturn, 1) := by decide +kernel
theorem dX7_chanceIn_0 : decode cX7_chanceIn 0 = .ok (.aload_n 0, 1) := by decide +kernel
theorem dX7_chanceIn_1 : decode cX7_chanceIn 1 = .ok (.getfield 61, 3) := by decide +kernel
theorem dX7_chanceIn_4 : decode cX7_chanceIn 4 = .ok (.aload_n 1, 1) := by decide +kernel
theorem dX7_chanceIn_5 : decode cX7_chanceIn 5 = .ok (.iload_n 2, 1) := by decide +kernel
theorem dX7_chanceIn_6 : decode cX7_chanceIn 6 = .ok (.iload_n 3, 1) := by decide +kernel
theorem dX7_chanceIn_7 : decode cX7_chanceIn 7 = .ok (.invokevirtual 246, 3) := by decide +kernel
theorem dX7_chanceIn_10 : decode cX7_chanceIn 10 = .ok (.aload_n 0, 1) := by decide +kernel
theorem dX7_chanceIn_11 : decode cX7_chanceIn 11 = .ok (.getfield 71, 3) := by decide +kernel
theorem dX7_chanceIn_14 : decode cX7_chanceIn 14 = .ok (.aload_n 1, 1) := by decide +kernel
theorem dX7_chanceIn_15 : decode cX7_chanceIn 15 = .ok (.aload_n 0, 1) := by decide +kernel
theorem dX7_chanceIn_16 : decode cX7_chanceIn 16 = .ok (.getfield 61, 3) := by decide +kernel
theorem dX7_chanceIn_19 : decode cX7_chanceIn 19 = .ok (.iload 4, 2) := by decide +kernel
theorem dX7_chanceIn_21 : decode cX7_chanceIn 21 = .ok (.iconst 0, 1) := by decide +kernel
theorem dX7_chanceIn_22 : decode cX7_chanceIn 22 = .ok (.invokevirtual 292, 3) := by decide +kernel
theorem dX7_chanceIn_25 : decode cX7_chanceIn 25 = .ok (.ifCond .eq 13, 3) := by decide +kernel
theorem dX7_chanceIn_28 : decode cX7_chanceIn 28 = .ok (.aload_n 0, 1) := by decide +kernel
theorem dX7_chanceIn_29 : decode cX7_chanceIn 29 = .ok (.getfield 71, 3) := by decide +kernel
theorem dX7_chanceIn_32 : decode cX7_chanceIn 32 = .ok (.getfield 296, 3) := by decide +kernel
theorem dX7_chanceIn_35 : decode cX7_chanceIn 35 = .ok (.goto 4, 3) := by decide +kernel
theorem dX7_chanceIn_38 : decode cX7_chanceIn 38 = .ok (.iconst (-1), 1) := by decide +kernel
theorem dX7_chanceIn_39 : decode cX7_chanceIn 39 = .ok (.ireturn, 1) := by decide +kernel
theorem dX7_both_0 : decode cX7_both 0 = .ok (.iload_n 0, 1) := by decide +kernel
theorem dX7_both_1 : decode cX7_both 1 = .ok (.i2l, 1) := by decide +kernel
theorem dX7_both_2 : decode cX7_both 2 = .ok (.iload_n 1, 1) := by decide +kernel
theorem dX7_both_3 : decode cX7_both 3 = .ok (.i2l, 1) := by decide +kernel
theorem dX7_both_4 : decode cX7_both 4 = .ok (.lmul, 1) := by decide +kernel
theorem dX7_both_5 : decode cX7_both 5 = .ok (.ldc2_w 388, 3) := by decide +kernel
theorem dX7_both_8 : decode cX7_both 8 = .ok (.ldiv, 1) := by decide +kernel
theorem dX7_both_9 : decode cX7_both 9 = .ok (.l2i, 1) := by decide +kernel
theorem dX7_both_10 : decode cX7_both 10 = .ok (.ireturn, 1) := by decide +kernel
theorem dX7_wrongIn_0 : decode cX7_wrongIn 0 = .ok (.iconst 0, 1) := by decide +kernel
theorem dX7_wrongIn_1 : decode cX7_wrongIn 1 = .ok (.istore_n 3, 1) := by decide +kernel
theorem dX7_wrongIn_2 : decode cX7_wrongIn 2 = .ok (.iconst (-1), 1) := by decide +kernel
theorem dX7_wrongIn_3 : decode cX7_wrongIn 3 = .ok (.istore 4, 2) := by decide +kernel
theorem dX7_wrongIn_5 : decode cX7_wrongIn 5 = .ok (.iconst 0, 1) := by decide +kernel
theorem dX7_wrongIn_6 : decode cX7_wrongIn 6 = .ok (.istore 5, 2) := by decide +kernel
theorem dX7_wrongIn_8 : decode cX7_wrongIn 8 = .ok (.iload 5, 2) := by decide +kernel
theorem dX7_wrongIn_10 : decode cX7_wrongIn 10 = .ok (.iload_n 2, 1) := by decide +kernel
theorem dX7_wrongIn_11 : decode cX7_wrongIn 11 = .ok (.if_icmp .ge 92, 3) := by decide +kernel
theorem dX7_wrongIn_14 : decode cX7_wrongIn 14 = .ok (.aload_n 1, 1) := by decide +kernel
theorem dX7_wrongIn_15 : decode cX7_wrongIn 15 = .ok (.iload 5, 2) := by decide +kernel
theorem dX7_wrongIn_17 : decode cX7_wrongIn 17 = .ok (.invokevirtual 128, 3) := by decide +kernel
theorem dX7_wrongIn_20 : decode cX7_wrongIn 20 = .ok (.lstore 6, 2) := by decide +kernel
theorem dX7_wrongIn_22 : decode cX7_wrongIn 22 = .ok (.lload 6, 2) := by decide +kernel
theorem dX7_wrongIn_24 : decode cX7_wrongIn 24 = .ok (.lconst 0, 1) := by decide +kernel
theorem dX7_wrongIn_25 : decode cX7_wrongIn 25 = .ok (.lcmp, 1) := by decide +kernel
theorem dX7_wrongIn_26 : decode cX7_wrongIn 26 = .ok (.ifCond .lt 17, 3) := by decide +kernel
theorem dX7_wrongIn_29 : decode cX7_wrongIn 29 = .ok (.lload 6, 2) := by decide +kernel
theorem dX7_wrongIn_31 : decode cX7_wrongIn 31 = .ok (.aload_n 0, 1) := by decide +kernel
theorem dX7_wrongIn_32 : decode cX7_wrongIn 32 = .ok (.getfield 10, 3) := by decide +kernel
theorem dX7_wrongIn_35 : decode cX7_wrongIn 35 = .ok (.getfield 161, 3) := by decide +kernel
theorem dX7_wrongIn_38 : decode cX7_wrongIn 38 = .ok (.i2l, 1) := by decide +kernel
theorem dX7_wrongIn_39 : decode cX7_wrongIn 39 = .ok (.lcmp, 1) := by decide +kernel
theorem dX7_wrongIn_40 : decode cX7_wrongIn 40 = .ok (.ifCond .lt 6, 3) := by decide +kernel
theorem dX7_wrongIn_43 : decode cX7_wrongIn 43 = .ok (.iload 5, 2) := by decide +kernel
theorem dX7_wrongIn_45 : decode cX7_wrongIn 45 = .ok (.ireturn, 1) := by decide +kernel
theorem dX7_wrongIn_46 : decode cX7_wrongIn 46 = .ok (.lload 6, 2) := by decide +kernel
theorem dX7_wrongIn_48 : decode cX7_wrongIn 48 = .ok (.l2i, 1) := by decide +kernel
theorem dX7_wrongIn_49 : decode cX7_wrongIn 49 = .ok (.istore 8, 2) := by decide +kernel
theorem dX7_wrongIn_51 : decode cX7_wrongIn 51 = .ok (.iload_n 3, 1) := by decide +kernel
theorem dX7_wrongIn_52 : decode cX7_wrongIn 52 = .ok (.iload 8, 2) := by decide +kernel
theorem dX7_wrongIn_54 : decode cX7_wrongIn 54 = .ok (.ishr, 1) := by decide +kernel
theorem dX7_wrongIn_55 : decode cX7_wrongIn 55 = .ok (.iconst 1, 1) := by decide +kernel
theorem dX7_wrongIn_56 : decode cX7_wrongIn 56 = .ok (.iand, 1) := by decide +kernel
theorem dX7_wrongIn_57 : decode cX7_wrongIn 57 = .ok (.ifCond .ne 26, 3) := by decide +kernel
theorem dX7_wrongIn_60 : decode cX7_wrongIn 60 = .ok (.iload 4, 2) := by decide +kernel
theorem dX7_wrongIn_62 : decode cX7_wrongIn 62 = .ok (.iconst (-1), 1) := by decide +kernel
theorem dX7_wrongIn_63 : decode cX7_wrongIn 63 = .ok (.if_icmp .eq 23, 3) := by decide +kernel
theorem dX7_wrongIn_66 : decode cX7_wrongIn 66 = .ok (.aload_n 0, 1) := by decide +kernel
theorem dX7_wrongIn_67 : decode cX7_wrongIn 67 = .ok (.getfield 10, 3) := by decide +kernel
theorem dX7_wrongIn_70 : decode cX7_wrongIn 70 = .ok (.iload 4, 2) := by decide +kernel
theorem dX7_wrongIn_72 : decode cX7_wrongIn 72 = .ok (.invokevirtual 230, 3) := by decide +kernel
theorem dX7_wrongIn_75 : decode cX7_wrongIn 75 = .ok (.iload 8, 2) := by decide +kernel
theorem dX7_wrongIn_77 : decode cX7_wrongIn 77 = .ok (.ishr, 1) := by decide +kernel
theorem dX7_wrongIn_78 : decode cX7_wrongIn 78 = .ok (.iconst 1, 1) := by decide +kernel
theorem dX7_wrongIn_79 : decode cX7_wrongIn 79 = .ok (.iand, 1) := by decide +kernel
theorem dX7_wrongIn_80 : decode cX7_wrongIn 80 = .ok (.ifCond .ne 6, 3) := by decide +kernel
theorem dX7_wrongIn_83 : decode cX7_wrongIn 83 = .ok (.iload 5, 2) := by decide +kernel
theorem dX7_wrongIn_85 : decode cX7_wrongIn 85 = .ok (.ireturn, 1) := by decide +kernel
theorem dX7_wrongIn_86 : decode cX7_wrongIn 86 = .ok (.iload_n 3, 1) := by decide +kernel
theorem dX7_wrongIn_87 : decode cX7_wrongIn 87 = .ok (.iconst 1, 1) := by decide +kernel
theorem dX7_wrongIn_88 : decode cX7_wrongIn 88 = .ok (.iload 8, 2) := by decide +kernel
theorem dX7_wrongIn_90 : decode cX7_wrongIn 90 = .ok (.ishl, 1) := by decide +kernel
theorem dX7_wrongIn_91 : decode cX7_wrongIn 91 = .ok (.ior, 1) := by decide +kernel
theorem dX7_wrongIn_92 : decode cX7_wrongIn 92 = .ok (.istore_n 3, 1) := by decide +kernel
theorem dX7_wrongIn_93 : decode cX7_wrongIn 93 = .ok (.iload 8, 2) := by decide +kernel
theorem dX7_wrongIn_95 : decode cX7_wrongIn 95 = .ok (.istore 4, 2) := by decide +kernel
theorem dX7_wrongIn_97 : decode cX7_wrongIn 97 = .ok (.iinc 5 1, 3) := by decide +kernel
theorem dX7_wrongIn_100 : decode cX7_wrongIn 100 = .ok (.goto (-92), 3) := by decide +kernel
theorem dX7_wrongIn_103 : decode cX7_wrongIn 103 = .ok (.iconst (-1), 1) := by decide +kernel
theorem dX7_wrongIn_104 : decode cX7_wrongIn 104 = .ok (.ireturn, 1) := by decide +kernel
theorem dX7_keyWouldDo_0 : decode cX7_keyWouldDo 0 = .ok (.iload_n 3, 1) := by decide +kernel
theorem dX7_keyWouldDo_1 : decode cX7_keyWouldDo 1 = .ok (.istore 4, 2) := by decide +kernel
theorem dX7_keyWouldDo_3 : decode cX7_keyWouldDo 3 = .ok (.iload 4, 2) := by decide +kernel
theorem dX7_keyWouldDo_5 : decode cX7_keyWouldDo 5 = .ok (.iload_n 2, 1) := by decide +kernel
theorem dX7_keyWouldDo_6 : decode cX7_keyWouldDo 6 = .ok (.if_icmp .ge 59, 3) := by decide +kernel
theorem dX7_keyWouldDo_9 : decode cX7_keyWouldDo 9 = .ok (.aload_n 1, 1) := by decide +kernel
theorem dX7_keyWouldDo_10 : decode cX7_keyWouldDo 10 = .ok (.iload 4, 2) := by decide +kernel
theorem dX7_keyWouldDo_12 : decode cX7_keyWouldDo 12 = .ok (.invokevirtual 128, 3) := by decide +kernel
theorem dX7_keyWouldDo_15 : decode cX7_keyWouldDo 15 = .ok (.aload_n 0, 1) := by decide +kernel
theorem dX7_keyWouldDo_16 : decode cX7_keyWouldDo 16 = .ok (.iload 4, 2) := by decide +kernel
theorem dX7_keyWouldDo_18 : decode cX7_keyWouldDo 18 = .ok (.invokevirtual 128, 3) := by decide +kernel
theorem dX7_keyWouldDo_21 : decode cX7_keyWouldDo 21 = .ok (.lsub, 1) := by decide +kernel
theorem dX7_keyWouldDo_22 : decode cX7_keyWouldDo 22 = .ok (.lstore 5, 2) := by decide +kernel
theorem dX7_keyWouldDo_24 : decode cX7_keyWouldDo 24 = .ok (.aload_n 1, 1) := by decide +kernel
theorem dX7_keyWouldDo_25 : decode cX7_keyWouldDo 25 = .ok (.iload 4, 2) := by decide +kernel
theorem dX7_keyWouldDo_27 : decode cX7_keyWouldDo 27 = .ok (.iload_n 3, 1) := by decide +kernel
theorem dX7_keyWouldDo_28 : decode cX7_keyWouldDo 28 = .ok (.isub, 1) := by decide +kernel
theorem dX7_keyWouldDo_29 : decode cX7_keyWouldDo 29 = .ok (.invokevirtual 128, 3) := by decide +kernel
theorem dX7_keyWouldDo_32 : decode cX7_keyWouldDo 32 = .ok (.aload_n 0, 1) := by decide +kernel
theorem dX7_keyWouldDo_33 : decode cX7_keyWouldDo 33 = .ok (.iload 4, 2) := by decide +kernel
theorem dX7_keyWouldDo_35 : decode cX7_keyWouldDo 35 = .ok (.iload_n 3, 1) := by decide +kernel
theorem dX7_keyWouldDo_36 : decode cX7_keyWouldDo 36 = .ok (.isub, 1) := by decide +kernel
theorem dX7_keyWouldDo_37 : decode cX7_keyWouldDo 37 = .ok (.invokevirtual 128, 3) := by decide +kernel
theorem dX7_keyWouldDo_40 : decode cX7_keyWouldDo 40 = .ok (.lsub, 1) := by decide +kernel
theorem dX7_keyWouldDo_41 : decode cX7_keyWouldDo 41 = .ok (.lstore 7, 2) := by decide +kernel
theorem dX7_keyWouldDo_43 : decode cX7_keyWouldDo 43 = .ok (.lload 5, 2) := by decide +kernel
theorem dX7_keyWouldDo_45 : decode cX7_keyWouldDo 45 = .ok (.lload 7, 2) := by decide +kernel
theorem dX7_keyWouldDo_47 : decode cX7_keyWouldDo 47 = .ok (.lsub, 1) := by decide +kernel
theorem dX7_keyWouldDo_48 : decode cX7_keyWouldDo 48 = .ok (.ldc2_w 326, 3) := by decide +kernel
theorem dX7_keyWouldDo_51 : decode cX7_keyWouldDo 51 = .ok (.lrem, 1) := by decide +kernel
theorem dX7_keyWouldDo_52 : decode cX7_keyWouldDo 52 = .ok (.lconst 0, 1) := by decide +kernel
theorem dX7_keyWouldDo_53 : decode cX7_keyWouldDo 53 = .ok (.lcmp, 1) := by decide +kernel
theorem dX7_keyWouldDo_54 : decode cX7_keyWouldDo 54 = .ok (.ifCond .eq 5, 3) := by decide +kernel
theorem dX7_keyWouldDo_57 : decode cX7_keyWouldDo 57 = .ok (.iconst 0, 1) := by decide +kernel
theorem dX7_keyWouldDo_58 : decode cX7_keyWouldDo 58 = .ok (.ireturn, 1) := by decide +kernel
theorem dX7_keyWouldDo_59 : decode cX7_keyWouldDo 59 = .ok (.iinc 4 1, 3) := by decide +kernel
theorem dX7_keyWouldDo_62 : decode cX7_keyWouldDo 62 = .ok (.goto (-59), 3) := by decide +kernel
theorem dX7_keyWouldDo_65 : decode cX7_keyWouldDo 65 = .ok (.iconst 1, 1) := by decide +kernel
theorem dX7_keyWouldDo_66 : decode cX7_keyWouldDo 66 = .ok (.ireturn, 1) := by decide +kernel
