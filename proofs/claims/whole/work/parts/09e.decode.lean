theorem dX7_ends_85 : decode cX7_ends 85 = .ok (.aload_n 0, 1) := by decide +kernel
theorem dX7_ends_86 : decode cX7_ends 86 = .ok (.getfield 189, 3) := by decide +kernel
theorem dX7_ends_89 : decode cX7_ends 89 = .ok (.iastore, 1) := by decide +kernel
theorem dX7_ends_90 : decode cX7_ends 90 = .ok (.aload_n 0, 1) := by decide +kernel
theorem dX7_ends_91 : decode cX7_ends 91 = .ok (.getfield 34, 3) := by decide +kernel
theorem dX7_ends_94 : decode cX7_ends 94 = .ok (.iload_n 2, 1) := by decide +kernel
theorem dX7_ends_95 : decode cX7_ends 95 = .ok (.aload_n 0, 1) := by decide +kernel
theorem dX7_ends_96 : decode cX7_ends 96 = .ok (.getfield 159, 3) := by decide +kernel
theorem dX7_ends_99 : decode cX7_ends 99 = .ok (.iastore, 1) := by decide +kernel
theorem dX7_ends_100 : decode cX7_ends 100 = .ok (.iconst 0, 1) := by decide +kernel
theorem dX7_ends_101 : decode cX7_ends 101 = .ok (.istore_n 3, 1) := by decide +kernel
theorem dX7_ends_102 : decode cX7_ends 102 = .ok (.iload_n 3, 1) := by decide +kernel
theorem dX7_ends_103 : decode cX7_ends 103 = .ok (.aload_n 0, 1) := by decide +kernel
theorem dX7_ends_104 : decode cX7_ends 104 = .ok (.getfield 159, 3) := by decide +kernel
theorem dX7_ends_107 : decode cX7_ends 107 = .ok (.if_icmp .ge 60, 3) := by decide +kernel
theorem dX7_ends_110 : decode cX7_ends 110 = .ok (.aload_n 0, 1) := by decide +kernel
theorem dX7_ends_111 : decode cX7_ends 111 = .ok (.getfield 37, 3) := by decide +kernel
theorem dX7_ends_114 : decode cX7_ends 114 = .ok (.bipush 30, 2) := by decide +kernel
theorem dX7_ends_116 : decode cX7_ends 116 = .ok (.iload_n 2, 1) := by decide +kernel
theorem dX7_ends_117 : decode cX7_ends 117 = .ok (.imul, 1) := by decide +kernel
theorem dX7_ends_118 : decode cX7_ends 118 = .ok (.iload_n 3, 1) := by decide +kernel
theorem dX7_ends_119 : decode cX7_ends 119 = .ok (.iadd, 1) := by decide +kernel
theorem dX7_ends_120 : decode cX7_ends 120 = .ok (.aload_n 0, 1) := by decide +kernel
theorem dX7_ends_121 : decode cX7_ends 121 = .ok (.getfield 68, 3) := by decide +kernel
theorem dX7_ends_124 : decode cX7_ends 124 = .ok (.iload_n 3, 1) := by decide +kernel
theorem dX7_ends_125 : decode cX7_ends 125 = .ok (.iaload, 1) := by decide +kernel
theorem dX7_ends_126 : decode cX7_ends 126 = .ok (.iastore, 1) := by decide +kernel
theorem dX7_ends_127 : decode cX7_ends 127 = .ok (.aload_n 0, 1) := by decide +kernel
theorem dX7_ends_128 : decode cX7_ends 128 = .ok (.getfield 40, 3) := by decide +kernel
theorem dX7_ends_131 : decode cX7_ends 131 = .ok (.bipush 30, 2) := by decide +kernel
theorem dX7_ends_133 : decode cX7_ends 133 = .ok (.iload_n 2, 1) := by decide +kernel
theorem dX7_ends_134 : decode cX7_ends 134 = .ok (.imul, 1) := by decide +kernel
theorem dX7_ends_135 : decode cX7_ends 135 = .ok (.iload_n 3, 1) := by decide +kernel
theorem dX7_ends_136 : decode cX7_ends 136 = .ok (.iadd, 1) := by decide +kernel
theorem dX7_ends_137 : decode cX7_ends 137 = .ok (.aload_n 0, 1) := by decide +kernel
theorem dX7_ends_138 : decode cX7_ends 138 = .ok (.getfield 71, 3) := by decide +kernel
theorem dX7_ends_141 : decode cX7_ends 141 = .ok (.iload_n 3, 1) := by decide +kernel
theorem dX7_ends_142 : decode cX7_ends 142 = .ok (.iaload, 1) := by decide +kernel
theorem dX7_ends_143 : decode cX7_ends 143 = .ok (.iastore, 1) := by decide +kernel
theorem dX7_ends_144 : decode cX7_ends 144 = .ok (.aload_n 0, 1) := by decide +kernel
theorem dX7_ends_145 : decode cX7_ends 145 = .ok (.getfield 43, 3) := by decide +kernel
theorem dX7_ends_148 : decode cX7_ends 148 = .ok (.bipush 30, 2) := by decide +kernel
theorem dX7_ends_150 : decode cX7_ends 150 = .ok (.iload_n 2, 1) := by decide +kernel
theorem dX7_ends_151 : decode cX7_ends 151 = .ok (.imul, 1) := by decide +kernel
theorem dX7_ends_152 : decode cX7_ends 152 = .ok (.iload_n 3, 1) := by decide +kernel
theorem dX7_ends_153 : decode cX7_ends 153 = .ok (.iadd, 1) := by decide +kernel
theorem dX7_ends_154 : decode cX7_ends 154 = .ok (.aload_n 0, 1) := by decide +kernel
theorem dX7_ends_155 : decode cX7_ends 155 = .ok (.getfield 74, 3) := by decide +kernel
theorem dX7_ends_158 : decode cX7_ends 158 = .ok (.iload_n 3, 1) := by decide +kernel
theorem dX7_ends_159 : decode cX7_ends 159 = .ok (.iaload, 1) := by decide +kernel
theorem dX7_ends_160 : decode cX7_ends 160 = .ok (.iastore, 1) := by decide +kernel
theorem dX7_ends_161 : decode cX7_ends 161 = .ok (.iinc 3 1, 3) := by decide +kernel
theorem dX7_ends_164 : decode cX7_ends 164 = .ok (.goto (-62), 3) := by decide +kernel
theorem dX7_ends_167 : decode cX7_ends 167 = .ok (.iconst 0, 1) := by decide +kernel
theorem dX7_ends_168 : decode cX7_ends 168 = .ok (.istore_n 3, 1) := by decide +kernel
theorem dX7_ends_169 : decode cX7_ends 169 = .ok (.iload_n 3, 1) := by decide +kernel
theorem dX7_ends_170 : decode cX7_ends 170 = .ok (.aload_n 0, 1) := by decide +kernel
theorem dX7_ends_171 : decode cX7_ends 171 = .ok (.getfield 189, 3) := by decide +kernel
theorem dX7_ends_174 : decode cX7_ends 174 = .ok (.if_icmp .ge 23, 3) := by decide +kernel
theorem dX7_ends_177 : decode cX7_ends 177 = .ok (.aload_n 0, 1) := by decide +kernel
theorem dX7_ends_178 : decode cX7_ends 178 = .ok (.getfield 46, 3) := by decide +kernel
theorem dX7_ends_181 : decode cX7_ends 181 = .ok (.iload_n 1, 1) := by decide +kernel
theorem dX7_ends_182 : decode cX7_ends 182 = .ok (.iload_n 3, 1) := by decide +kernel
theorem dX7_ends_183 : decode cX7_ends 183 = .ok (.iadd, 1) := by decide +kernel
theorem dX7_ends_184 : decode cX7_ends 184 = .ok (.aload_n 0, 1) := by decide +kernel
theorem dX7_ends_185 : decode cX7_ends 185 = .ok (.getfield 77, 3) := by decide +kernel
theorem dX7_ends_188 : decode cX7_ends 188 = .ok (.iload_n 3, 1) := by decide +kernel
theorem dX7_ends_189 : decode cX7_ends 189 = .ok (.iaload, 1) := by decide +kernel
theorem dX7_ends_190 : decode cX7_ends 190 = .ok (.iastore, 1) := by decide +kernel
theorem dX7_ends_191 : decode cX7_ends 191 = .ok (.iinc 3 1, 3) := by decide +kernel
theorem dX7_ends_194 : decode cX7_ends 194 = .ok (.goto (-25), 3) := by decide +kernel
theorem dX7_ends_197 : decode cX7_ends 197 = .ok (.aload_n 0, 1) := by decide +kernel
theorem dX7_ends_198 : decode cX7_ends 198 = .ok (.getfield 61, 3) := by decide +kernel
theorem dX7_ends_201 : decode cX7_ends 201 = .ok (.iload_n 2, 1) := by decide +kernel
theorem dX7_ends_202 : decode cX7_ends 202 = .ok (.iconst 0, 1) := by decide +kernel
theorem dX7_ends_203 : decode cX7_ends 203 = .ok (.bastore, 1) := by decide +kernel
theorem dX7_ends_204 : decode cX7_ends 204 = .ok (.aload_n 0, 1) := by decide +kernel
theorem dX7_ends_205 : decode cX7_ends 205 = .ok (.iconst 0, 1) := by decide +kernel
theorem dX7_ends_206 : decode cX7_ends 206 = .ok (.putfield 159, 3) := by decide +kernel
theorem dX7_ends_209 : decode cX7_ends 209 = .ok (.aload_n 0, 1) := by decide +kernel
theorem dX7_ends_210 : decode cX7_ends 210 = .ok (.dup, 1) := by decide +kernel
theorem dX7_ends_211 : decode cX7_ends 211 = .ok (.getfield 156, 3) := by decide +kernel
theorem dX7_ends_214 : decode cX7_ends 214 = .ok (.iconst 1, 1) := by decide +kernel
theorem dX7_ends_215 : decode cX7_ends 215 = .ok (.iadd, 1) := by decide +kernel
theorem dX7_ends_216 : decode cX7_ends 216 = .ok (.putfield 156, 3) := by decide +kernel
theorem dX7_ends_219 : decode cX7_ends 219 = .ok (.iconst 1, 1) := by decide +kernel
theorem dX7_ends_220 : decode cX7_ends 220 = .ok (.ireturn, 1) := by decide +kernel
theorem dX7_giveUp_0 : decode cX7_giveUp 0 = .ok (.aload_n 0, 1) := by decide +kernel
theorem dX7_giveUp_1 : decode cX7_giveUp 1 = .ok (.getfield 143, 3) := by decide +kernel
theorem dX7_giveUp_4 : decode cX7_giveUp 4 = .ok (.ifCond .ne 5, 3) := by decide +kernel
theorem dX7_giveUp_7 : decode cX7_giveUp 7 = .ok (.iconst 0, 1) := by decide +kernel
theorem dX7_giveUp_8 : decode cX7_giveUp 8 = .ok (.ireturn, 1) := by decide +kernel
theorem dX7_giveUp_9 : decode cX7_giveUp 9 = .ok (.aload_n 0, 1) := by decide +kernel
theorem dX7_giveUp_10 : decode cX7_giveUp 10 = .ok (.getfield 156, 3) := by decide +kernel
theorem dX7_giveUp_13 : decode cX7_giveUp 13 = .ok (.istore_n 1, 1) := by decide +kernel
theorem dX7_giveUp_14 : decode cX7_giveUp 14 = .ok (.iconst 0, 1) := by decide +kernel
theorem dX7_giveUp_15 : decode cX7_giveUp 15 = .ok (.istore_n 2, 1) := by decide +kernel
theorem dX7_giveUp_16 : decode cX7_giveUp 16 = .ok (.iload_n 2, 1) := by decide +kernel
theorem dX7_giveUp_17 : decode cX7_giveUp 17 = .ok (.sipush 330, 3) := by decide +kernel
theorem dX7_giveUp_20 : decode cX7_giveUp 20 = .ok (.if_icmp .ge 37, 3) := by decide +kernel
theorem dX7_giveUp_23 : decode cX7_giveUp 23 = .ok (.aload_n 0, 1) := by decide +kernel
theorem dX7_giveUp_24 : decode cX7_giveUp 24 = .ok (.getfield 22, 3) := by decide +kernel
theorem dX7_giveUp_27 : decode cX7_giveUp 27 = .ok (.iload_n 2, 1) := by decide +kernel
theorem dX7_giveUp_28 : decode cX7_giveUp 28 = .ok (.iaload, 1) := by decide +kernel
theorem dX7_giveUp_29 : decode cX7_giveUp 29 = .ok (.bipush 9, 2) := by decide +kernel
theorem dX7_giveUp_31 : decode cX7_giveUp 31 = .ok (.if_icmp .ne 20, 3) := by decide +kernel
theorem dX7_giveUp_34 : decode cX7_giveUp 34 = .ok (.aload_n 0, 1) := by decide +kernel
theorem dX7_giveUp_35 : decode cX7_giveUp 35 = .ok (.getfield 22, 3) := by decide +kernel
theorem dX7_giveUp_38 : decode cX7_giveUp 38 = .ok (.iload_n 2, 1) := by decide +kernel
theorem dX7_giveUp_39 : decode cX7_giveUp 39 = .ok (.iconst (-1), 1) := by decide +kernel
theorem dX7_giveUp_40 : decode cX7_giveUp 40 = .ok (.iastore, 1) := by decide +kernel
theorem dX7_giveUp_41 : decode cX7_giveUp 41 = .ok (.aload_n 0, 1) := by decide +kernel
theorem dX7_giveUp_42 : decode cX7_giveUp 42 = .ok (.dup, 1) := by decide +kernel
theorem dX7_giveUp_43 : decode cX7_giveUp 43 = .ok (.getfield 201, 3) := by decide +kernel
theorem dX7_giveUp_46 : decode cX7_giveUp 46 = .ok (.iconst 1, 1) := by decide +kernel
theorem dX7_giveUp_47 : decode cX7_giveUp 47 = .ok (.isub, 1) := by decide +kernel
theorem dX7_giveUp_48 : decode cX7_giveUp 48 = .ok (.putfield 201, 3) := by decide +kernel
theorem dX7_giveUp_51 : decode cX7_giveUp 51 = .ok (.iinc 2 1, 3) := by decide +kernel
theorem dX7_giveUp_54 : decode cX7_giveUp 54 = .ok (.goto (-38), 3) := by decide +kernel
theorem dX7_giveUp_57 : decode cX7_giveUp 57 = .ok (.aload_n 0, 1) := by decide +kernel
theorem dX7_giveUp_58 : decode cX7_giveUp 58 = .ok (.iconst 0, 1) := by decide +kernel
theorem dX7_giveUp_59 : decode cX7_giveUp 59 = .ok (.putfield 143, 3) := by decide +kernel
theorem dX7_giveUp_62 : decode cX7_giveUp 62 = .ok (.aload_n 0, 1) := by decide +kernel
theorem dX7_giveUp_63 : decode cX7_giveUp 63 = .ok (.iconst 0, 1) := by decide +kernel
theorem dX7_giveUp_64 : decode cX7_giveUp 64 = .ok (.putfield 156, 3) := by decide +kernel
theorem dX7_giveUp_67 : decode cX7_giveUp 67 = .ok (.iload_n 1, 1) := by decide +kernel
theorem dX7_giveUp_68 : decode cX7_giveUp 68 = .ok (.ireturn, 1) := by decide +kernel
theorem dX7_does_0 : decode cX7_does 0 = .ok (.aload_n 0, 1) := by decide +kernel
theorem dX7_does_1 : decode cX7_does 1 = .ok (.iload_n 1, 1) := by decide +kernel
theorem dX7_does_2 : decode cX7_does 2 = .ok (.invokevirtual 204, 3) := by decide +kernel
theorem dX7_does_5 : decode cX7_does 5 = .ok (.ifCond .eq 5, 3) := by decide +kernel
theorem dX7_does_8 : decode cX7_does 8 = .ok (.iconst 1, 1) := by decide +kernel
theorem dX7_does_9 : decode cX7_does 9 = .ok (.ireturn, 1) := by decide +kernel
theorem dX7_does_10 : decode cX7_does 10 = .ok (.aload_n 0, 1) := by decide +kernel
theorem dX7_does_11 : decode cX7_does 11 = .ok (.getfield 150, 3) := by decide +kernel
theorem dX7_does_14 : decode cX7_does 14 = .ok (.ifCond .lt 41, 3) := by decide +kernel
theorem dX7_does_17 : decode cX7_does 17 = .ok (.aload_n 0, 1) := by decide +kernel
theorem dX7_does_18 : decode cX7_does 18 = .ok (.getfield 159, 3) := by decide +kernel
theorem dX7_does_21 : decode cX7_does 21 = .ok (.bipush 8, 2) := by decide +kernel
theorem dX7_does_23 : decode cX7_does 23 = .ok (.if_icmp .lt 32, 3) := by decide +kernel
theorem dX7_does_26 : decode cX7_does 26 = .ok (.aload_n 0, 1) := by decide +kernel
theorem dX7_does_27 : decode cX7_does 27 = .ok (.getfield 68, 3) := by decide +kernel
theorem dX7_does_30 : decode cX7_does 30 = .ok (.aload_n 0, 1) := by decide +kernel
theorem dX7_does_31 : decode cX7_does 31 = .ok (.getfield 159, 3) := by decide +kernel
theorem dX7_does_34 : decode cX7_does 34 = .ok (.iconst 1, 1) := by decide +kernel
theorem dX7_does_35 : decode cX7_does 35 = .ok (.isub, 1) := by decide +kernel
theorem dX7_does_36 : decode cX7_does 36 = .ok (.iaload, 1) := by decide +kernel
theorem dX7_does_37 : decode cX7_does 37 = .ok (.aload_n 0, 1) := by decide +kernel
theorem dX7_does_38 : decode cX7_does 38 = .ok (.getfield 52, 3) := by decide +kernel
theorem dX7_does_41 : decode cX7_does 41 = .ok (.iload_n 1, 1) := by decide +kernel
theorem dX7_does_42 : decode cX7_does 42 = .ok (.iaload, 1) := by decide +kernel
theorem dX7_does_43 : decode cX7_does 43 = .ok (.if_icmp .eq 12, 3) := by decide +kernel
theorem dX7_does_46 : decode cX7_does 46 = .ok (.aload_n 0, 1) := by decide +kernel
theorem dX7_does_47 : decode cX7_does 47 = .ok (.invokevirtual 207, 3) := by decide +kernel
theorem dX7_does_50 : decode cX7_does 50 = .ok (.ifCond .ne 5, 3) := by decide +kernel
theorem dX7_does_53 : decode cX7_does 53 = .ok (.iconst 0, 1) := by decide +kernel
theorem dX7_does_54 : decode cX7_does 54 = .ok (.ireturn, 1) := by decide +kernel
theorem dX7_does_55 : decode cX7_does 55 = .ok (.aload_n 0, 1) := by decide +kernel
theorem dX7_does_56 : decode cX7_does 56 = .ok (.getfield 68, 3) := by decide +kernel
theorem dX7_does_59 : decode cX7_does 59 = .ok (.aload_n 0, 1) := by decide +kernel
theorem dX7_does_60 : decode cX7_does 60 = .ok (.getfield 159, 3) := by decide +kernel
theorem dX7_does_63 : decode cX7_does 63 = .ok (.aload_n 0, 1) := by decide +kernel
theorem dX7_does_64 : decode cX7_does 64 = .ok (.getfield 52, 3) := by decide +kernel
theorem dX7_does_67 : decode cX7_does 67 = .ok (.iload_n 1, 1) := by decide +kernel
theorem dX7_does_68 : decode cX7_does 68 = .ok (.iaload, 1) := by decide +kernel
theorem dX7_does_69 : decode cX7_does 69 = .ok (.iastore, 1) := by decide +kernel
theorem dX7_does_70 : decode cX7_does 70 = .ok (.aload_n 0, 1) := by decide +kernel
theorem dX7_does_71 : decode cX7_does 71 = .ok (.getfield 71, 3) := by decide +kernel
theorem dX7_does_74 : decode cX7_does 74 = .ok (.aload_n 0, 1) := by decide +kernel
theorem dX7_does_75 : decode cX7_does 75 = .ok (.getfield 159, 3) := by decide +kernel
theorem dX7_does_78 : decode cX7_does 78 = .ok (.aload_n 0, 1) := by decide +kernel
theorem dX7_does_79 : decode cX7_does 79 = .ok (.getfield 55, 3) := by decide +kernel
theorem dX7_does_82 : decode cX7_does 82 = .ok (.iload_n 1, 1) := by decide +kernel
theorem dX7_does_83 : decode cX7_does 83 = .ok (.iaload, 1) := by decide +kernel
theorem dX7_does_84 : decode cX7_does 84 = .ok (.iastore, 1) := by decide +kernel
theorem dX7_does_85 : decode cX7_does 85 = .ok (.aload_n 0, 1) := by decide +kernel
theorem dX7_does_86 : decode cX7_does 86 = .ok (.getfield 74, 3) := by decide +kernel
theorem dX7_does_89 : decode cX7_does 89 = .ok (.aload_n 0, 1) := by decide +kernel
theorem dX7_does_90 : decode cX7_does 90 = .ok (.getfield 159, 3) := by decide +kernel
theorem dX7_does_93 : decode cX7_does 93 = .ok (.aload_n 0, 1) := by decide +kernel
theorem dX7_does_94 : decode cX7_does 94 = .ok (.getfield 58, 3) := by decide +kernel
theorem dX7_does_97 : decode cX7_does 97 = .ok (.iload_n 1, 1) := by decide +kernel
theorem dX7_does_98 : decode cX7_does 98 = .ok (.iaload, 1) := by decide +kernel
theorem dX7_does_99 : decode cX7_does 99 = .ok (.iastore, 1) := by decide +kernel
theorem dX7_does_100 : decode cX7_does 100 = .ok (.aload_n 0, 1) := by decide +kernel
theorem dX7_does_101 : decode cX7_does 101 = .ok (.dup, 1) := by decide +kernel
theorem dX7_does_102 : decode cX7_does 102 = .ok (.getfield 159, 3) := by decide +kernel
theorem dX7_does_105 : decode cX7_does 105 = .ok (.iconst 1, 1) := by decide +kernel
theorem dX7_does_106 : decode cX7_does 106 = .ok (.iadd, 1) := by decide +kernel
theorem dX7_does_107 : decode cX7_does 107 = .ok (.putfield 159, 3) := by decide +kernel
theorem dX7_does_110 : decode cX7_does 110 = .ok (.iconst 1, 1) := by decide +kernel
theorem dX7_does_111 : decode cX7_does 111 = .ok (.ireturn, 1) := by decide +kernel
theorem dX7_work_0 : decode cX7_work 0 = .ok (.aload_n 0, 1) := by decide +kernel
theorem dX7_work_1 : decode cX7_work 1 = .ok (.iconst 0, 1) := by decide +kernel
theorem dX7_work_2 : decode cX7_work 2 = .ok (.putfield 89, 3) := by decide +kernel
theorem dX7_work_5 : decode cX7_work 5 = .ok (.iload_n 1, 1) := by decide +kernel
theorem dX7_work_6 : decode cX7_work 6 = .ok (.i2l, 1) := by decide +kernel
theorem dX7_work_7 : decode cX7_work 7 = .ok (.lconst 1, 1) := by decide +kernel
theorem dX7_work_8 : decode cX7_work 8 = .ok (.ldc2_w 211, 3) := by decide +kernel
theorem dX7_work_11 : decode cX7_work 11 = .ok (.invokestatic 103, 3) := by decide +kernel
theorem dX7_work_14 : decode cX7_work 14 = .ok (.ifCond .ne 6, 3) := by decide +kernel
theorem dX7_work_17 : decode cX7_work 17 = .ok (.ldc 111, 2) := by decide +kernel
theorem dX7_work_19 : decode cX7_work 19 = .ok (.ireturn, 1) := by decide +kernel
theorem dX7_work_20 : decode cX7_work 20 = .ok (.aload_n 0, 1) := by decide +kernel
theorem dX7_work_21 : decode cX7_work 21 = .ok (.getfield 143, 3) := by decide +kernel
theorem dX7_work_24 : decode cX7_work 24 = .ok (.ifCond .eq 10, 3) := by decide +kernel
theorem dX7_work_27 : decode cX7_work 27 = .ok (.aload_n 0, 1) := by decide +kernel
theorem dX7_work_28 : decode cX7_work 28 = .ok (.getfield 147, 3) := by decide +kernel
theorem dX7_work_31 : decode cX7_work 31 = .ok (.ifCond .eq 6, 3) := by decide +kernel
theorem dX7_work_34 : decode cX7_work 34 = .ok (.ldc 136, 2) := by decide +kernel
theorem dX7_work_36 : decode cX7_work 36 = .ok (.ireturn, 1) := by decide +kernel
theorem dX7_work_37 : decode cX7_work 37 = .ok (.iconst 1, 1) := by decide +kernel
theorem dX7_work_38 : decode cX7_work 38 = .ok (.istore_n 2, 1) := by decide +kernel
theorem dX7_work_39 : decode cX7_work 39 = .ok (.iconst 0, 1) := by decide +kernel
theorem dX7_work_40 : decode cX7_work 40 = .ok (.istore_n 3, 1) := by decide +kernel
theorem dX7_work_41 : decode cX7_work 41 = .ok (.iload_n 3, 1) := by decide +kernel
theorem dX7_work_42 : decode cX7_work 42 = .ok (.iload_n 1, 1) := by decide +kernel
theorem dX7_work_43 : decode cX7_work 43 = .ok (.if_icmp .ge 43, 3) := by decide +kernel
theorem dX7_work_46 : decode cX7_work 46 = .ok (.aload_n 0, 1) := by decide +kernel
theorem dX7_work_47 : decode cX7_work 47 = .ok (.getfield 153, 3) := by decide +kernel
theorem dX7_work_50 : decode cX7_work 50 = .ok (.aload_n 0, 1) := by decide +kernel
theorem dX7_work_51 : decode cX7_work 51 = .ok (.getfield 140, 3) := by decide +kernel
theorem dX7_work_54 : decode cX7_work 54 = .ok (.if_icmp .ge 32, 3) := by decide +kernel
theorem dX7_work_57 : decode cX7_work 57 = .ok (.iload_n 2, 1) := by decide +kernel
theorem dX7_work_58 : decode cX7_work 58 = .ok (.ifCond .eq 28, 3) := by decide +kernel
theorem dX7_work_61 : decode cX7_work 61 = .ok (.aload_n 0, 1) := by decide +kernel
theorem dX7_work_62 : decode cX7_work 62 = .ok (.aload_n 0, 1) := by decide +kernel
theorem dX7_work_63 : decode cX7_work 63 = .ok (.getfield 153, 3) := by decide +kernel
theorem dX7_work_66 : decode cX7_work 66 = .ok (.invokevirtual 213, 3) := by decide +kernel
theorem dX7_work_69 : decode cX7_work 69 = .ok (.istore_n 2, 1) := by decide +kernel
theorem dX7_work_70 : decode cX7_work 70 = .ok (.aload_n 0, 1) := by decide +kernel
theorem dX7_work_71 : decode cX7_work 71 = .ok (.dup, 1) := by decide +kernel
theorem dX7_work_72 : decode cX7_work 72 = .ok (.getfield 153, 3) := by decide +kernel
theorem dX7_work_75 : decode cX7_work 75 = .ok (.iconst 1, 1) := by decide +kernel
theorem dX7_work_76 : decode cX7_work 76 = .ok (.iadd, 1) := by decide +kernel
theorem dX7_work_77 : decode cX7_work 77 = .ok (.putfield 153, 3) := by decide +kernel
theorem dX7_work_80 : decode cX7_work 80 = .ok (.iinc 3 1, 3) := by decide +kernel
theorem dX7_work_83 : decode cX7_work 83 = .ok (.goto (-42), 3) := by decide +kernel
theorem dX7_work_86 : decode cX7_work 86 = .ok (.iload_n 2, 1) := by decide +kernel
theorem dX7_work_87 : decode cX7_work 87 = .ok (.ifCond .eq 24, 3) := by decide +kernel
theorem dX7_work_90 : decode cX7_work 90 = .ok (.aload_n 0, 1) := by decide +kernel
theorem dX7_work_91 : decode cX7_work 91 = .ok (.getfield 153, 3) := by decide +kernel
theorem dX7_work_94 : decode cX7_work 94 = .ok (.aload_n 0, 1) := by decide +kernel
theorem dX7_work_95 : decode cX7_work 95 = .ok (.getfield 140, 3) := by decide +kernel
theorem dX7_work_98 : decode cX7_work 98 = .ok (.if_icmp .ne 13, 3) := by decide +kernel
theorem dX7_work_101 : decode cX7_work 101 = .ok (.aload_n 0, 1) := by decide +kernel
theorem dX7_work_102 : decode cX7_work 102 = .ok (.invokevirtual 207, 3) := by decide +kernel
theorem dX7_work_105 : decode cX7_work 105 = .ok (.istore_n 2, 1) := by decide +kernel
theorem dX7_work_106 : decode cX7_work 106 = .ok (.aload_n 0, 1) := by decide +kernel
theorem dX7_work_107 : decode cX7_work 107 = .ok (.iconst 1, 1) := by decide +kernel
theorem dX7_work_108 : decode cX7_work 108 = .ok (.putfield 147, 3) := by decide +kernel
theorem dX7_work_111 : decode cX7_work 111 = .ok (.iload_n 2, 1) := by decide +kernel
theorem dX7_work_112 : decode cX7_work 112 = .ok (.ifCond .ne 11, 3) := by decide +kernel
theorem dX7_work_115 : decode cX7_work 115 = .ok (.aload_n 0, 1) := by decide +kernel
theorem dX7_work_116 : decode cX7_work 116 = .ok (.invokevirtual 120, 3) := by decide +kernel
theorem dX7_work_119 : decode cX7_work 119 = .ok (.istore_n 3, 1) := by decide +kernel
theorem dX7_work_120 : decode cX7_work 120 = .ok (.ldc 100, 2) := by decide +kernel
theorem dX7_work_122 : decode cX7_work 122 = .ok (.ireturn, 1) := by decide +kernel
theorem dX7_work_123 : decode cX7_work 123 = .ok (.aload_n 0, 1) := by decide +kernel
theorem dX7_work_124 : decode cX7_work 124 = .ok (.getfield 140, 3) := by decide +kernel
theorem dX7_work_127 : decode cX7_work 127 = .ok (.aload_n 0, 1) := by decide +kernel
theorem dX7_work_128 : decode cX7_work 128 = .ok (.getfield 153, 3) := by decide +kernel
theorem dX7_work_131 : decode cX7_work 131 = .ok (.isub, 1) := by decide +kernel
theorem dX7_work_132 : decode cX7_work 132 = .ok (.ireturn, 1) := by decide +kernel
theorem dX7_install_0 : decode cX7_install 0 = .ok (.aload_n 0, 1) := by decide +kernel
theorem dX7_install_1 : decode cX7_install 1 = .ok (.iconst 0, 1) := by decide +kernel
theorem dX7_install_2 : decode cX7_install 2 = .ok (.putfield 89, 3) := by decide +kernel
theorem dX7_install_5 : decode cX7_install 5 = .ok (.aload_n 0, 1) := by decide +kernel
theorem dX7_install_6 : decode cX7_install 6 = .ok (.getfield 143, 3) := by decide +kernel
theorem dX7_install_9 : decode cX7_install 9 = .ok (.ifCond .eq 10, 3) := by decide +kernel
theorem dX7_install_12 : decode cX7_install 12 = .ok (.aload_n 0, 1) := by decide +kernel
theorem dX7_install_13 : decode cX7_install 13 = .ok (.getfield 147, 3) := by decide +kernel
theorem dX7_install_16 : decode cX7_install 16 = .ok (.ifCond .ne 6, 3) := by decide +kernel
theorem dX7_install_19 : decode cX7_install 19 = .ok (.ldc 136, 2) := by decide +kernel
theorem dX7_install_21 : decode cX7_install 21 = .ok (.ireturn, 1) := by decide +kernel
theorem dX7_install_22 : decode cX7_install 22 = .ok (.aload_n 0, 1) := by decide +kernel
theorem dX7_install_23 : decode cX7_install 23 = .ok (.getfield 156, 3) := by decide +kernel
theorem dX7_install_26 : decode cX7_install 26 = .ok (.istore_n 1, 1) := by decide +kernel
theorem dX7_install_27 : decode cX7_install 27 = .ok (.iconst 0, 1) := by decide +kernel
theorem dX7_install_28 : decode cX7_install 28 = .ok (.istore_n 2, 1) := by decide +kernel
theorem dX7_install_29 : decode cX7_install 29 = .ok (.iload_n 2, 1) := by decide +kernel
theorem dX7_install_30 : decode cX7_install 30 = .ok (.sipush 330, 3) := by decide +kernel
theorem dX7_install_33 : decode cX7_install 33 = .ok (.if_icmp .ge 58, 3) := by decide +kernel
theorem dX7_install_36 : decode cX7_install 36 = .ok (.aload_n 0, 1) := by decide +kernel
theorem dX7_install_37 : decode cX7_install 37 = .ok (.getfield 22, 3) := by decide +kernel
theorem dX7_install_40 : decode cX7_install 40 = .ok (.iload_n 2, 1) := by decide +kernel
theorem dX7_install_41 : decode cX7_install 41 = .ok (.iaload, 1) := by decide +kernel
theorem dX7_install_42 : decode cX7_install 42 = .ok (.bipush 9, 2) := by decide +kernel
theorem dX7_install_44 : decode cX7_install 44 = .ok (.if_icmp .ne 18, 3) := by decide +kernel
theorem dX7_install_47 : decode cX7_install 47 = .ok (.aload_n 0, 1) := by decide +kernel
theorem dX7_install_48 : decode cX7_install 48 = .ok (.getfield 22, 3) := by decide +kernel
theorem dX7_install_51 : decode cX7_install 51 = .ok (.iload_n 2, 1) := by decide +kernel
theorem dX7_install_52 : decode cX7_install 52 = .ok (.aload_n 0, 1) := by decide +kernel
theorem dX7_install_53 : decode cX7_install 53 = .ok (.getfield 150, 3) := by decide +kernel
theorem dX7_install_56 : decode cX7_install 56 = .ok (.iconst 1, 1) := by decide +kernel
theorem dX7_install_57 : decode cX7_install 57 = .ok (.iadd, 1) := by decide +kernel
theorem dX7_install_58 : decode cX7_install 58 = .ok (.iastore, 1) := by decide +kernel
theorem dX7_install_59 : decode cX7_install 59 = .ok (.goto 19, 3) := by decide +kernel
theorem dX7_install_62 : decode cX7_install 62 = .ok (.aload_n 0, 1) := by decide +kernel
theorem dX7_install_63 : decode cX7_install 63 = .ok (.getfield 61, 3) := by decide +kernel
theorem dX7_install_66 : decode cX7_install 66 = .ok (.iload_n 2, 1) := by decide +kernel
theorem dX7_install_67 : decode cX7_install 67 = .ok (.baload, 1) := by decide +kernel
theorem dX7_install_68 : decode cX7_install 68 = .ok (.ifCond .eq 10, 3) := by decide +kernel
theorem dX7_install_71 : decode cX7_install 71 = .ok (.aload_n 0, 1) := by decide +kernel
theorem dX7_install_72 : decode cX7_install 72 = .ok (.getfield 22, 3) := by decide +kernel
theorem dX7_install_75 : decode cX7_install 75 = .ok (.iload_n 2, 1) := by decide +kernel
theorem dX7_install_76 : decode cX7_install 76 = .ok (.iconst (-1), 1) := by decide +kernel
theorem dX7_install_77 : decode cX7_install 77 = .ok (.iastore, 1) := by decide +kernel
theorem dX7_install_78 : decode cX7_install 78 = .ok (.aload_n 0, 1) := by decide +kernel
theorem dX7_install_79 : decode cX7_install 79 = .ok (.getfield 61, 3) := by decide +kernel
theorem dX7_install_82 : decode cX7_install 82 = .ok (.iload_n 2, 1) := by decide +kernel
theorem dX7_install_83 : decode cX7_install 83 = .ok (.iconst 0, 1) := by decide +kernel
theorem dX7_install_84 : decode cX7_install 84 = .ok (.bastore, 1) := by decide +kernel
theorem dX7_install_85 : decode cX7_install 85 = .ok (.iinc 2 1, 3) := by decide +kernel
theorem dX7_install_88 : decode cX7_install 88 = .ok (.goto (-59), 3) := by decide +kernel
theorem dX7_install_91 : decode cX7_install 91 = .ok (.aload_n 0, 1) := by decide +kernel
theorem dX7_install_92 : decode cX7_install 92 = .ok (.getfield 150, 3) := by decide +kernel
theorem dX7_install_95 : decode cX7_install 95 = .ok (.ifCond .ge 114, 3) := by decide +kernel
theorem dX7_install_98 : decode cX7_install 98 = .ok (.aload_n 0, 1) := by decide +kernel
theorem dX7_install_99 : decode cX7_install 99 = .ok (.getfield 166, 3) := by decide +kernel
theorem dX7_install_102 : decode cX7_install 102 = .ok (.istore_n 2, 1) := by decide +kernel
theorem dX7_install_103 : decode cX7_install 103 = .ok (.iload_n 2, 1) := by decide +kernel
theorem dX7_install_104 : decode cX7_install 104 = .ok (.aload_n 0, 1) := by decide +kernel
theorem dX7_install_105 : decode cX7_install 105 = .ok (.getfield 93, 3) := by decide +kernel
theorem dX7_install_108 : decode cX7_install 108 = .ok (.if_icmp .ge 60, 3) := by decide +kernel
theorem dX7_install_111 : decode cX7_install 111 = .ok (.aload_n 0, 1) := by decide +kernel
theorem dX7_install_112 : decode cX7_install 112 = .ok (.getfield 7, 3) := by decide +kernel
theorem dX7_install_115 : decode cX7_install 115 = .ok (.iload_n 2, 1) := by decide +kernel
theorem dX7_install_116 : decode cX7_install 116 = .ok (.aload_n 0, 1) := by decide +kernel
theorem dX7_install_117 : decode cX7_install 117 = .ok (.getfield 166, 3) := by decide +kernel
theorem dX7_install_120 : decode cX7_install 120 = .ok (.isub, 1) := by decide +kernel
theorem dX7_install_121 : decode cX7_install 121 = .ok (.aload_n 0, 1) := by decide +kernel
theorem dX7_install_122 : decode cX7_install 122 = .ok (.getfield 7, 3) := by decide +kernel
theorem dX7_install_125 : decode cX7_install 125 = .ok (.iload_n 2, 1) := by decide +kernel
theorem dX7_install_126 : decode cX7_install 126 = .ok (.iaload, 1) := by decide +kernel
theorem dX7_install_127 : decode cX7_install 127 = .ok (.iastore, 1) := by decide +kernel
theorem dX7_install_128 : decode cX7_install 128 = .ok (.aload_n 0, 1) := by decide +kernel
theorem dX7_install_129 : decode cX7_install 129 = .ok (.getfield 13, 3) := by decide +kernel
theorem dX7_install_132 : decode cX7_install 132 = .ok (.iload_n 2, 1) := by decide +kernel
theorem dX7_install_133 : decode cX7_install 133 = .ok (.aload_n 0, 1) := by decide +kernel
theorem dX7_install_134 : decode cX7_install 134 = .ok (.getfield 166, 3) := by decide +kernel
theorem dX7_install_137 : decode cX7_install 137 = .ok (.isub, 1) := by decide +kernel
theorem dX7_install_138 : decode cX7_install 138 = .ok (.aload_n 0, 1) := by decide +kernel
theorem dX7_install_139 : decode cX7_install 139 = .ok (.getfield 13, 3) := by decide +kernel
theorem dX7_install_142 : decode cX7_install 142 = .ok (.iload_n 2, 1) := by decide +kernel
theorem dX7_install_143 : decode cX7_install 143 = .ok (.iaload, 1) := by decide +kernel
theorem dX7_install_144 : decode cX7_install 144 = .ok (.iastore, 1) := by decide +kernel
theorem dX7_install_145 : decode cX7_install 145 = .ok (.aload_n 0, 1) := by decide +kernel
theorem dX7_install_146 : decode cX7_install 146 = .ok (.getfield 16, 3) := by decide +kernel
theorem dX7_install_149 : decode cX7_install 149 = .ok (.iload_n 2, 1) := by decide +kernel
theorem dX7_install_150 : decode cX7_install 150 = .ok (.aload_n 0, 1) := by decide +kernel
theorem dX7_install_151 : decode cX7_install 151 = .ok (.getfield 166, 3) := by decide +kernel
theorem dX7_install_154 : decode cX7_install 154 = .ok (.isub, 1) := by decide +kernel
theorem dX7_install_155 : decode cX7_install 155 = .ok (.aload_n 0, 1) := by decide +kernel
theorem dX7_install_156 : decode cX7_install 156 = .ok (.getfield 16, 3) := by decide +kernel
theorem dX7_install_159 : decode cX7_install 159 = .ok (.iload_n 2, 1) := by decide +kernel
theorem dX7_install_160 : decode cX7_install 160 = .ok (.iaload, 1) := by decide +kernel
theorem dX7_install_161 : decode cX7_install 161 = .ok (.iastore, 1) := by decide +kernel
theorem dX7_install_162 : decode cX7_install 162 = .ok (.iinc 2 1, 3) := by decide +kernel
theorem dX7_install_165 : decode cX7_install 165 = .ok (.goto (-62), 3) := by decide +kernel
theorem dX7_install_168 : decode cX7_install 168 = .ok (.aload_n 0, 1) := by decide +kernel
theorem dX7_install_169 : decode cX7_install 169 = .ok (.dup, 1) := by decide +kernel
theorem dX7_install_170 : decode cX7_install 170 = .ok (.getfield 93, 3) := by decide +kernel
theorem dX7_install_173 : decode cX7_install 173 = .ok (.aload_n 0, 1) := by decide +kernel
theorem dX7_install_174 : decode cX7_install 174 = .ok (.getfield 166, 3) := by decide +kernel
theorem dX7_install_177 : decode cX7_install 177 = .ok (.isub, 1) := by decide +kernel
theorem dX7_install_178 : decode cX7_install 178 = .ok (.putfield 93, 3) := by decide +kernel
theorem dX7_install_181 : decode cX7_install 181 = .ok (.aload_n 0, 1) := by decide +kernel
theorem dX7_install_182 : decode cX7_install 182 = .ok (.aload_n 0, 1) := by decide +kernel
theorem dX7_install_183 : decode cX7_install 183 = .ok (.getfield 117, 3) := by decide +kernel
theorem dX7_install_186 : decode cX7_install 186 = .ok (.aload_n 0, 1) := by decide +kernel
theorem dX7_install_187 : decode cX7_install 187 = .ok (.getfield 166, 3) := by decide +kernel
theorem dX7_install_190 : decode cX7_install 190 = .ok (.if_icmp .le 15, 3) := by decide +kernel
theorem dX7_install_193 : decode cX7_install 193 = .ok (.aload_n 0, 1) := by decide +kernel
theorem dX7_install_194 : decode cX7_install 194 = .ok (.getfield 117, 3) := by decide +kernel
theorem dX7_install_197 : decode cX7_install 197 = .ok (.aload_n 0, 1) := by decide +kernel
theorem dX7_install_198 : decode cX7_install 198 = .ok (.getfield 166, 3) := by decide +kernel
theorem dX7_install_201 : decode cX7_install 201 = .ok (.isub, 1) := by decide +kernel
theorem dX7_install_202 : decode cX7_install 202 = .ok (.goto 4, 3) := by decide +kernel
theorem dX7_install_205 : decode cX7_install 205 = .ok (.iconst 0, 1) := by decide +kernel
theorem dX7_install_206 : decode cX7_install 206 = .ok (.putfield 117, 3) := by decide +kernel
theorem dX7_install_209 : decode cX7_install 209 = .ok (.aload_n 0, 1) := by decide +kernel
theorem dX7_install_210 : decode cX7_install 210 = .ok (.iconst 0, 1) := by decide +kernel
theorem dX7_install_211 : decode cX7_install 211 = .ok (.putfield 143, 3) := by decide +kernel
theorem dX7_install_214 : decode cX7_install 214 = .ok (.aload_n 0, 1) := by decide +kernel
theorem dX7_install_215 : decode cX7_install 215 = .ok (.iconst 0, 1) := by decide +kernel
theorem dX7_install_216 : decode cX7_install 216 = .ok (.putfield 156, 3) := by decide +kernel
theorem dX7_install_219 : decode cX7_install 219 = .ok (.iload_n 1, 1) := by decide +kernel
theorem dX7_install_220 : decode cX7_install 220 = .ok (.ireturn, 1) := by decide +kernel
theorem dX7_stop_0 : decode cX7_stop 0 = .ok (.aload_n 0, 1) := by decide +kernel
theorem dX7_stop_1 : decode cX7_stop 1 = .ok (.iconst 0, 1) := by decide +kernel
theorem dX7_stop_2 : decode cX7_stop 2 = .ok (.putfield 89, 3) := by decide +kernel
theorem dX7_stop_5 : decode cX7_stop 5 = .ok (.aload_n 0, 1) := by decide +kernel
theorem dX7_stop_6 : decode cX7_stop 6 = .ok (.getfield 143, 3) := by decide +kernel
theorem dX7_stop_9 : decode cX7_stop 9 = .ok (.ifCond .eq 10, 3) := by decide +kernel
theorem dX7_stop_12 : decode cX7_stop 12 = .ok (.aload_n 0, 1) := by decide +kernel
theorem dX7_stop_13 : decode cX7_stop 13 = .ok (.invokevirtual 120, 3) := by decide +kernel
theorem dX7_stop_16 : decode cX7_stop 16 = .ok (.goto 5, 3) := by decide +kernel
theorem dX7_stop_19 : decode cX7_stop 19 = .ok (.ldc 136, 2) := by decide +kernel
theorem dX7_stop_21 : decode cX7_stop 21 = .ok (.ireturn, 1) := by decide +kernel
theorem dX7_high_0 : decode cX7_high 0 = .ok (.aload_n 0, 1) := by decide +kernel
theorem dX7_high_1 : decode cX7_high 1 = .ok (.iconst 0, 1) := by decide +kernel
theorem dX7_high_2 : decode cX7_high 2 = .ok (.putfield 89, 3) := by decide +kernel
theorem dX7_high_5 : decode cX7_high 5 = .ok (.iconst 0, 1) := by decide +kernel
theorem dX7_high_6 : decode cX7_high 6 = .ok (.istore_n 1, 1) := by decide +kernel
theorem dX7_high_7 : decode cX7_high 7 = .ok (.iload_n 1, 1) := by decide +kernel
theorem dX7_high_8 : decode cX7_high 8 = .ok (.iconst 3, 1) := by decide +kernel
theorem dX7_high_9 : decode cX7_high 9 = .ok (.if_icmp .ge 34, 3) := by decide +kernel
theorem dX7_high_12 : decode cX7_high 12 = .ok (.aload_n 0, 1) := by decide +kernel
theorem dX7_high_13 : decode cX7_high 13 = .ok (.iload_n 1, 1) := by decide +kernel
theorem dX7_high_14 : decode cX7_high 14 = .ok (.invokevirtual 173, 3) := by decide +kernel
theorem dX7_high_17 : decode cX7_high 17 = .ok (.aload_n 0, 1) := by decide +kernel
theorem dX7_high_18 : decode cX7_high 18 = .ok (.getfield 137, 3) := by decide +kernel
theorem dX7_high_21 : decode cX7_high 21 = .ok (.iload_n 1, 1) := by decide +kernel
theorem dX7_high_22 : decode cX7_high 22 = .ok (.iconst 2, 1) := by decide +kernel
theorem dX7_high_23 : decode cX7_high 23 = .ok (.if_icmp .ne 8, 3) := by decide +kernel
theorem dX7_high_26 : decode cX7_high 26 = .ok (.bipush 6, 2) := by decide +kernel
theorem dX7_high_28 : decode cX7_high 28 = .ok (.goto 4, 3) := by decide +kernel
theorem dX7_high_31 : decode cX7_high 31 = .ok (.iconst 3, 1) := by decide +kernel
theorem dX7_high_32 : decode cX7_high 32 = .ok (.if_icmp .le 5, 3) := by decide +kernel
theorem dX7_high_35 : decode cX7_high 35 = .ok (.iload_n 1, 1) := by decide +kernel
theorem dX7_high_36 : decode cX7_high 36 = .ok (.ireturn, 1) := by decide +kernel
theorem dX7_high_37 : decode cX7_high 37 = .ok (.iinc 1 1, 3) := by decide +kernel
theorem dX7_high_40 : decode cX7_high 40 = .ok (.goto (-33), 3) := by decide +kernel
theorem dX7_high_43 : decode cX7_high 43 = .ok (.ldc 116, 2) := by decide +kernel
theorem dX7_high_45 : decode cX7_high 45 = .ok (.ireturn, 1) := by decide +kernel
theorem dX7_files_0 : decode cX7_files 0 = .ok (.aload_n 0, 1) := by decide +kernel
theorem dX7_files_1 : decode cX7_files 1 = .ok (.iconst 0, 1) := by decide +kernel
theorem dX7_files_2 : decode cX7_files 2 = .ok (.putfield 89, 3) := by decide +kernel
theorem dX7_files_5 : decode cX7_files 5 = .ok (.iload_n 1, 1) := by decide +kernel
theorem dX7_files_6 : decode cX7_files 6 = .ok (.i2l, 1) := by decide +kernel
theorem dX7_files_7 : decode cX7_files 7 = .ok (.lconst 0, 1) := by decide +kernel
theorem dX7_files_8 : decode cX7_files 8 = .ok (.ldc2_w 124, 3) := by decide +kernel
theorem dX7_files_11 : decode cX7_files 11 = .ok (.invokestatic 103, 3) := by decide +kernel
theorem dX7_files_14 : decode cX7_files 14 = .ok (.ifCond .ne 6, 3) := by decide +kernel
theorem dX7_files_17 : decode cX7_files 17 = .ok (.ldc 135, 2) := by decide +kernel
theorem dX7_files_19 : decode cX7_files 19 = .ok (.ireturn, 1) := by decide +kernel
theorem dX7_files_20 : decode cX7_files 20 = .ok (.aload_n 0, 1) := by decide +kernel
theorem dX7_files_21 : decode cX7_files 21 = .ok (.iload_n 1, 1) := by decide +kernel
theorem dX7_files_22 : decode cX7_files 22 = .ok (.invokevirtual 173, 3) := by decide +kernel
theorem dX7_files_25 : decode cX7_files 25 = .ok (.aload_n 0, 1) := by decide +kernel
theorem dX7_files_26 : decode cX7_files 26 = .ok (.getfield 137, 3) := by decide +kernel
theorem dX7_files_29 : decode cX7_files 29 = .ok (.ireturn, 1) := by decide +kernel
theorem dX7_slot_0 : decode cX7_slot 0 = .ok (.iload_n 1, 1) := by decide +kernel
theorem dX7_slot_1 : decode cX7_slot 1 = .ok (.i2l, 1) := by decide +kernel
theorem dX7_slot_2 : decode cX7_slot 2 = .ok (.lconst 0, 1) := by decide +kernel
theorem dX7_slot_3 : decode cX7_slot 3 = .ok (.ldc2_w 124, 3) := by decide +kernel
theorem dX7_slot_6 : decode cX7_slot 6 = .ok (.invokestatic 103, 3) := by decide +kernel
theorem dX7_slot_9 : decode cX7_slot 9 = .ok (.ifCond .ne 5, 3) := by decide +kernel
theorem dX7_slot_12 : decode cX7_slot 12 = .ok (.iconst (-1), 1) := by decide +kernel
theorem dX7_slot_13 : decode cX7_slot 13 = .ok (.ireturn, 1) := by decide +kernel
theorem dX7_slot_14 : decode cX7_slot 14 = .ok (.aload_n 0, 1) := by decide +kernel
theorem dX7_slot_15 : decode cX7_slot 15 = .ok (.iload_n 1, 1) := by decide +kernel
theorem dX7_slot_16 : decode cX7_slot 16 = .ok (.invokevirtual 173, 3) := by decide +kernel
theorem dX7_slot_19 : decode cX7_slot 19 = .ok (.iload_n 2, 1) := by decide +kernel
theorem dX7_slot_20 : decode cX7_slot 20 = .ok (.i2l, 1) := by decide +kernel
theorem dX7_slot_21 : decode cX7_slot 21 = .ok (.lconst 0, 1) := by decide +kernel
theorem dX7_slot_22 : decode cX7_slot 22 = .ok (.aload_n 0, 1) := by decide +kernel
theorem dX7_slot_23 : decode cX7_slot 23 = .ok (.getfield 137, 3) := by decide +kernel
theorem dX7_slot_26 : decode cX7_slot 26 = .ok (.iconst 1, 1) := by decide +kernel
theorem dX7_slot_27 : decode cX7_slot 27 = .ok (.isub, 1) := by decide +kernel
theorem dX7_slot_28 : decode cX7_slot 28 = .ok (.i2l, 1) := by decide +kernel
theorem dX7_slot_29 : decode cX7_slot 29 = .ok (.invokestatic 103, 3) := by decide +kernel
theorem dX7_slot_32 : decode cX7_slot 32 = .ok (.ifCond .eq 12, 3) := by decide +kernel
theorem dX7_slot_35 : decode cX7_slot 35 = .ok (.aload_n 0, 1) := by decide +kernel
theorem dX7_slot_36 : decode cX7_slot 36 = .ok (.getfield 49, 3) := by decide +kernel
theorem dX7_slot_39 : decode cX7_slot 39 = .ok (.iload_n 2, 1) := by decide +kernel
theorem dX7_slot_40 : decode cX7_slot 40 = .ok (.iaload, 1) := by decide +kernel
theorem dX7_slot_41 : decode cX7_slot 41 = .ok (.goto 4, 3) := by decide +kernel
theorem dX7_slot_44 : decode cX7_slot 44 = .ok (.iconst (-1), 1) := by decide +kernel
theorem dX7_slot_45 : decode cX7_slot 45 = .ok (.ireturn, 1) := by decide +kernel
theorem dX7_file_0 : decode cX7_file 0 = .ok (.aload_n 0, 1) := by decide +kernel
theorem dX7_file_1 : decode cX7_file 1 = .ok (.iconst 0, 1) := by decide +kernel
theorem dX7_file_2 : decode cX7_file 2 = .ok (.putfield 89, 3) := by decide +kernel
theorem dX7_file_5 : decode cX7_file 5 = .ok (.aload_n 0, 1) := by decide +kernel
theorem dX7_file_6 : decode cX7_file 6 = .ok (.iload_n 1, 1) := by decide +kernel
theorem dX7_file_7 : decode cX7_file 7 = .ok (.iload_n 2, 1) := by decide +kernel
theorem dX7_file_8 : decode cX7_file 8 = .ok (.invokevirtual 216, 3) := by decide +kernel
theorem dX7_file_11 : decode cX7_file 11 = .ok (.istore 4, 2) := by decide +kernel
theorem dX7_file_13 : decode cX7_file 13 = .ok (.iload 4, 2) := by decide +kernel
theorem dX7_file_15 : decode cX7_file 15 = .ok (.ifCond .ge 6, 3) := by decide +kernel
theorem dX7_file_18 : decode cX7_file 18 = .ok (.ldc 135, 2) := by decide +kernel
theorem dX7_file_20 : decode cX7_file 20 = .ok (.ireturn, 1) := by decide +kernel
theorem dX7_file_21 : decode cX7_file 21 = .ok (.iload_n 3, 1) := by decide +kernel
theorem dX7_file_22 : decode cX7_file 22 = .ok (.tableswitch 84 0 5 #[38, 46, 54, 61, 68, 76], 38) := by decide +kernel
theorem dX7_file_60 : decode cX7_file 60 = .ok (.aload_n 0, 1) := by decide +kernel
theorem dX7_file_61 : decode cX7_file 61 = .ok (.getfield 25, 3) := by decide +kernel
theorem dX7_file_64 : decode cX7_file 64 = .ok (.iload 4, 2) := by decide +kernel
theorem dX7_file_66 : decode cX7_file 66 = .ok (.iaload, 1) := by decide +kernel
theorem dX7_file_67 : decode cX7_file 67 = .ok (.ireturn, 1) := by decide +kernel
theorem dX7_file_68 : decode cX7_file 68 = .ok (.aload_n 0, 1) := by decide +kernel
theorem dX7_file_69 : decode cX7_file 69 = .ok (.getfield 34, 3) := by decide +kernel
theorem dX7_file_72 : decode cX7_file 72 = .ok (.iload 4, 2) := by decide +kernel
theorem dX7_file_74 : decode cX7_file 74 = .ok (.iaload, 1) := by decide +kernel
theorem dX7_file_75 : decode cX7_file 75 = .ok (.ireturn, 1) := by decide +kernel
theorem dX7_file_76 : decode cX7_file 76 = .ok (.aload_n 0, 1) := by decide +kernel
theorem dX7_file_77 : decode cX7_file 77 = .ok (.iload 4, 2) := by decide +kernel
theorem dX7_file_79 : decode cX7_file 79 = .ok (.invokevirtual 176, 3) := by decide +kernel
theorem dX7_file_82 : decode cX7_file 82 = .ok (.ireturn, 1) := by decide +kernel
theorem dX7_file_83 : decode cX7_file 83 = .ok (.aload_n 0, 1) := by decide +kernel
theorem dX7_file_84 : decode cX7_file 84 = .ok (.iload 4, 2) := by decide +kernel
theorem dX7_file_86 : decode cX7_file 86 = .ok (.invokevirtual 180, 3) := by decide +kernel
theorem dX7_file_89 : decode cX7_file 89 = .ok (.ireturn, 1) := by decide +kernel
theorem dX7_file_90 : decode cX7_file 90 = .ok (.aload_n 0, 1) := by decide +kernel
theorem dX7_file_91 : decode cX7_file 91 = .ok (.getfield 28, 3) := by decide +kernel
theorem dX7_file_94 : decode cX7_file 94 = .ok (.iload 4, 2) := by decide +kernel
theorem dX7_file_96 : decode cX7_file 96 = .ok (.iaload, 1) := by decide +kernel
theorem dX7_file_97 : decode cX7_file 97 = .ok (.ireturn, 1) := by decide +kernel
theorem dX7_file_98 : decode cX7_file 98 = .ok (.aload_n 0, 1) := by decide +kernel
theorem dX7_file_99 : decode cX7_file 99 = .ok (.getfield 31, 3) := by decide +kernel
theorem dX7_file_102 : decode cX7_file 102 = .ok (.iload 4, 2) := by decide +kernel
theorem dX7_file_104 : decode cX7_file 104 = .ok (.iaload, 1) := by decide +kernel
theorem dX7_file_105 : decode cX7_file 105 = .ok (.ireturn, 1) := by decide +kernel
theorem dX7_file_106 : decode cX7_file 106 = .ok (.ldc 111, 2) := by decide +kernel
theorem dX7_file_108 : decode cX7_file 108 = .ok (.ireturn, 1) := by decide +kernel
theorem dX7_entry_0 : decode cX7_entry 0 = .ok (.aload_n 0, 1) := by decide +kernel
theorem dX7_entry_1 : decode cX7_entry 1 = .ok (.iconst 0, 1) := by decide +kernel
theorem dX7_entry_2 : decode cX7_entry 2 = .ok (.putfield 89, 3) := by decide +kernel
theorem dX7_entry_5 : decode cX7_entry 5 = .ok (.aload_n 0, 1) := by decide +kernel
theorem dX7_entry_6 : decode cX7_entry 6 = .ok (.iload_n 1, 1) := by decide +kernel
theorem dX7_entry_7 : decode cX7_entry 7 = .ok (.iload_n 2, 1) := by decide +kernel
theorem dX7_entry_8 : decode cX7_entry 8 = .ok (.invokevirtual 216, 3) := by decide +kernel
theorem dX7_entry_11 : decode cX7_entry 11 = .ok (.istore 5, 2) := by decide +kernel
theorem dX7_entry_13 : decode cX7_entry 13 = .ok (.iload 5, 2) := by decide +kernel
theorem dX7_entry_15 : decode cX7_entry 15 = .ok (.ifCond .ge 6, 3) := by decide +kernel
theorem dX7_entry_18 : decode cX7_entry 18 = .ok (.ldc 135, 2) := by decide +kernel
theorem dX7_entry_20 : decode cX7_entry 20 = .ok (.ireturn, 1) := by decide +kernel
theorem dX7_entry_21 : decode cX7_entry 21 = .ok (.iload_n 3, 1) := by decide +kernel
theorem dX7_entry_22 : decode cX7_entry 22 = .ok (.i2l, 1) := by decide +kernel
theorem dX7_entry_23 : decode cX7_entry 23 = .ok (.lconst 0, 1) := by decide +kernel
theorem dX7_entry_24 : decode cX7_entry 24 = .ok (.aload_n 0, 1) := by decide +kernel
theorem dX7_entry_25 : decode cX7_entry 25 = .ok (.getfield 34, 3) := by decide +kernel
theorem dX7_entry_28 : decode cX7_entry 28 = .ok (.iload 5, 2) := by decide +kernel
theorem dX7_entry_30 : decode cX7_entry 30 = .ok (.iaload, 1) := by decide +kernel
theorem dX7_entry_31 : decode cX7_entry 31 = .ok (.iconst 1, 1) := by decide +kernel
theorem dX7_entry_32 : decode cX7_entry 32 = .ok (.isub, 1) := by decide +kernel
theorem dX7_entry_33 : decode cX7_entry 33 = .ok (.i2l, 1) := by decide +kernel
theorem dX7_entry_34 : decode cX7_entry 34 = .ok (.invokestatic 103, 3) := by decide +kernel
theorem dX7_entry_37 : decode cX7_entry 37 = .ok (.ifCond .eq 16, 3) := by decide +kernel
theorem dX7_entry_40 : decode cX7_entry 40 = .ok (.iload 4, 2) := by decide +kernel
theorem dX7_entry_42 : decode cX7_entry 42 = .ok (.i2l, 1) := by decide +kernel
theorem dX7_entry_43 : decode cX7_entry 43 = .ok (.lconst 0, 1) := by decide +kernel
theorem dX7_entry_44 : decode cX7_entry 44 = .ok (.ldc2_w 126, 3) := by decide +kernel
theorem dX7_entry_47 : decode cX7_entry 47 = .ok (.invokestatic 103, 3) := by decide +kernel
theorem dX7_entry_50 : decode cX7_entry 50 = .ok (.ifCond .ne 6, 3) := by decide +kernel
theorem dX7_entry_53 : decode cX7_entry 53 = .ok (.ldc 111, 2) := by decide +kernel
theorem dX7_entry_55 : decode cX7_entry 55 = .ok (.ireturn, 1) := by decide +kernel
theorem dX7_entry_56 : decode cX7_entry 56 = .ok (.bipush 30, 2) := by decide +kernel
theorem dX7_entry_58 : decode cX7_entry 58 = .ok (.iload 5, 2) := by decide +kernel
theorem dX7_entry_60 : decode cX7_entry 60 = .ok (.imul, 1) := by decide +kernel
theorem dX7_entry_61 : decode cX7_entry 61 = .ok (.iload_n 3, 1) := by decide +kernel
theorem dX7_entry_62 : decode cX7_entry 62 = .ok (.iadd, 1) := by decide +kernel
theorem dX7_entry_63 : decode cX7_entry 63 = .ok (.istore 6, 2) := by decide +kernel
theorem dX7_entry_65 : decode cX7_entry 65 = .ok (.iload 4, 2) := by decide +kernel
theorem dX7_entry_67 : decode cX7_entry 67 = .ok (.ifCond .ne 13, 3) := by decide +kernel
theorem dX7_entry_70 : decode cX7_entry 70 = .ok (.aload_n 0, 1) := by decide +kernel
theorem dX7_entry_71 : decode cX7_entry 71 = .ok (.getfield 37, 3) := by decide +kernel
theorem dX7_entry_74 : decode cX7_entry 74 = .ok (.iload 6, 2) := by decide +kernel
theorem dX7_entry_76 : decode cX7_entry 76 = .ok (.iaload, 1) := by decide +kernel
theorem dX7_entry_77 : decode cX7_entry 77 = .ok (.goto 26, 3) := by decide +kernel
theorem dX7_entry_80 : decode cX7_entry 80 = .ok (.iload 4, 2) := by decide +kernel
theorem dX7_entry_82 : decode cX7_entry 82 = .ok (.iconst 1, 1) := by decide +kernel
theorem dX7_entry_83 : decode cX7_entry 83 = .ok (.if_icmp .ne 13, 3) := by decide +kernel
theorem dX7_entry_86 : decode cX7_entry 86 = .ok (.aload_n 0, 1) := by decide +kernel
theorem dX7_entry_87 : decode cX7_entry 87 = .ok (.getfield 40, 3) := by decide +kernel
theorem dX7_entry_90 : decode cX7_entry 90 = .ok (.iload 6, 2) := by decide +kernel
theorem dX7_entry_92 : decode cX7_entry 92 = .ok (.iaload, 1) := by decide +kernel
theorem dX7_entry_93 : decode cX7_entry 93 = .ok (.goto 10, 3) := by decide +kernel
theorem dX7_entry_96 : decode cX7_entry 96 = .ok (.aload_n 0, 1) := by decide +kernel
theorem dX7_entry_97 : decode cX7_entry 97 = .ok (.getfield 43, 3) := by decide +kernel
theorem dX7_entry_100 : decode cX7_entry 100 = .ok (.iload 6, 2) := by decide +kernel
theorem dX7_entry_102 : decode cX7_entry 102 = .ok (.iaload, 1) := by decide +kernel
theorem dX7_entry_103 : decode cX7_entry 103 = .ok (.ireturn, 1) := by decide +kernel
theorem dX7_byteAt_0 : decode cX7_byteAt 0 = .ok (.aload_n 0, 1) := by decide +kernel
theorem dX7_byteAt_1 : decode cX7_byteAt 1 = .ok (.iconst 0, 1) := by decide +kernel
theorem dX7_byteAt_2 : decode cX7_byteAt 2 = .ok (.putfield 89, 3) := by decide +kernel
theorem dX7_byteAt_5 : decode cX7_byteAt 5 = .ok (.iload_n 1, 1) := by decide +kernel
theorem dX7_byteAt_6 : decode cX7_byteAt 6 = .ok (.i2l, 1) := by decide +kernel
theorem dX7_byteAt_7 : decode cX7_byteAt 7 = .ok (.lconst 0, 1) := by decide +kernel
theorem dX7_byteAt_8 : decode cX7_byteAt 8 = .ok (.ldc2_w 219, 3) := by decide +kernel
theorem dX7_byteAt_11 : decode cX7_byteAt 11 = .ok (.invokestatic 103, 3) := by decide +kernel
theorem dX7_byteAt_14 : decode cX7_byteAt 14 = .ok (.ifCond .eq 12, 3) := by decide +kernel
theorem dX7_byteAt_17 : decode cX7_byteAt 17 = .ok (.aload_n 0, 1) := by decide +kernel
theorem dX7_byteAt_18 : decode cX7_byteAt 18 = .ok (.getfield 46, 3) := by decide +kernel
theorem dX7_byteAt_21 : decode cX7_byteAt 21 = .ok (.iload_n 1, 1) := by decide +kernel
theorem dX7_byteAt_22 : decode cX7_byteAt 22 = .ok (.iaload, 1) := by decide +kernel
theorem dX7_byteAt_23 : decode cX7_byteAt 23 = .ok (.goto 5, 3) := by decide +kernel
theorem dX7_byteAt_26 : decode cX7_byteAt 26 = .ok (.ldc 111, 2) := by decide +kernel
theorem dX7_byteAt_28 : decode cX7_byteAt 28 = .ok (.ireturn, 1) := by decide +kernel
theorem dX7_log_0 : decode cX7_log 0 = .ok (.aload_n 0, 1) := by decide +kernel
theorem dX7_log_1 : decode cX7_log 1 = .ok (.iconst 0, 1) := by decide +kernel
theorem dX7_log_2 : decode cX7_log 2 = .ok (.putfield 89, 3) := by decide +kernel
theorem dX7_log_5 : decode cX7_log 5 = .ok (.iload_n 1, 1) := by decide +kernel
theorem dX7_log_6 : decode cX7_log 6 = .ok (.i2l, 1) := by decide +kernel
theorem dX7_log_7 : decode cX7_log 7 = .ok (.lconst 0, 1) := by decide +kernel
theorem dX7_log_8 : decode cX7_log 8 = .ok (.aload_n 0, 1) := by decide +kernel
theorem dX7_log_9 : decode cX7_log 9 = .ok (.getfield 93, 3) := by decide +kernel
theorem dX7_log_12 : decode cX7_log 12 = .ok (.iconst 1, 1) := by decide +kernel
theorem dX7_log_13 : decode cX7_log 13 = .ok (.isub, 1) := by decide +kernel
theorem dX7_log_14 : decode cX7_log 14 = .ok (.i2l, 1) := by decide +kernel
theorem dX7_log_15 : decode cX7_log 15 = .ok (.invokestatic 103, 3) := by decide +kernel
theorem dX7_log_18 : decode cX7_log 18 = .ok (.ifCond .eq 15, 3) := by decide +kernel
theorem dX7_log_21 : decode cX7_log 21 = .ok (.iload_n 2, 1) := by decide +kernel
theorem dX7_log_22 : decode cX7_log 22 = .ok (.i2l, 1) := by decide +kernel
theorem dX7_log_23 : decode cX7_log 23 = .ok (.lconst 0, 1) := by decide +kernel
theorem dX7_log_24 : decode cX7_log 24 = .ok (.ldc2_w 126, 3) := by decide +kernel
theorem dX7_log_27 : decode cX7_log 27 = .ok (.invokestatic 103, 3) := by decide +kernel
theorem dX7_log_30 : decode cX7_log 30 = .ok (.ifCond .ne 6, 3) := by decide +kernel
theorem dX7_log_33 : decode cX7_log 33 = .ok (.ldc 111, 2) := by decide +kernel
theorem dX7_log_35 : decode cX7_log 35 = .ok (.ireturn, 1) := by decide +kernel
theorem dX7_log_36 : decode cX7_log 36 = .ok (.iload_n 2, 1) := by decide +kernel
theorem dX7_log_37 : decode cX7_log 37 = .ok (.ifCond .ne 12, 3) := by decide +kernel
theorem dX7_log_40 : decode cX7_log 40 = .ok (.aload_n 0, 1) := by decide +kernel
theorem dX7_log_41 : decode cX7_log 41 = .ok (.getfield 7, 3) := by decide +kernel
theorem dX7_log_44 : decode cX7_log 44 = .ok (.iload_n 1, 1) := by decide +kernel
theorem dX7_log_45 : decode cX7_log 45 = .ok (.iaload, 1) := by decide +kernel
theorem dX7_log_46 : decode cX7_log 46 = .ok (.goto 23, 3) := by decide +kernel
theorem dX7_log_49 : decode cX7_log 49 = .ok (.iload_n 2, 1) := by decide +kernel
theorem dX7_log_50 : decode cX7_log 50 = .ok (.iconst 1, 1) := by decide +kernel
theorem dX7_log_51 : decode cX7_log 51 = .ok (.if_icmp .ne 12, 3) := by decide +kernel
theorem dX7_log_54 : decode cX7_log 54 = .ok (.aload_n 0, 1) := by decide +kernel
theorem dX7_log_55 : decode cX7_log 55 = .ok (.getfield 13, 3) := by decide +kernel
theorem dX7_log_58 : decode cX7_log 58 = .ok (.iload_n 1, 1) := by decide +kernel
theorem dX7_log_59 : decode cX7_log 59 = .ok (.iaload, 1) := by decide +kernel
theorem dX7_log_60 : decode cX7_log 60 = .ok (.goto 9, 3) := by decide +kernel
theorem dX7_log_63 : decode cX7_log 63 = .ok (.aload_n 0, 1) := by decide +kernel
theorem dX7_log_64 : decode cX7_log 64 = .ok (.getfield 16, 3) := by decide +kernel
theorem dX7_log_67 : decode cX7_log 67 = .ok (.iload_n 1, 1) := by decide +kernel
theorem dX7_log_68 : decode cX7_log 68 = .ok (.iaload, 1) := by decide +kernel
theorem dX7_log_69 : decode cX7_log 69 = .ok (.ireturn, 1) := by decide +kernel
theorem dX7_count_0 : decode cX7_count 0 = .ok (.aload_n 0, 1) := by decide +kernel
theorem dX7_count_1 : decode cX7_count 1 = .ok (.iconst 0, 1) := by decide +kernel
theorem dX7_count_2 : decode cX7_count 2 = .ok (.putfield 89, 3) := by decide +kernel
theorem dX7_count_5 : decode cX7_count 5 = .ok (.iconst 0, 1) := by decide +kernel
theorem dX7_count_6 : decode cX7_count 6 = .ok (.istore_n 2, 1) := by decide +kernel
theorem dX7_count_7 : decode cX7_count 7 = .ok (.iconst 0, 1) := by decide +kernel
theorem dX7_count_8 : decode cX7_count 8 = .ok (.istore_n 3, 1) := by decide +kernel
theorem dX7_count_9 : decode cX7_count 9 = .ok (.iconst 0, 1) := by decide +kernel
theorem dX7_count_10 : decode cX7_count 10 = .ok (.istore 4, 2) := by decide +kernel
theorem dX7_count_12 : decode cX7_count 12 = .ok (.iconst 0, 1) := by decide +kernel
theorem dX7_count_13 : decode cX7_count 13 = .ok (.istore 5, 2) := by decide +kernel
theorem dX7_count_15 : decode cX7_count 15 = .ok (.iload 5, 2) := by decide +kernel
theorem dX7_count_17 : decode cX7_count 17 = .ok (.sipush 330, 3) := by decide +kernel
theorem dX7_count_20 : decode cX7_count 20 = .ok (.if_icmp .ge 52, 3) := by decide +kernel
theorem dX7_count_23 : decode cX7_count 23 = .ok (.aload_n 0, 1) := by decide +kernel
theorem dX7_count_24 : decode cX7_count 24 = .ok (.getfield 22, 3) := by decide +kernel
theorem dX7_count_27 : decode cX7_count 27 = .ok (.iload 5, 2) := by decide +kernel
theorem dX7_count_29 : decode cX7_count 29 = .ok (.iaload, 1) := by decide +kernel
theorem dX7_count_30 : decode cX7_count 30 = .ok (.i2l, 1) := by decide +kernel
theorem dX7_count_31 : decode cX7_count 31 = .ok (.lconst 0, 1) := by decide +kernel
theorem dX7_count_32 : decode cX7_count 32 = .ok (.ldc2_w 124, 3) := by decide +kernel
theorem dX7_count_35 : decode cX7_count 35 = .ok (.invokestatic 103, 3) := by decide +kernel
theorem dX7_count_38 : decode cX7_count 38 = .ok (.ifCond .eq 28, 3) := by decide +kernel
theorem dX7_count_41 : decode cX7_count 41 = .ok (.iinc 2 1, 3) := by decide +kernel
theorem dX7_count_44 : decode cX7_count 44 = .ok (.iload_n 3, 1) := by decide +kernel
theorem dX7_count_45 : decode cX7_count 45 = .ok (.aload_n 0, 1) := by decide +kernel
theorem dX7_count_46 : decode cX7_count 46 = .ok (.getfield 31, 3) := by decide +kernel
theorem dX7_count_49 : decode cX7_count 49 = .ok (.iload 5, 2) := by decide +kernel
theorem dX7_count_51 : decode cX7_count 51 = .ok (.iaload, 1) := by decide +kernel
theorem dX7_count_52 : decode cX7_count 52 = .ok (.iadd, 1) := by decide +kernel
theorem dX7_count_53 : decode cX7_count 53 = .ok (.istore_n 3, 1) := by decide +kernel
theorem dX7_count_54 : decode cX7_count 54 = .ok (.iload 4, 2) := by decide +kernel
theorem dX7_count_56 : decode cX7_count 56 = .ok (.aload_n 0, 1) := by decide +kernel
theorem dX7_count_57 : decode cX7_count 57 = .ok (.getfield 34, 3) := by decide +kernel
theorem dX7_count_60 : decode cX7_count 60 = .ok (.iload 5, 2) := by decide +kernel
theorem dX7_count_62 : decode cX7_count 62 = .ok (.iaload, 1) := by decide +kernel
theorem dX7_count_63 : decode cX7_count 63 = .ok (.iadd, 1) := by decide +kernel
theorem dX7_count_64 : decode cX7_count 64 = .ok (.istore 4, 2) := by decide +kernel
theorem dX7_count_66 : decode cX7_count 66 = .ok (.iinc 5 1, 3) := by decide +kernel
theorem dX7_count_69 : decode cX7_count 69 = .ok (.goto (-54), 3) := by decide +kernel
theorem dX7_count_72 : decode cX7_count 72 = .ok (.iload_n 1, 1) := by decide +kernel
theorem dX7_count_73 : decode cX7_count 73 = .ok (.tableswitch 105 0 8 #[51, 56, 61, 66, 68, 70, 92, 97, 102], 51) := by decide +kernel
theorem dX7_count_124 : decode cX7_count 124 = .ok (.aload_n 0, 1) := by decide +kernel
theorem dX7_count_125 : decode cX7_count 125 = .ok (.getfield 93, 3) := by decide +kernel
theorem dX7_count_128 : decode cX7_count 128 = .ok (.ireturn, 1) := by decide +kernel
theorem dX7_count_129 : decode cX7_count 129 = .ok (.aload_n 0, 1) := by decide +kernel
theorem dX7_count_130 : decode cX7_count 130 = .ok (.getfield 117, 3) := by decide +kernel
theorem dX7_count_133 : decode cX7_count 133 = .ok (.ireturn, 1) := by decide +kernel
theorem dX7_count_134 : decode cX7_count 134 = .ok (.aload_n 0, 1) := by decide +kernel
theorem dX7_count_135 : decode cX7_count 135 = .ok (.getfield 96, 3) := by decide +kernel
theorem dX7_count_138 : decode cX7_count 138 = .ok (.ireturn, 1) := by decide +kernel
theorem dX7_count_139 : decode cX7_count 139 = .ok (.iload_n 2, 1) := by decide +kernel
theorem dX7_count_140 : decode cX7_count 140 = .ok (.ireturn, 1) := by decide +kernel
theorem dX7_count_141 : decode cX7_count 141 = .ok (.iload_n 3, 1) := by decide +kernel
theorem dX7_count_142 : decode cX7_count 142 = .ok (.ireturn, 1) := by decide +kernel
theorem dX7_count_143 : decode cX7_count 143 = .ok (.aload_n 0, 1) := by decide +kernel
theorem dX7_count_144 : decode cX7_count 144 = .ok (.getfield 143, 3) := by decide +kernel
theorem dX7_count_147 : decode cX7_count 147 = .ok (.ifCond .eq 15, 3) := by decide +kernel
theorem dX7_count_150 : decode cX7_count 150 = .ok (.aload_n 0, 1) := by decide +kernel
theorem dX7_count_151 : decode cX7_count 151 = .ok (.getfield 140, 3) := by decide +kernel
theorem dX7_count_154 : decode cX7_count 154 = .ok (.aload_n 0, 1) := by decide +kernel
theorem dX7_count_155 : decode cX7_count 155 = .ok (.getfield 153, 3) := by decide +kernel
theorem dX7_count_158 : decode cX7_count 158 = .ok (.isub, 1) := by decide +kernel
theorem dX7_count_159 : decode cX7_count 159 = .ok (.goto 5, 3) := by decide +kernel
theorem dX7_count_162 : decode cX7_count 162 = .ok (.ldc 116, 2) := by decide +kernel
theorem dX7_count_164 : decode cX7_count 164 = .ok (.ireturn, 1) := by decide +kernel
theorem dX7_count_165 : decode cX7_count 165 = .ok (.aload_n 0, 1) := by decide +kernel
theorem dX7_count_166 : decode cX7_count 166 = .ok (.getfield 156, 3) := by decide +kernel
theorem dX7_count_169 : decode cX7_count 169 = .ok (.ireturn, 1) := by decide +kernel
theorem dX7_count_170 : decode cX7_count 170 = .ok (.aload_n 0, 1) := by decide +kernel
theorem dX7_count_171 : decode cX7_count 171 = .ok (.getfield 201, 3) := by decide +kernel
theorem dX7_count_174 : decode cX7_count 174 = .ok (.ireturn, 1) := by decide +kernel
theorem dX7_count_175 : decode cX7_count 175 = .ok (.iload 4, 2) := by decide +kernel
theorem dX7_count_177 : decode cX7_count 177 = .ok (.ireturn, 1) := by decide +kernel
theorem dX7_count_178 : decode cX7_count 178 = .ok (.ldc 111, 2) := by decide +kernel
theorem dX7_count_180 : decode cX7_count 180 = .ok (.ireturn, 1) := by decide +kernel
theorem dX7_check_0 : decode cX7_check 0 = .ok (.aload_n 0, 1) := by decide +kernel
theorem dX7_check_1 : decode cX7_check 1 = .ok (.iconst 0, 1) := by decide +kernel
theorem dX7_check_2 : decode cX7_check 2 = .ok (.putfield 89, 3) := by decide +kernel
theorem dX7_check_5 : decode cX7_check 5 = .ok (.iconst 0, 1) := by decide +kernel
theorem dX7_check_6 : decode cX7_check 6 = .ok (.istore_n 1, 1) := by decide +kernel
theorem dX7_check_7 : decode cX7_check 7 = .ok (.iconst 0, 1) := by decide +kernel
theorem dX7_check_8 : decode cX7_check 8 = .ok (.istore_n 2, 1) := by decide +kernel
theorem dX7_check_9 : decode cX7_check 9 = .ok (.iload_n 2, 1) := by decide +kernel
theorem dX7_check_10 : decode cX7_check 10 = .ok (.sipush 330, 3) := by decide +kernel
theorem dX7_check_13 : decode cX7_check 13 = .ok (.if_icmp .ge 66, 3) := by decide +kernel
theorem dX7_check_16 : decode cX7_check 16 = .ok (.aload_n 0, 1) := by decide +kernel
theorem dX7_check_17 : decode cX7_check 17 = .ok (.getfield 22, 3) := by decide +kernel
theorem dX7_check_20 : decode cX7_check 20 = .ok (.iload_n 2, 1) := by decide +kernel
theorem dX7_check_21 : decode cX7_check 21 = .ok (.iaload, 1) := by decide +kernel
theorem dX7_check_22 : decode cX7_check 22 = .ok (.i2l, 1) := by decide +kernel
theorem dX7_check_23 : decode cX7_check 23 = .ok (.lconst 0, 1) := by decide +kernel
theorem dX7_check_24 : decode cX7_check 24 = .ok (.ldc2_w 124, 3) := by decide +kernel
theorem dX7_check_27 : decode cX7_check 27 = .ok (.invokestatic 103, 3) := by decide +kernel
theorem dX7_check_30 : decode cX7_check 30 = .ok (.ifCond .eq 43, 3) := by decide +kernel
theorem dX7_check_33 : decode cX7_check 33 = .ok (.aload_n 0, 1) := by decide +kernel
theorem dX7_check_34 : decode cX7_check 34 = .ok (.getfield 159, 3) := by decide +kernel
theorem dX7_check_37 : decode cX7_check 37 = .ok (.istore_n 3, 1) := by decide +kernel
theorem dX7_check_38 : decode cX7_check 38 = .ok (.aload_n 0, 1) := by decide +kernel
theorem dX7_check_39 : decode cX7_check 39 = .ok (.aload_n 0, 1) := by decide +kernel
theorem dX7_check_40 : decode cX7_check 40 = .ok (.getfield 34, 3) := by decide +kernel
theorem dX7_check_43 : decode cX7_check 43 = .ok (.iload_n 2, 1) := by decide +kernel
theorem dX7_check_44 : decode cX7_check 44 = .ok (.iaload, 1) := by decide +kernel
theorem dX7_check_45 : decode cX7_check 45 = .ok (.putfield 159, 3) := by decide +kernel
theorem dX7_check_48 : decode cX7_check 48 = .ok (.aload_n 0, 1) := by decide +kernel
theorem dX7_check_49 : decode cX7_check 49 = .ok (.iload_n 2, 1) := by decide +kernel
theorem dX7_check_50 : decode cX7_check 50 = .ok (.invokevirtual 221, 3) := by decide +kernel
theorem dX7_check_53 : decode cX7_check 53 = .ok (.istore 4, 2) := by decide +kernel
theorem dX7_check_55 : decode cX7_check 55 = .ok (.aload_n 0, 1) := by decide +kernel
theorem dX7_check_56 : decode cX7_check 56 = .ok (.iload_n 3, 1) := by decide +kernel
theorem dX7_check_57 : decode cX7_check 57 = .ok (.putfield 159, 3) := by decide +kernel
theorem dX7_check_60 : decode cX7_check 60 = .ok (.iload_n 1, 1) := by decide +kernel
theorem dX7_check_61 : decode cX7_check 61 = .ok (.iload 4, 2) := by decide +kernel
theorem dX7_check_63 : decode cX7_check 63 = .ok (.ifCond .eq 7, 3) := by decide +kernel
theorem dX7_check_66 : decode cX7_check 66 = .ok (.iconst 0, 1) := by decide +kernel
theorem dX7_check_67 : decode cX7_check 67 = .ok (.goto 4, 3) := by decide +kernel
theorem dX7_check_70 : decode cX7_check 70 = .ok (.iconst 1, 1) := by decide +kernel
theorem dX7_check_71 : decode cX7_check 71 = .ok (.iadd, 1) := by decide +kernel
theorem dX7_check_72 : decode cX7_check 72 = .ok (.istore_n 1, 1) := by decide +kernel
theorem dX7_check_73 : decode cX7_check 73 = .ok (.iinc 2 1, 3) := by decide +kernel
theorem dX7_check_76 : decode cX7_check 76 = .ok (.goto (-67), 3) := by decide +kernel
theorem dX7_check_79 : decode cX7_check 79 = .ok (.iload_n 1, 1) := by decide +kernel
theorem dX7_check_80 : decode cX7_check 80 = .ok (.ireturn, 1) := by decide +kernel
theorem dX7_codesAs_0 : decode cX7_codesAs 0 = .ok (.iconst 0, 1) := by decide +kernel
theorem dX7_codesAs_1 : decode cX7_codesAs 1 = .ok (.istore_n 2, 1) := by decide +kernel
theorem dX7_codesAs_2 : decode cX7_codesAs 2 = .ok (.iload_n 2, 1) := by decide +kernel
theorem dX7_codesAs_3 : decode cX7_codesAs 3 = .ok (.bipush 40, 2) := by decide +kernel
theorem dX7_codesAs_5 : decode cX7_codesAs 5 = .ok (.if_icmp .ge 45, 3) := by decide +kernel
theorem dX7_codesAs_8 : decode cX7_codesAs 8 = .ok (.aload_n 0, 1) := by decide +kernel
theorem dX7_codesAs_9 : decode cX7_codesAs 9 = .ok (.getfield 80, 3) := by decide +kernel
theorem dX7_codesAs_12 : decode cX7_codesAs 12 = .ok (.iload_n 2, 1) := by decide +kernel
theorem dX7_codesAs_13 : decode cX7_codesAs 13 = .ok (.aload_n 0, 1) := by decide +kernel
theorem dX7_codesAs_14 : decode cX7_codesAs 14 = .ok (.getfield 68, 3) := by decide +kernel
theorem dX7_codesAs_17 : decode cX7_codesAs 17 = .ok (.iload_n 2, 1) := by decide +kernel
theorem dX7_codesAs_18 : decode cX7_codesAs 18 = .ok (.iaload, 1) := by decide +kernel
theorem dX7_codesAs_19 : decode cX7_codesAs 19 = .ok (.iastore, 1) := by decide +kernel
theorem dX7_codesAs_20 : decode cX7_codesAs 20 = .ok (.aload_n 0, 1) := by decide +kernel
theorem dX7_codesAs_21 : decode cX7_codesAs 21 = .ok (.getfield 83, 3) := by decide +kernel
theorem dX7_codesAs_24 : decode cX7_codesAs 24 = .ok (.iload_n 2, 1) := by decide +kernel
theorem dX7_codesAs_25 : decode cX7_codesAs 25 = .ok (.aload_n 0, 1) := by decide +kernel
theorem dX7_codesAs_26 : decode cX7_codesAs 26 = .ok (.getfield 71, 3) := by decide +kernel
theorem dX7_codesAs_29 : decode cX7_codesAs 29 = .ok (.iload_n 2, 1) := by decide +kernel
theorem dX7_codesAs_30 : decode cX7_codesAs 30 = .ok (.iaload, 1) := by decide +kernel
theorem dX7_codesAs_31 : decode cX7_codesAs 31 = .ok (.iastore, 1) := by decide +kernel
theorem dX7_codesAs_32 : decode cX7_codesAs 32 = .ok (.aload_n 0, 1) := by decide +kernel
theorem dX7_codesAs_33 : decode cX7_codesAs 33 = .ok (.getfield 86, 3) := by decide +kernel
theorem dX7_codesAs_36 : decode cX7_codesAs 36 = .ok (.iload_n 2, 1) := by decide +kernel
theorem dX7_codesAs_37 : decode cX7_codesAs 37 = .ok (.aload_n 0, 1) := by decide +kernel
theorem dX7_codesAs_38 : decode cX7_codesAs 38 = .ok (.getfield 74, 3) := by decide +kernel
theorem dX7_codesAs_41 : decode cX7_codesAs 41 = .ok (.iload_n 2, 1) := by decide +kernel
theorem dX7_codesAs_42 : decode cX7_codesAs 42 = .ok (.iaload, 1) := by decide +kernel
theorem dX7_codesAs_43 : decode cX7_codesAs 43 = .ok (.iastore, 1) := by decide +kernel
theorem dX7_codesAs_44 : decode cX7_codesAs 44 = .ok (.iinc 2 1, 3) := by decide +kernel
theorem dX7_codesAs_47 : decode cX7_codesAs 47 = .ok (.goto (-45), 3) := by decide +kernel
theorem dX7_codesAs_50 : decode cX7_codesAs 50 = .ok (.iconst 0, 1) := by decide +kernel
theorem dX7_codesAs_51 : decode cX7_codesAs 51 = .ok (.istore_n 2, 1) := by decide +kernel
theorem dX7_codesAs_52 : decode cX7_codesAs 52 = .ok (.iload_n 2, 1) := by decide +kernel
theorem dX7_codesAs_53 : decode cX7_codesAs 53 = .ok (.aload_n 0, 1) := by decide +kernel
theorem dX7_codesAs_54 : decode cX7_codesAs 54 = .ok (.getfield 34, 3) := by decide +kernel
theorem dX7_codesAs_57 : decode cX7_codesAs 57 = .ok (.iload_n 1, 1) := by decide +kernel
theorem dX7_codesAs_58 : decode cX7_codesAs 58 = .ok (.iaload, 1) := by decide +kernel
theorem dX7_codesAs_59 : decode cX7_codesAs 59 = .ok (.if_icmp .ge 60, 3) := by decide +kernel
theorem dX7_codesAs_62 : decode cX7_codesAs 62 = .ok (.aload_n 0, 1) := by decide +kernel
theorem dX7_codesAs_63 : decode cX7_codesAs 63 = .ok (.getfield 68, 3) := by decide +kernel
theorem dX7_codesAs_66 : decode cX7_codesAs 66 = .ok (.iload_n 2, 1) := by decide +kernel
theorem dX7_codesAs_67 : decode cX7_codesAs 67 = .ok (.aload_n 0, 1) := by decide +kernel
theorem dX7_codesAs_68 : decode cX7_codesAs 68 = .ok (.getfield 37, 3) := by decide +kernel
theorem dX7_codesAs_71 : decode cX7_codesAs 71 = .ok (.bipush 30, 2) := by decide +kernel
theorem dX7_codesAs_73 : decode cX7_codesAs 73 = .ok (.iload_n 1, 1) := by decide +kernel
theorem dX7_codesAs_74 : decode cX7_codesAs 74 = .ok (.imul, 1) := by decide +kernel
theorem dX7_codesAs_75 : decode cX7_codesAs 75 = .ok (.iload_n 2, 1) := by decide +kernel
theorem dX7_codesAs_76 : decode cX7_codesAs 76 = .ok (.iadd, 1) := by decide +kernel
theorem dX7_codesAs_77 : decode cX7_codesAs 77 = .ok (.iaload, 1) := by decide +kernel
theorem dX7_codesAs_78 : decode cX7_codesAs 78 = .ok (.iastore, 1) := by decide +kernel
theorem dX7_codesAs_79 : decode cX7_codesAs 79 = .ok (.aload_n 0, 1) := by decide +kernel
theorem dX7_codesAs_80 : decode cX7_codesAs 80 = .ok (.getfield 71, 3) := by decide +kernel
theorem dX7_codesAs_83 : decode cX7_codesAs 83 = .ok (.iload_n 2, 1) := by decide +kernel
theorem dX7_codesAs_84 : decode cX7_codesAs 84 = .ok (.aload_n 0, 1) := by decide +kernel
theorem dX7_codesAs_85 : decode cX7_codesAs 85 = .ok (.getfield 40, 3) := by decide +kernel
theorem dX7_codesAs_88 : decode cX7_codesAs 88 = .ok (.bipush 30, 2) := by decide +kernel
theorem dX7_codesAs_90 : decode cX7_codesAs 90 = .ok (.iload_n 1, 1) := by decide +kernel
theorem dX7_codesAs_91 : decode cX7_codesAs 91 = .ok (.imul, 1) := by decide +kernel
theorem dX7_codesAs_92 : decode cX7_codesAs 92 = .ok (.iload_n 2, 1) := by decide +kernel
theorem dX7_codesAs_93 : decode cX7_codesAs 93 = .ok (.iadd, 1) := by decide +kernel
theorem dX7_codesAs_94 : decode cX7_codesAs 94 = .ok (.iaload, 1) := by decide +kernel
theorem dX7_codesAs_95 : decode cX7_codesAs 95 = .ok (.iastore, 1) := by decide +kernel
theorem dX7_codesAs_96 : decode cX7_codesAs 96 = .ok (.aload_n 0, 1) := by decide +kernel
theorem dX7_codesAs_97 : decode cX7_codesAs 97 = .ok (.getfield 74, 3) := by decide +kernel
theorem dX7_codesAs_100 : decode cX7_codesAs 100 = .ok (.iload_n 2, 1) := by decide +kernel
theorem dX7_codesAs_101 : decode cX7_codesAs 101 = .ok (.aload_n 0, 1) := by decide +kernel
theorem dX7_codesAs_102 : decode cX7_codesAs 102 = .ok (.getfield 43, 3) := by decide +kernel
theorem dX7_codesAs_105 : decode cX7_codesAs 105 = .ok (.bipush 30, 2) := by decide +kernel
theorem dX7_codesAs_107 : decode cX7_codesAs 107 = .ok (.iload_n 1, 1) := by decide +kernel
theorem dX7_codesAs_108 : decode cX7_codesAs 108 = .ok (.imul, 1) := by decide +kernel
theorem dX7_codesAs_109 : decode cX7_codesAs 109 = .ok (.iload_n 2, 1) := by decide +kernel
theorem dX7_codesAs_110 : decode cX7_codesAs 110 = .ok (.iadd, 1) := by decide +kernel
theorem dX7_codesAs_111 : decode cX7_codesAs 111 = .ok (.iaload, 1) := by decide +kernel
theorem dX7_codesAs_112 : decode cX7_codesAs 112 = .ok (.iastore, 1) := by decide +kernel
theorem dX7_codesAs_113 : decode cX7_codesAs 113 = .ok (.iinc 2 1, 3) := by decide +kernel
theorem dX7_codesAs_116 : decode cX7_codesAs 116 = .ok (.goto (-64), 3) := by decide +kernel
theorem dX7_codesAs_119 : decode cX7_codesAs 119 = .ok (.aload_n 0, 1) := by decide +kernel
theorem dX7_codesAs_120 : decode cX7_codesAs 120 = .ok (.invokevirtual 195, 3) := by decide +kernel
theorem dX7_codesAs_123 : decode cX7_codesAs 123 = .ok (.aload_n 0, 1) := by decide +kernel
theorem dX7_codesAs_124 : decode cX7_codesAs 124 = .ok (.getfield 189, 3) := by decide +kernel
theorem dX7_codesAs_127 : decode cX7_codesAs 127 = .ok (.aload_n 0, 1) := by decide +kernel
theorem dX7_codesAs_128 : decode cX7_codesAs 128 = .ok (.getfield 31, 3) := by decide +kernel
theorem dX7_codesAs_131 : decode cX7_codesAs 131 = .ok (.iload_n 1, 1) := by decide +kernel
theorem dX7_codesAs_132 : decode cX7_codesAs 132 = .ok (.iaload, 1) := by decide +kernel
theorem dX7_codesAs_133 : decode cX7_codesAs 133 = .ok (.if_icmp .ne 7, 3) := by decide +kernel
theorem dX7_codesAs_136 : decode cX7_codesAs 136 = .ok (.iconst 1, 1) := by decide +kernel
theorem dX7_codesAs_137 : decode cX7_codesAs 137 = .ok (.goto 4, 3) := by decide +kernel
theorem dX7_codesAs_140 : decode cX7_codesAs 140 = .ok (.iconst 0, 1) := by decide +kernel
theorem dX7_codesAs_141 : decode cX7_codesAs 141 = .ok (.istore_n 2, 1) := by decide +kernel
theorem dX7_codesAs_142 : decode cX7_codesAs 142 = .ok (.iconst 0, 1) := by decide +kernel
theorem dX7_codesAs_143 : decode cX7_codesAs 143 = .ok (.istore_n 3, 1) := by decide +kernel
theorem dX7_codesAs_144 : decode cX7_codesAs 144 = .ok (.iload_n 3, 1) := by decide +kernel
theorem dX7_codesAs_145 : decode cX7_codesAs 145 = .ok (.aload_n 0, 1) := by decide +kernel
theorem dX7_codesAs_146 : decode cX7_codesAs 146 = .ok (.getfield 189, 3) := by decide +kernel
theorem dX7_codesAs_149 : decode cX7_codesAs 149 = .ok (.if_icmp .ge 41, 3) := by decide +kernel
theorem dX7_codesAs_152 : decode cX7_codesAs 152 = .ok (.iload_n 2, 1) := by decide +kernel
theorem dX7_codesAs_153 : decode cX7_codesAs 153 = .ok (.ifCond .eq 37, 3) := by decide +kernel
theorem dX7_codesAs_156 : decode cX7_codesAs 156 = .ok (.aload_n 0, 1) := by decide +kernel
theorem dX7_codesAs_157 : decode cX7_codesAs 157 = .ok (.getfield 46, 3) := by decide +kernel
theorem dX7_codesAs_160 : decode cX7_codesAs 160 = .ok (.aload_n 0, 1) := by decide +kernel
theorem dX7_codesAs_161 : decode cX7_codesAs 161 = .ok (.getfield 28, 3) := by decide +kernel
theorem dX7_codesAs_164 : decode cX7_codesAs 164 = .ok (.iload_n 1, 1) := by decide +kernel
theorem dX7_codesAs_165 : decode cX7_codesAs 165 = .ok (.iaload, 1) := by decide +kernel
theorem dX7_codesAs_166 : decode cX7_codesAs 166 = .ok (.iload_n 3, 1) := by decide +kernel
theorem dX7_codesAs_167 : decode cX7_codesAs 167 = .ok (.iadd, 1) := by decide +kernel
theorem dX7_codesAs_168 : decode cX7_codesAs 168 = .ok (.iaload, 1) := by decide +kernel
theorem dX7_codesAs_169 : decode cX7_codesAs 169 = .ok (.aload_n 0, 1) := by decide +kernel
theorem dX7_codesAs_170 : decode cX7_codesAs 170 = .ok (.getfield 77, 3) := by decide +kernel
theorem dX7_codesAs_173 : decode cX7_codesAs 173 = .ok (.iload_n 3, 1) := by decide +kernel
theorem dX7_codesAs_174 : decode cX7_codesAs 174 = .ok (.iaload, 1) := by decide +kernel
theorem dX7_codesAs_175 : decode cX7_codesAs 175 = .ok (.if_icmp .ne 7, 3) := by decide +kernel
theorem dX7_codesAs_178 : decode cX7_codesAs 178 = .ok (.iconst 1, 1) := by decide +kernel
theorem dX7_codesAs_179 : decode cX7_codesAs 179 = .ok (.goto 4, 3) := by decide +kernel
theorem dX7_codesAs_182 : decode cX7_codesAs 182 = .ok (.iconst 0, 1) := by decide +kernel
theorem dX7_codesAs_183 : decode cX7_codesAs 183 = .ok (.istore_n 2, 1) := by decide +kernel
theorem dX7_codesAs_184 : decode cX7_codesAs 184 = .ok (.iinc 3 1, 3) := by decide +kernel
theorem dX7_codesAs_187 : decode cX7_codesAs 187 = .ok (.goto (-43), 3) := by decide +kernel
theorem dX7_codesAs_190 : decode cX7_codesAs 190 = .ok (.iconst 0, 1) := by decide +kernel
theorem dX7_codesAs_191 : decode cX7_codesAs 191 = .ok (.istore_n 3, 1) := by decide +kernel
theorem dX7_codesAs_192 : decode cX7_codesAs 192 = .ok (.iload_n 3, 1) := by decide +kernel
theorem dX7_codesAs_193 : decode cX7_codesAs 193 = .ok (.bipush 40, 2) := by decide +kernel
theorem dX7_codesAs_195 : decode cX7_codesAs 195 = .ok (.if_icmp .ge 45, 3) := by decide +kernel
theorem dX7_codesAs_198 : decode cX7_codesAs 198 = .ok (.aload_n 0, 1) := by decide +kernel
theorem dX7_codesAs_199 : decode cX7_codesAs 199 = .ok (.getfield 68, 3) := by decide +kernel
theorem dX7_codesAs_202 : decode cX7_codesAs 202 = .ok (.iload_n 3, 1) := by decide +kernel
theorem dX7_codesAs_203 : decode cX7_codesAs 203 = .ok (.aload_n 0, 1) := by decide +kernel
theorem dX7_codesAs_204 : decode cX7_codesAs 204 = .ok (.getfield 80, 3) := by decide +kernel
theorem dX7_codesAs_207 : decode cX7_codesAs 207 = .ok (.iload_n 3, 1) := by decide +kernel
theorem dX7_codesAs_208 : decode cX7_codesAs 208 = .ok (.iaload, 1) := by decide +kernel
theorem dX7_codesAs_209 : decode cX7_codesAs 209 = .ok (.iastore, 1) := by decide +kernel
theorem dX7_codesAs_210 : decode cX7_codesAs 210 = .ok (.aload_n 0, 1) := by decide +kernel
theorem dX7_codesAs_211 : decode cX7_codesAs 211 = .ok (.getfield 71, 3) := by decide +kernel
theorem dX7_codesAs_214 : decode cX7_codesAs 214 = .ok (.iload_n 3, 1) := by decide +kernel
theorem dX7_codesAs_215 : decode cX7_codesAs 215 = .ok (.aload_n 0, 1) := by decide +kernel
theorem dX7_codesAs_216 : decode cX7_codesAs 216 = .ok (.getfield 83, 3) := by decide +kernel
theorem dX7_codesAs_219 : decode cX7_codesAs 219 = .ok (.iload_n 3, 1) := by decide +kernel
theorem dX7_codesAs_220 : decode cX7_codesAs 220 = .ok (.iaload, 1) := by decide +kernel
theorem dX7_codesAs_221 : decode cX7_codesAs 221 = .ok (.iastore, 1) := by decide +kernel
theorem dX7_codesAs_222 : decode cX7_codesAs 222 = .ok (.aload_n 0, 1) := by decide +kernel
theorem dX7_codesAs_223 : decode cX7_codesAs 223 = .ok (.getfield 74, 3) := by decide +kernel
theorem dX7_codesAs_226 : decode cX7_codesAs 226 = .ok (.iload_n 3, 1) := by decide +kernel
theorem dX7_codesAs_227 : decode cX7_codesAs 227 = .ok (.aload_n 0, 1) := by decide +kernel
theorem dX7_codesAs_228 : decode cX7_codesAs 228 = .ok (.getfield 86, 3) := by decide +kernel
theorem dX7_codesAs_231 : decode cX7_codesAs 231 = .ok (.iload_n 3, 1) := by decide +kernel
theorem dX7_codesAs_232 : decode cX7_codesAs 232 = .ok (.iaload, 1) := by decide +kernel
theorem dX7_codesAs_233 : decode cX7_codesAs 233 = .ok (.iastore, 1) := by decide +kernel
theorem dX7_codesAs_234 : decode cX7_codesAs 234 = .ok (.iinc 3 1, 3) := by decide +kernel
theorem dX7_codesAs_237 : decode cX7_codesAs 237 = .ok (.goto (-45), 3) := by decide +kernel
theorem dX7_codesAs_240 : decode cX7_codesAs 240 = .ok (.iload_n 2, 1) := by decide +kernel
theorem dX7_codesAs_241 : decode cX7_codesAs 241 = .ok (.ireturn, 1) := by decide +kernel
theorem dJ9_max_7cf53_0 : decode cJ9_max_7cf53 0 = .ok (.iload_n 0, 1) := by decide +kernel
theorem dJ9_max_7cf53_1 : decode cJ9_max_7cf53 1 = .ok (.iload_n 1, 1) := by decide +kernel
theorem dJ9_max_7cf53_2 : decode cJ9_max_7cf53 2 = .ok (.if_icmp .lt 7, 3) := by decide +kernel
theorem dJ9_max_7cf53_5 : decode cJ9_max_7cf53 5 = .ok (.iload_n 0, 1) := by decide +kernel
theorem dJ9_max_7cf53_6 : decode cJ9_max_7cf53 6 = .ok (.goto 4, 3) := by decide +kernel
theorem dJ9_max_7cf53_9 : decode cJ9_max_7cf53 9 = .ok (.iload_n 1, 1) := by decide +kernel
theorem dJ9_max_7cf53_10 : decode cJ9_max_7cf53 10 = .ok (.ireturn, 1) := by decide +kernel
theorem dJ9_min_7cf53_0 : decode cJ9_min_7cf53 0 = .ok (.iload_n 0, 1) := by decide +kernel
theorem dJ9_min_7cf53_1 : decode cJ9_min_7cf53 1 = .ok (.iload_n 1, 1) := by decide +kernel
theorem dJ9_min_7cf53_2 : decode cJ9_min_7cf53 2 = .ok (.if_icmp .gt 7, 3) := by decide +kernel
theorem dJ9_min_7cf53_5 : decode cJ9_min_7cf53 5 = .ok (.iload_n 0, 1) := by decide +kernel
theorem dJ9_min_7cf53_6 : decode cJ9_min_7cf53 6 = .ok (.goto 4, 3) := by decide +kernel
theorem dJ9_min_7cf53_9 : decode cJ9_min_7cf53 9 = .ok (.iload_n 1, 1) := by decide +kernel
theorem dJ9_min_7cf53_10 : decode cJ9_min_7cf53 10 = .ok (.ireturn, 1) := by decide +kernel
theorem dJxa1e45_init_da8c8_0 : decode cJxa1e45_init_da8c8 0 = .ok (.aload_n 0, 1) := by decide +kernel
theorem dJxa1e45_init_da8c8_1 : decode cJxa1e45_init_da8c8 1 = .ok (.invokespecial 1, 3) := by decide +kernel
theorem dJxa1e45_init_da8c8_4 : decode cJxa1e45_init_da8c8 4 = .ok (.return_, 1) := by decide +kernel
theorem dJxc12de_init_da8c8_0 : decode cJxc12de_init_da8c8 0 = .ok (.aload_n 0, 1) := by decide +kernel
theorem dJxc12de_init_da8c8_1 : decode cJxc12de_init_da8c8 1 = .ok (.invokespecial 1, 3) := by decide +kernel
theorem dJxc12de_init_da8c8_4 : decode cJxc12de_init_da8c8 4 = .ok (.aload_n 0, 1) := by decide +kernel
theorem dJxc12de_init_da8c8_5 : decode cJxc12de_init_da8c8 5 = .ok (.iconst 0, 1) := by decide +kernel
theorem dJxc12de_init_da8c8_6 : decode cJxc12de_init_da8c8 6 = .ok (.putfield 7, 3) := by decide +kernel
theorem dJxc12de_init_da8c8_9 : decode cJxc12de_init_da8c8 9 = .ok (.return_, 1) := by decide +kernel
theorem dJx4a65c_init_da8c8_0 : decode cJx4a65c_init_da8c8 0 = .ok (.aload_n 0, 1) := by decide +kernel
theorem dJx4a65c_init_da8c8_1 : decode cJx4a65c_init_da8c8 1 = .ok (.invokespecial 1, 3) := by decide +kernel
theorem dJx4a65c_init_da8c8_4 : decode cJx4a65c_init_da8c8 4 = .ok (.aload_n 0, 1) := by decide +kernel
theorem dJx4a65c_init_da8c8_5 : decode cJx4a65c_init_da8c8 5 = .ok (.getstatic 39, 3) := by decide +kernel
theorem dJx4a65c_init_da8c8_8 : decode cJx4a65c_init_da8c8 8 = .ok (.putfield 9, 3) := by decide +kernel
theorem dJx4a65c_init_da8c8_11 : decode cJx4a65c_init_da8c8 11 = .ok (.return_, 1) := by decide +kernel
theorem dJx4a65c_grow_92f84_0 : decode cJx4a65c_grow_92f84 0 = .ok (.aload_n 0, 1) := by decide +kernel
theorem dJx4a65c_grow_92f84_1 : decode cJx4a65c_grow_92f84 1 = .ok (.getfield 9, 3) := by decide +kernel
theorem dJx4a65c_grow_92f84_4 : decode cJx4a65c_grow_92f84 4 = .ok (.arraylength, 1) := by decide +kernel
theorem dJx4a65c_grow_92f84_5 : decode cJx4a65c_grow_92f84 5 = .ok (.istore_n 2, 1) := by decide +kernel
theorem dJx4a65c_grow_92f84_6 : decode cJx4a65c_grow_92f84 6 = .ok (.iload_n 2, 1) := by decide +kernel
theorem dJx4a65c_grow_92f84_7 : decode cJx4a65c_grow_92f84 7 = .ok (.ifCond .gt 13, 3) := by decide +kernel
theorem dJx4a65c_grow_92f84_10 : decode cJx4a65c_grow_92f84 10 = .ok (.aload_n 0, 1) := by decide +kernel
theorem dJx4a65c_grow_92f84_11 : decode cJx4a65c_grow_92f84 11 = .ok (.getfield 9, 3) := by decide +kernel
theorem dJx4a65c_grow_92f84_14 : decode cJx4a65c_grow_92f84 14 = .ok (.getstatic 39, 3) := by decide +kernel
theorem dJx4a65c_grow_92f84_17 : decode cJx4a65c_grow_92f84 17 = .ok (.if_acmp .eq 28, 3) := by decide +kernel
theorem dJx4a65c_grow_92f84_20 : decode cJx4a65c_grow_92f84 20 = .ok (.iload_n 2, 1) := by decide +kernel
theorem dJx4a65c_grow_92f84_21 : decode cJx4a65c_grow_92f84 21 = .ok (.iload_n 1, 1) := by decide +kernel
theorem dJx4a65c_grow_92f84_22 : decode cJx4a65c_grow_92f84 22 = .ok (.iload_n 2, 1) := by decide +kernel
theorem dJx4a65c_grow_92f84_23 : decode cJx4a65c_grow_92f84 23 = .ok (.isub, 1) := by decide +kernel
theorem dJx4a65c_grow_92f84_24 : decode cJx4a65c_grow_92f84 24 = .ok (.iload_n 2, 1) := by decide +kernel
theorem dJx4a65c_grow_92f84_25 : decode cJx4a65c_grow_92f84 25 = .ok (.iconst 1, 1) := by decide +kernel
theorem dJx4a65c_grow_92f84_26 : decode cJx4a65c_grow_92f84 26 = .ok (.ishr, 1) := by decide +kernel
theorem dJx4a65c_grow_92f84_27 : decode cJx4a65c_grow_92f84 27 = .ok (.invokestatic 73, 3) := by decide +kernel
theorem dJx4a65c_grow_92f84_30 : decode cJx4a65c_grow_92f84 30 = .ok (.istore_n 3, 1) := by decide +kernel
theorem dJx4a65c_grow_92f84_31 : decode cJx4a65c_grow_92f84 31 = .ok (.aload_n 0, 1) := by decide +kernel
theorem dJx4a65c_grow_92f84_32 : decode cJx4a65c_grow_92f84 32 = .ok (.aload_n 0, 1) := by decide +kernel
theorem dJx4a65c_grow_92f84_33 : decode cJx4a65c_grow_92f84 33 = .ok (.getfield 9, 3) := by decide +kernel
theorem dJx4a65c_grow_92f84_36 : decode cJx4a65c_grow_92f84 36 = .ok (.iload_n 3, 1) := by decide +kernel
theorem dJx4a65c_grow_92f84_37 : decode cJx4a65c_grow_92f84 37 = .ok (.invokestatic 66, 3) := by decide +kernel
theorem dJx4a65c_grow_92f84_40 : decode cJx4a65c_grow_92f84 40 = .ok (.dup_x1, 1) := by decide +kernel
theorem dJx4a65c_grow_92f84_41 : decode cJx4a65c_grow_92f84 41 = .ok (.putfield 9, 3) := by decide +kernel
theorem dJx4a65c_grow_92f84_44 : decode cJx4a65c_grow_92f84 44 = .ok (.areturn, 1) := by decide +kernel
theorem dJx4a65c_grow_92f84_45 : decode cJx4a65c_grow_92f84 45 = .ok (.aload_n 0, 1) := by decide +kernel
theorem dJx4a65c_grow_92f84_46 : decode cJx4a65c_grow_92f84 46 = .ok (.bipush 10, 2) := by decide +kernel
theorem dJx4a65c_grow_92f84_48 : decode cJx4a65c_grow_92f84 48 = .ok (.iload_n 1, 1) := by decide +kernel
theorem dJx4a65c_grow_92f84_49 : decode cJx4a65c_grow_92f84 49 = .ok (.invokestatic 79, 3) := by decide +kernel
theorem dJx4a65c_grow_92f84_52 : decode cJx4a65c_grow_92f84 52 = .ok (.anewarray 7, 3) := by decide +kernel
theorem dJx4a65c_grow_92f84_55 : decode cJx4a65c_grow_92f84 55 = .ok (.dup_x1, 1) := by decide +kernel
theorem dJx4a65c_grow_92f84_56 : decode cJx4a65c_grow_92f84 56 = .ok (.putfield 9, 3) := by decide +kernel
theorem dJx4a65c_grow_92f84_59 : decode cJx4a65c_grow_92f84 59 = .ok (.areturn, 1) := by decide +kernel
theorem dJx4a65c_grow_d5877_0 : decode cJx4a65c_grow_d5877 0 = .ok (.aload_n 0, 1) := by decide +kernel
theorem dJx4a65c_grow_d5877_1 : decode cJx4a65c_grow_d5877 1 = .ok (.aload_n 0, 1) := by decide +kernel
theorem dJx4a65c_grow_d5877_2 : decode cJx4a65c_grow_d5877 2 = .ok (.getfield 48, 3) := by decide +kernel
theorem dJx4a65c_grow_d5877_5 : decode cJx4a65c_grow_d5877 5 = .ok (.iconst 1, 1) := by decide +kernel
theorem dJx4a65c_grow_d5877_6 : decode cJx4a65c_grow_d5877 6 = .ok (.iadd, 1) := by decide +kernel
theorem dJx4a65c_grow_d5877_7 : decode cJx4a65c_grow_d5877 7 = .ok (.invokevirtual 69, 3) := by decide +kernel
theorem dJx4a65c_grow_d5877_10 : decode cJx4a65c_grow_d5877 10 = .ok (.areturn, 1) := by decide +kernel
theorem dJx4a65c_size_8abf5_0 : decode cJx4a65c_size_8abf5 0 = .ok (.aload_n 0, 1) := by decide +kernel
theorem dJx4a65c_size_8abf5_1 : decode cJx4a65c_size_8abf5 1 = .ok (.getfield 48, 3) := by decide +kernel
theorem dJx4a65c_size_8abf5_4 : decode cJx4a65c_size_8abf5 4 = .ok (.ireturn, 1) := by decide +kernel
theorem dJx4a65c_elementData_915e3_0 : decode cJx4a65c_elementData_915e3 0 = .ok (.aload_n 0, 1) := by decide +kernel
theorem dJx4a65c_elementData_915e3_1 : decode cJx4a65c_elementData_915e3 1 = .ok (.getfield 9, 3) := by decide +kernel
theorem dJx4a65c_elementData_915e3_4 : decode cJx4a65c_elementData_915e3 4 = .ok (.iload_n 1, 1) := by decide +kernel
theorem dJx4a65c_elementData_915e3_5 : decode cJx4a65c_elementData_915e3 5 = .ok (.aaload, 1) := by decide +kernel
theorem dJx4a65c_elementData_915e3_6 : decode cJx4a65c_elementData_915e3 6 = .ok (.areturn, 1) := by decide +kernel
theorem dJx4a65c_get_915e3_0 : decode cJx4a65c_get_915e3 0 = .ok (.iload_n 1, 1) := by decide +kernel
theorem dJx4a65c_get_915e3_1 : decode cJx4a65c_get_915e3 1 = .ok (.aload_n 0, 1) := by decide +kernel
theorem dJx4a65c_get_915e3_2 : decode cJx4a65c_get_915e3 2 = .ok (.getfield 48, 3) := by decide +kernel
theorem dJx4a65c_get_915e3_5 : decode cJx4a65c_get_915e3 5 = .ok (.invokestatic 118, 3) := by decide +kernel
theorem dJx4a65c_get_915e3_8 : decode cJx4a65c_get_915e3 8 = .ok (.pop, 1) := by decide +kernel
theorem dJx4a65c_get_915e3_9 : decode cJx4a65c_get_915e3 9 = .ok (.aload_n 0, 1) := by decide +kernel
theorem dJx4a65c_get_915e3_10 : decode cJx4a65c_get_915e3 10 = .ok (.iload_n 1, 1) := by decide +kernel
theorem dJx4a65c_get_915e3_11 : decode cJx4a65c_get_915e3 11 = .ok (.invokevirtual 123, 3) := by decide +kernel
theorem dJx4a65c_get_915e3_14 : decode cJx4a65c_get_915e3 14 = .ok (.areturn, 1) := by decide +kernel
theorem dJx4a65c_add_7a177_0 : decode cJx4a65c_add_7a177 0 = .ok (.aload_n 0, 1) := by decide +kernel
theorem dJx4a65c_add_7a177_1 : decode cJx4a65c_add_7a177 1 = .ok (.iload_n 1, 1) := by decide +kernel
theorem dJx4a65c_add_7a177_2 : decode cJx4a65c_add_7a177 2 = .ok (.invokevirtual 135, 3) := by decide +kernel
theorem dJx4a65c_add_7a177_5 : decode cJx4a65c_add_7a177 5 = .ok (.aload_n 0, 1) := by decide +kernel
theorem dJx4a65c_add_7a177_6 : decode cJx4a65c_add_7a177 6 = .ok (.dup, 1) := by decide +kernel
theorem dJx4a65c_add_7a177_7 : decode cJx4a65c_add_7a177 7 = .ok (.getfield 63, 3) := by decide +kernel
theorem dJx4a65c_add_7a177_10 : decode cJx4a65c_add_7a177 10 = .ok (.iconst 1, 1) := by decide +kernel
theorem dJx4a65c_add_7a177_11 : decode cJx4a65c_add_7a177 11 = .ok (.iadd, 1) := by decide +kernel
