theorem dX14_factor_11 : decode cX14_factor 11 = .ok (.iconst 0, 1) := by decide +kernel
theorem dX14_factor_12 : decode cX14_factor 12 = .ok (.aload_n 0, 1) := by decide +kernel
theorem dX14_factor_13 : decode cX14_factor 13 = .ok (.getfield 30, 3) := by decide +kernel
theorem dX14_factor_16 : decode cX14_factor 16 = .ok (.aload_n 0, 1) := by decide +kernel
theorem dX14_factor_17 : decode cX14_factor 17 = .ok (.getfield 204, 3) := by decide +kernel
theorem dX14_factor_20 : decode cX14_factor 20 = .ok (.laload, 1) := by decide +kernel
theorem dX14_factor_21 : decode cX14_factor 21 = .ok (.invokevirtual 247, 3) := by decide +kernel
theorem dX14_factor_24 : decode cX14_factor 24 = .ok (.aload_n 0, 1) := by decide +kernel
theorem dX14_factor_25 : decode cX14_factor 25 = .ok (.invokevirtual 226, 3) := by decide +kernel
theorem dX14_factor_28 : decode cX14_factor 28 = .ok (.goto 212, 3) := by decide +kernel
theorem dX14_factor_31 : decode cX14_factor 31 = .ok (.aload_n 0, 1) := by decide +kernel
theorem dX14_factor_32 : decode cX14_factor 32 = .ok (.sipush 200, 3) := by decide +kernel
theorem dX14_factor_35 : decode cX14_factor 35 = .ok (.invokevirtual 223, 3) := by decide +kernel
theorem dX14_factor_38 : decode cX14_factor 38 = .ok (.ifCond .eq 70, 3) := by decide +kernel
theorem dX14_factor_41 : decode cX14_factor 41 = .ok (.aload_n 0, 1) := by decide +kernel
theorem dX14_factor_42 : decode cX14_factor 42 = .ok (.getfield 212, 3) := by decide +kernel
theorem dX14_factor_45 : decode cX14_factor 45 = .ok (.ifCond .eq 23, 3) := by decide +kernel
theorem dX14_factor_48 : decode cX14_factor 48 = .ok (.aload_n 0, 1) := by decide +kernel
theorem dX14_factor_49 : decode cX14_factor 49 = .ok (.aload_n 0, 1) := by decide +kernel
theorem dX14_factor_50 : decode cX14_factor 50 = .ok (.getfield 270, 3) := by decide +kernel
theorem dX14_factor_53 : decode cX14_factor 53 = .ok (.aload_n 0, 1) := by decide +kernel
theorem dX14_factor_54 : decode cX14_factor 54 = .ok (.getfield 30, 3) := by decide +kernel
theorem dX14_factor_57 : decode cX14_factor 57 = .ok (.aload_n 0, 1) := by decide +kernel
theorem dX14_factor_58 : decode cX14_factor 58 = .ok (.getfield 204, 3) := by decide +kernel
theorem dX14_factor_61 : decode cX14_factor 61 = .ok (.laload, 1) := by decide +kernel
theorem dX14_factor_62 : decode cX14_factor 62 = .ok (.invokevirtual 273, 3) := by decide +kernel
theorem dX14_factor_65 : decode cX14_factor 65 = .ok (.goto 4, 3) := by decide +kernel
theorem dX14_factor_68 : decode cX14_factor 68 = .ok (.iconst 0, 1) := by decide +kernel
theorem dX14_factor_69 : decode cX14_factor 69 = .ok (.istore_n 1, 1) := by decide +kernel
theorem dX14_factor_70 : decode cX14_factor 70 = .ok (.aload_n 0, 1) := by decide +kernel
theorem dX14_factor_71 : decode cX14_factor 71 = .ok (.iload_n 1, 1) := by decide +kernel
theorem dX14_factor_72 : decode cX14_factor 72 = .ok (.iconst (-1), 1) := by decide +kernel
theorem dX14_factor_73 : decode cX14_factor 73 = .ok (.if_icmp .eq 7, 3) := by decide +kernel
theorem dX14_factor_76 : decode cX14_factor 76 = .ok (.iconst 1, 1) := by decide +kernel
theorem dX14_factor_77 : decode cX14_factor 77 = .ok (.goto 4, 3) := by decide +kernel
theorem dX14_factor_80 : decode cX14_factor 80 = .ok (.iconst 0, 1) := by decide +kernel
theorem dX14_factor_81 : decode cX14_factor 81 = .ok (.iconst 2, 1) := by decide +kernel
theorem dX14_factor_82 : decode cX14_factor 82 = .ok (.aload_n 0, 1) := by decide +kernel
theorem dX14_factor_83 : decode cX14_factor 83 = .ok (.getfield 27, 3) := by decide +kernel
theorem dX14_factor_86 : decode cX14_factor 86 = .ok (.aload_n 0, 1) := by decide +kernel
theorem dX14_factor_87 : decode cX14_factor 87 = .ok (.getfield 204, 3) := by decide +kernel
theorem dX14_factor_90 : decode cX14_factor 90 = .ok (.iaload, 1) := by decide +kernel
theorem dX14_factor_91 : decode cX14_factor 91 = .ok (.invokevirtual 277, 3) := by decide +kernel
theorem dX14_factor_94 : decode cX14_factor 94 = .ok (.aload_n 0, 1) := by decide +kernel
theorem dX14_factor_95 : decode cX14_factor 95 = .ok (.iconst 1, 1) := by decide +kernel
theorem dX14_factor_96 : decode cX14_factor 96 = .ok (.iload_n 1, 1) := by decide +kernel
theorem dX14_factor_97 : decode cX14_factor 97 = .ok (.i2l, 1) := by decide +kernel
theorem dX14_factor_98 : decode cX14_factor 98 = .ok (.invokevirtual 247, 3) := by decide +kernel
theorem dX14_factor_101 : decode cX14_factor 101 = .ok (.aload_n 0, 1) := by decide +kernel
theorem dX14_factor_102 : decode cX14_factor 102 = .ok (.invokevirtual 226, 3) := by decide +kernel
theorem dX14_factor_105 : decode cX14_factor 105 = .ok (.goto 135, 3) := by decide +kernel
theorem dX14_factor_108 : decode cX14_factor 108 = .ok (.aload_n 0, 1) := by decide +kernel
theorem dX14_factor_109 : decode cX14_factor 109 = .ok (.bipush 27, 2) := by decide +kernel
theorem dX14_factor_111 : decode cX14_factor 111 = .ok (.invokevirtual 223, 3) := by decide +kernel
theorem dX14_factor_114 : decode cX14_factor 114 = .ok (.ifCond .eq 16, 3) := by decide +kernel
theorem dX14_factor_117 : decode cX14_factor 117 = .ok (.aload_n 0, 1) := by decide +kernel
theorem dX14_factor_118 : decode cX14_factor 118 = .ok (.iconst 2, 1) := by decide +kernel
theorem dX14_factor_119 : decode cX14_factor 119 = .ok (.lconst 0, 1) := by decide +kernel
theorem dX14_factor_120 : decode cX14_factor 120 = .ok (.invokevirtual 247, 3) := by decide +kernel
theorem dX14_factor_123 : decode cX14_factor 123 = .ok (.aload_n 0, 1) := by decide +kernel
theorem dX14_factor_124 : decode cX14_factor 124 = .ok (.invokevirtual 226, 3) := by decide +kernel
theorem dX14_factor_127 : decode cX14_factor 127 = .ok (.goto 113, 3) := by decide +kernel
theorem dX14_factor_130 : decode cX14_factor 130 = .ok (.aload_n 0, 1) := by decide +kernel
theorem dX14_factor_131 : decode cX14_factor 131 = .ok (.bipush 100, 2) := by decide +kernel
theorem dX14_factor_133 : decode cX14_factor 133 = .ok (.invokevirtual 223, 3) := by decide +kernel
theorem dX14_factor_136 : decode cX14_factor 136 = .ok (.ifCond .eq 34, 3) := by decide +kernel
theorem dX14_factor_139 : decode cX14_factor 139 = .ok (.aload_n 0, 1) := by decide +kernel
theorem dX14_factor_140 : decode cX14_factor 140 = .ok (.invokevirtual 281, 3) := by decide +kernel
theorem dX14_factor_143 : decode cX14_factor 143 = .ok (.aload_n 0, 1) := by decide +kernel
theorem dX14_factor_144 : decode cX14_factor 144 = .ok (.invokevirtual 226, 3) := by decide +kernel
theorem dX14_factor_147 : decode cX14_factor 147 = .ok (.aload_n 0, 1) := by decide +kernel
theorem dX14_factor_148 : decode cX14_factor 148 = .ok (.invokevirtual 244, 3) := by decide +kernel
theorem dX14_factor_151 : decode cX14_factor 151 = .ok (.aload_n 0, 1) := by decide +kernel
theorem dX14_factor_152 : decode cX14_factor 152 = .ok (.bipush 101, 2) := by decide +kernel
theorem dX14_factor_154 : decode cX14_factor 154 = .ok (.invokevirtual 284, 3) := by decide +kernel
theorem dX14_factor_157 : decode cX14_factor 157 = .ok (.aload_n 0, 1) := by decide +kernel
theorem dX14_factor_158 : decode cX14_factor 158 = .ok (.dup, 1) := by decide +kernel
theorem dX14_factor_159 : decode cX14_factor 159 = .ok (.getfield 229, 3) := by decide +kernel
theorem dX14_factor_162 : decode cX14_factor 162 = .ok (.iconst 1, 1) := by decide +kernel
theorem dX14_factor_163 : decode cX14_factor 163 = .ok (.isub, 1) := by decide +kernel
theorem dX14_factor_164 : decode cX14_factor 164 = .ok (.putfield 229, 3) := by decide +kernel
theorem dX14_factor_167 : decode cX14_factor 167 = .ok (.goto 73, 3) := by decide +kernel
theorem dX14_factor_170 : decode cX14_factor 170 = .ok (.aload_n 0, 1) := by decide +kernel
theorem dX14_factor_171 : decode cX14_factor 171 = .ok (.bipush 106, 2) := by decide +kernel
theorem dX14_factor_173 : decode cX14_factor 173 = .ok (.invokevirtual 223, 3) := by decide +kernel
theorem dX14_factor_176 : decode cX14_factor 176 = .ok (.ifCond .ne 12, 3) := by decide +kernel
theorem dX14_factor_179 : decode cX14_factor 179 = .ok (.aload_n 0, 1) := by decide +kernel
theorem dX14_factor_180 : decode cX14_factor 180 = .ok (.bipush 30, 2) := by decide +kernel
theorem dX14_factor_182 : decode cX14_factor 182 = .ok (.invokevirtual 223, 3) := by decide +kernel
theorem dX14_factor_185 : decode cX14_factor 185 = .ok (.ifCond .eq 51, 3) := by decide +kernel
theorem dX14_factor_188 : decode cX14_factor 188 = .ok (.aload_n 0, 1) := by decide +kernel
theorem dX14_factor_189 : decode cX14_factor 189 = .ok (.bipush 106, 2) := by decide +kernel
theorem dX14_factor_191 : decode cX14_factor 191 = .ok (.invokevirtual 223, 3) := by decide +kernel
theorem dX14_factor_194 : decode cX14_factor 194 = .ok (.ifCond .eq 8, 3) := by decide +kernel
theorem dX14_factor_197 : decode cX14_factor 197 = .ok (.bipush 41, 2) := by decide +kernel
theorem dX14_factor_199 : decode cX14_factor 199 = .ok (.goto 5, 3) := by decide +kernel
theorem dX14_factor_202 : decode cX14_factor 202 = .ok (.bipush 40, 2) := by decide +kernel
theorem dX14_factor_204 : decode cX14_factor 204 = .ok (.istore_n 1, 1) := by decide +kernel
theorem dX14_factor_205 : decode cX14_factor 205 = .ok (.aload_n 0, 1) := by decide +kernel
theorem dX14_factor_206 : decode cX14_factor 206 = .ok (.invokevirtual 281, 3) := by decide +kernel
theorem dX14_factor_209 : decode cX14_factor 209 = .ok (.aload_n 0, 1) := by decide +kernel
theorem dX14_factor_210 : decode cX14_factor 210 = .ok (.invokevirtual 226, 3) := by decide +kernel
theorem dX14_factor_213 : decode cX14_factor 213 = .ok (.aload_n 0, 1) := by decide +kernel
theorem dX14_factor_214 : decode cX14_factor 214 = .ok (.invokevirtual 263, 3) := by decide +kernel
theorem dX14_factor_217 : decode cX14_factor 217 = .ok (.aload_n 0, 1) := by decide +kernel
theorem dX14_factor_218 : decode cX14_factor 218 = .ok (.dup, 1) := by decide +kernel
theorem dX14_factor_219 : decode cX14_factor 219 = .ok (.getfield 229, 3) := by decide +kernel
theorem dX14_factor_222 : decode cX14_factor 222 = .ok (.iconst 1, 1) := by decide +kernel
theorem dX14_factor_223 : decode cX14_factor 223 = .ok (.isub, 1) := by decide +kernel
theorem dX14_factor_224 : decode cX14_factor 224 = .ok (.putfield 229, 3) := by decide +kernel
theorem dX14_factor_227 : decode cX14_factor 227 = .ok (.aload_n 0, 1) := by decide +kernel
theorem dX14_factor_228 : decode cX14_factor 228 = .ok (.iload_n 1, 1) := by decide +kernel
theorem dX14_factor_229 : decode cX14_factor 229 = .ok (.lconst 0, 1) := by decide +kernel
theorem dX14_factor_230 : decode cX14_factor 230 = .ok (.invokevirtual 247, 3) := by decide +kernel
theorem dX14_factor_233 : decode cX14_factor 233 = .ok (.goto 7, 3) := by decide +kernel
theorem dX14_factor_236 : decode cX14_factor 236 = .ok (.aload_n 0, 1) := by decide +kernel
theorem dX14_factor_237 : decode cX14_factor 237 = .ok (.invokevirtual 286, 3) := by decide +kernel
theorem dX14_factor_240 : decode cX14_factor 240 = .ok (.return_, 1) := by decide +kernel
theorem dX14_function_0 : decode cX14_function 0 = .ok (.aload_n 0, 1) := by decide +kernel
theorem dX14_function_1 : decode cX14_function 1 = .ok (.getfield 24, 3) := by decide +kernel
theorem dX14_function_4 : decode cX14_function 4 = .ok (.aload_n 0, 1) := by decide +kernel
theorem dX14_function_5 : decode cX14_function 5 = .ok (.getfield 204, 3) := by decide +kernel
theorem dX14_function_8 : decode cX14_function 8 = .ok (.iaload, 1) := by decide +kernel
theorem dX14_function_9 : decode cX14_function 9 = .ok (.istore_n 1, 1) := by decide +kernel
theorem dX14_function_10 : decode cX14_function 10 = .ok (.aload_n 0, 1) := by decide +kernel
theorem dX14_function_11 : decode cX14_function 11 = .ok (.getfield 27, 3) := by decide +kernel
theorem dX14_function_14 : decode cX14_function 14 = .ok (.aload_n 0, 1) := by decide +kernel
theorem dX14_function_15 : decode cX14_function 15 = .ok (.getfield 204, 3) := by decide +kernel
theorem dX14_function_18 : decode cX14_function 18 = .ok (.iaload, 1) := by decide +kernel
theorem dX14_function_19 : decode cX14_function 19 = .ok (.istore_n 2, 1) := by decide +kernel
theorem dX14_function_20 : decode cX14_function 20 = .ok (.iload_n 1, 1) := by decide +kernel
theorem dX14_function_21 : decode cX14_function 21 = .ok (.bipush 31, 2) := by decide +kernel
theorem dX14_function_23 : decode cX14_function 23 = .ok (.if_icmp .eq 20, 3) := by decide +kernel
theorem dX14_function_26 : decode cX14_function 26 = .ok (.iload_n 1, 1) := by decide +kernel
theorem dX14_function_27 : decode cX14_function 27 = .ok (.bipush 24, 2) := by decide +kernel
theorem dX14_function_29 : decode cX14_function 29 = .ok (.if_icmp .eq 14, 3) := by decide +kernel
theorem dX14_function_32 : decode cX14_function 32 = .ok (.iload_n 1, 1) := by decide +kernel
theorem dX14_function_33 : decode cX14_function 33 = .ok (.bipush 25, 2) := by decide +kernel
theorem dX14_function_35 : decode cX14_function 35 = .ok (.if_icmp .eq 8, 3) := by decide +kernel
theorem dX14_function_38 : decode cX14_function 38 = .ok (.aload_n 0, 1) := by decide +kernel
theorem dX14_function_39 : decode cX14_function 39 = .ok (.invokevirtual 219, 3) := by decide +kernel
theorem dX14_function_42 : decode cX14_function 42 = .ok (.athrow, 1) := by decide +kernel
theorem dX14_function_43 : decode cX14_function 43 = .ok (.aload_n 0, 1) := by decide +kernel
theorem dX14_function_44 : decode cX14_function 44 = .ok (.invokevirtual 226, 3) := by decide +kernel
theorem dX14_function_47 : decode cX14_function 47 = .ok (.aload_n 0, 1) := by decide +kernel
theorem dX14_function_48 : decode cX14_function 48 = .ok (.bipush 100, 2) := by decide +kernel
theorem dX14_function_50 : decode cX14_function 50 = .ok (.invokevirtual 223, 3) := by decide +kernel
theorem dX14_function_53 : decode cX14_function 53 = .ok (.ifCond .ne 8, 3) := by decide +kernel
theorem dX14_function_56 : decode cX14_function 56 = .ok (.aload_n 0, 1) := by decide +kernel
theorem dX14_function_57 : decode cX14_function 57 = .ok (.invokevirtual 219, 3) := by decide +kernel
theorem dX14_function_60 : decode cX14_function 60 = .ok (.athrow, 1) := by decide +kernel
theorem dX14_function_61 : decode cX14_function 61 = .ok (.aload_n 0, 1) := by decide +kernel
theorem dX14_function_62 : decode cX14_function 62 = .ok (.invokevirtual 281, 3) := by decide +kernel
theorem dX14_function_65 : decode cX14_function 65 = .ok (.aload_n 0, 1) := by decide +kernel
theorem dX14_function_66 : decode cX14_function 66 = .ok (.invokevirtual 226, 3) := by decide +kernel
theorem dX14_function_69 : decode cX14_function 69 = .ok (.iconst 0, 1) := by decide +kernel
theorem dX14_function_70 : decode cX14_function 70 = .ok (.istore_n 3, 1) := by decide +kernel
theorem dX14_function_71 : decode cX14_function 71 = .ok (.iconst 1, 1) := by decide +kernel
theorem dX14_function_72 : decode cX14_function 72 = .ok (.istore 4, 2) := by decide +kernel
theorem dX14_function_74 : decode cX14_function 74 = .ok (.iload 4, 2) := by decide +kernel
theorem dX14_function_76 : decode cX14_function 76 = .ok (.ifCond .eq 30, 3) := by decide +kernel
theorem dX14_function_79 : decode cX14_function 79 = .ok (.aload_n 0, 1) := by decide +kernel
theorem dX14_function_80 : decode cX14_function 80 = .ok (.invokevirtual 244, 3) := by decide +kernel
theorem dX14_function_83 : decode cX14_function 83 = .ok (.iinc 3 1, 3) := by decide +kernel
theorem dX14_function_86 : decode cX14_function 86 = .ok (.aload_n 0, 1) := by decide +kernel
theorem dX14_function_87 : decode cX14_function 87 = .ok (.bipush 102, 2) := by decide +kernel
theorem dX14_function_89 : decode cX14_function 89 = .ok (.invokevirtual 223, 3) := by decide +kernel
theorem dX14_function_92 : decode cX14_function 92 = .ok (.istore 4, 2) := by decide +kernel
theorem dX14_function_94 : decode cX14_function 94 = .ok (.iload 4, 2) := by decide +kernel
theorem dX14_function_96 : decode cX14_function 96 = .ok (.ifCond .eq (-22), 3) := by decide +kernel
theorem dX14_function_99 : decode cX14_function 99 = .ok (.aload_n 0, 1) := by decide +kernel
theorem dX14_function_100 : decode cX14_function 100 = .ok (.invokevirtual 226, 3) := by decide +kernel
theorem dX14_function_103 : decode cX14_function 103 = .ok (.goto (-29), 3) := by decide +kernel
theorem dX14_function_106 : decode cX14_function 106 = .ok (.aload_n 0, 1) := by decide +kernel
theorem dX14_function_107 : decode cX14_function 107 = .ok (.bipush 101, 2) := by decide +kernel
theorem dX14_function_109 : decode cX14_function 109 = .ok (.invokevirtual 284, 3) := by decide +kernel
theorem dX14_function_112 : decode cX14_function 112 = .ok (.aload_n 0, 1) := by decide +kernel
theorem dX14_function_113 : decode cX14_function 113 = .ok (.dup, 1) := by decide +kernel
theorem dX14_function_114 : decode cX14_function 114 = .ok (.getfield 229, 3) := by decide +kernel
theorem dX14_function_117 : decode cX14_function 117 = .ok (.iconst 1, 1) := by decide +kernel
theorem dX14_function_118 : decode cX14_function 118 = .ok (.isub, 1) := by decide +kernel
theorem dX14_function_119 : decode cX14_function 119 = .ok (.putfield 229, 3) := by decide +kernel
theorem dX14_function_122 : decode cX14_function 122 = .ok (.aload_n 0, 1) := by decide +kernel
theorem dX14_function_123 : decode cX14_function 123 = .ok (.iload_n 3, 1) := by decide +kernel
theorem dX14_function_124 : decode cX14_function 124 = .ok (.iload_n 1, 1) := by decide +kernel
theorem dX14_function_125 : decode cX14_function 125 = .ok (.bipush 31, 2) := by decide +kernel
theorem dX14_function_127 : decode cX14_function 127 = .ok (.if_icmp .ne 7, 3) := by decide +kernel
theorem dX14_function_130 : decode cX14_function 130 = .ok (.iconst 1, 1) := by decide +kernel
theorem dX14_function_131 : decode cX14_function 131 = .ok (.goto 4, 3) := by decide +kernel
theorem dX14_function_134 : decode cX14_function 134 = .ok (.iconst 2, 1) := by decide +kernel
theorem dX14_function_135 : decode cX14_function 135 = .ok (.if_icmp .ne 7, 3) := by decide +kernel
theorem dX14_function_138 : decode cX14_function 138 = .ok (.iconst 1, 1) := by decide +kernel
theorem dX14_function_139 : decode cX14_function 139 = .ok (.goto 4, 3) := by decide +kernel
theorem dX14_function_142 : decode cX14_function 142 = .ok (.iconst 0, 1) := by decide +kernel
theorem dX14_function_143 : decode cX14_function 143 = .ok (.iconst 3, 1) := by decide +kernel
theorem dX14_function_144 : decode cX14_function 144 = .ok (.iload_n 2, 1) := by decide +kernel
theorem dX14_function_145 : decode cX14_function 145 = .ok (.invokevirtual 277, 3) := by decide +kernel
theorem dX14_function_148 : decode cX14_function 148 = .ok (.aload_n 0, 1) := by decide +kernel
theorem dX14_function_149 : decode cX14_function 149 = .ok (.iload_n 1, 1) := by decide +kernel
theorem dX14_function_150 : decode cX14_function 150 = .ok (.bipush 31, 2) := by decide +kernel
theorem dX14_function_152 : decode cX14_function 152 = .ok (.if_icmp .ne 8, 3) := by decide +kernel
theorem dX14_function_155 : decode cX14_function 155 = .ok (.bipush 42, 2) := by decide +kernel
theorem dX14_function_157 : decode cX14_function 157 = .ok (.goto 16, 3) := by decide +kernel
theorem dX14_function_160 : decode cX14_function 160 = .ok (.iload_n 1, 1) := by decide +kernel
theorem dX14_function_161 : decode cX14_function 161 = .ok (.bipush 24, 2) := by decide +kernel
theorem dX14_function_163 : decode cX14_function 163 = .ok (.if_icmp .ne 8, 3) := by decide +kernel
theorem dX14_function_166 : decode cX14_function 166 = .ok (.bipush 32, 2) := by decide +kernel
theorem dX14_function_168 : decode cX14_function 168 = .ok (.goto 5, 3) := by decide +kernel
theorem dX14_function_171 : decode cX14_function 171 = .ok (.bipush 33, 2) := by decide +kernel
theorem dX14_function_173 : decode cX14_function 173 = .ok (.lconst 0, 1) := by decide +kernel
theorem dX14_function_174 : decode cX14_function 174 = .ok (.invokevirtual 247, 3) := by decide +kernel
theorem dX14_function_177 : decode cX14_function 177 = .ok (.return_, 1) := by decide +kernel
theorem dX14_columnOf_0 : decode cX14_columnOf 0 = .ok (.aload_n 0, 1) := by decide +kernel
theorem dX14_columnOf_1 : decode cX14_columnOf 1 = .ok (.getfield 232, 3) := by decide +kernel
theorem dX14_columnOf_4 : decode cX14_columnOf 4 = .ok (.getfield 289, 3) := by decide +kernel
theorem dX14_columnOf_7 : decode cX14_columnOf 7 = .ok (.bipush 6, 2) := by decide +kernel
theorem dX14_columnOf_9 : decode cX14_columnOf 9 = .ok (.iload_n 1, 1) := by decide +kernel
theorem dX14_columnOf_10 : decode cX14_columnOf 10 = .ok (.imul, 1) := by decide +kernel
theorem dX14_columnOf_11 : decode cX14_columnOf 11 = .ok (.aload_n 0, 1) := by decide +kernel
theorem dX14_columnOf_12 : decode cX14_columnOf 12 = .ok (.getfield 232, 3) := by decide +kernel
theorem dX14_columnOf_15 : decode cX14_columnOf 15 = .ok (.getfield 292, 3) := by decide +kernel
theorem dX14_columnOf_18 : decode cX14_columnOf 18 = .ok (.iload_n 1, 1) := by decide +kernel
theorem dX14_columnOf_19 : decode cX14_columnOf 19 = .ok (.iaload, 1) := by decide +kernel
theorem dX14_columnOf_20 : decode cX14_columnOf 20 = .ok (.lload_n 2, 1) := by decide +kernel
theorem dX14_columnOf_21 : decode cX14_columnOf 21 = .ok (.invokestatic 192, 3) := by decide +kernel
theorem dX14_columnOf_24 : decode cX14_columnOf 24 = .ok (.ireturn, 1) := by decide +kernel
theorem dX14_streamOf_0 : decode cX14_streamOf 0 = .ok (.aload_n 0, 1) := by decide +kernel
theorem dX14_streamOf_1 : decode cX14_streamOf 1 = .ok (.getfield 232, 3) := by decide +kernel
theorem dX14_streamOf_4 : decode cX14_streamOf 4 = .ok (.getfield 295, 3) := by decide +kernel
theorem dX14_streamOf_7 : decode cX14_streamOf 7 = .ok (.iconst 0, 1) := by decide +kernel
theorem dX14_streamOf_8 : decode cX14_streamOf 8 = .ok (.aload_n 0, 1) := by decide +kernel
theorem dX14_streamOf_9 : decode cX14_streamOf 9 = .ok (.getfield 232, 3) := by decide +kernel
theorem dX14_streamOf_12 : decode cX14_streamOf 12 = .ok (.getfield 298, 3) := by decide +kernel
theorem dX14_streamOf_15 : decode cX14_streamOf 15 = .ok (.lload_n 1, 1) := by decide +kernel
theorem dX14_streamOf_16 : decode cX14_streamOf 16 = .ok (.invokestatic 192, 3) := by decide +kernel
theorem dX14_streamOf_19 : decode cX14_streamOf 19 = .ok (.ireturn, 1) := by decide +kernel
theorem dX14_streamNamed_0 : decode cX14_streamNamed 0 = .ok (.aload_n 0, 1) := by decide +kernel
theorem dX14_streamNamed_1 : decode cX14_streamNamed 1 = .ok (.sipush 200, 3) := by decide +kernel
theorem dX14_streamNamed_4 : decode cX14_streamNamed 4 = .ok (.invokevirtual 223, 3) := by decide +kernel
theorem dX14_streamNamed_7 : decode cX14_streamNamed 7 = .ok (.ifCond .ne 8, 3) := by decide +kernel
theorem dX14_streamNamed_10 : decode cX14_streamNamed 10 = .ok (.aload_n 0, 1) := by decide +kernel
theorem dX14_streamNamed_11 : decode cX14_streamNamed 11 = .ok (.invokevirtual 219, 3) := by decide +kernel
theorem dX14_streamNamed_14 : decode cX14_streamNamed 14 = .ok (.athrow, 1) := by decide +kernel
theorem dX14_streamNamed_15 : decode cX14_streamNamed 15 = .ok (.aload_n 0, 1) := by decide +kernel
theorem dX14_streamNamed_16 : decode cX14_streamNamed 16 = .ok (.getfield 212, 3) := by decide +kernel
theorem dX14_streamNamed_19 : decode cX14_streamNamed 19 = .ok (.ifCond .eq 19, 3) := by decide +kernel
theorem dX14_streamNamed_22 : decode cX14_streamNamed 22 = .ok (.aload_n 0, 1) := by decide +kernel
theorem dX14_streamNamed_23 : decode cX14_streamNamed 23 = .ok (.aload_n 0, 1) := by decide +kernel
theorem dX14_streamNamed_24 : decode cX14_streamNamed 24 = .ok (.getfield 30, 3) := by decide +kernel
theorem dX14_streamNamed_27 : decode cX14_streamNamed 27 = .ok (.aload_n 0, 1) := by decide +kernel
theorem dX14_streamNamed_28 : decode cX14_streamNamed 28 = .ok (.getfield 204, 3) := by decide +kernel
theorem dX14_streamNamed_31 : decode cX14_streamNamed 31 = .ok (.laload, 1) := by decide +kernel
theorem dX14_streamNamed_32 : decode cX14_streamNamed 32 = .ok (.invokevirtual 301, 3) := by decide +kernel
theorem dX14_streamNamed_35 : decode cX14_streamNamed 35 = .ok (.goto 4, 3) := by decide +kernel
theorem dX14_streamNamed_38 : decode cX14_streamNamed 38 = .ok (.iconst 0, 1) := by decide +kernel
theorem dX14_streamNamed_39 : decode cX14_streamNamed 39 = .ok (.istore_n 1, 1) := by decide +kernel
theorem dX14_streamNamed_40 : decode cX14_streamNamed 40 = .ok (.aload_n 0, 1) := by decide +kernel
theorem dX14_streamNamed_41 : decode cX14_streamNamed 41 = .ok (.iload_n 1, 1) := by decide +kernel
theorem dX14_streamNamed_42 : decode cX14_streamNamed 42 = .ok (.iconst (-1), 1) := by decide +kernel
theorem dX14_streamNamed_43 : decode cX14_streamNamed 43 = .ok (.if_icmp .eq 7, 3) := by decide +kernel
theorem dX14_streamNamed_46 : decode cX14_streamNamed 46 = .ok (.iconst 1, 1) := by decide +kernel
theorem dX14_streamNamed_47 : decode cX14_streamNamed 47 = .ok (.goto 4, 3) := by decide +kernel
theorem dX14_streamNamed_50 : decode cX14_streamNamed 50 = .ok (.iconst 0, 1) := by decide +kernel
theorem dX14_streamNamed_51 : decode cX14_streamNamed 51 = .ok (.iconst 2, 1) := by decide +kernel
theorem dX14_streamNamed_52 : decode cX14_streamNamed 52 = .ok (.aload_n 0, 1) := by decide +kernel
theorem dX14_streamNamed_53 : decode cX14_streamNamed 53 = .ok (.getfield 27, 3) := by decide +kernel
theorem dX14_streamNamed_56 : decode cX14_streamNamed 56 = .ok (.aload_n 0, 1) := by decide +kernel
theorem dX14_streamNamed_57 : decode cX14_streamNamed 57 = .ok (.getfield 204, 3) := by decide +kernel
theorem dX14_streamNamed_60 : decode cX14_streamNamed 60 = .ok (.iaload, 1) := by decide +kernel
theorem dX14_streamNamed_61 : decode cX14_streamNamed 61 = .ok (.invokevirtual 277, 3) := by decide +kernel
theorem dX14_streamNamed_64 : decode cX14_streamNamed 64 = .ok (.aload_n 0, 1) := by decide +kernel
theorem dX14_streamNamed_65 : decode cX14_streamNamed 65 = .ok (.invokevirtual 226, 3) := by decide +kernel
theorem dX14_streamNamed_68 : decode cX14_streamNamed 68 = .ok (.iload_n 1, 1) := by decide +kernel
theorem dX14_streamNamed_69 : decode cX14_streamNamed 69 = .ok (.ireturn, 1) := by decide +kernel
theorem dX14_columnNamed_0 : decode cX14_columnNamed 0 = .ok (.aload_n 0, 1) := by decide +kernel
theorem dX14_columnNamed_1 : decode cX14_columnNamed 1 = .ok (.sipush 200, 3) := by decide +kernel
theorem dX14_columnNamed_4 : decode cX14_columnNamed 4 = .ok (.invokevirtual 223, 3) := by decide +kernel
theorem dX14_columnNamed_7 : decode cX14_columnNamed 7 = .ok (.ifCond .ne 8, 3) := by decide +kernel
theorem dX14_columnNamed_10 : decode cX14_columnNamed 10 = .ok (.aload_n 0, 1) := by decide +kernel
theorem dX14_columnNamed_11 : decode cX14_columnNamed 11 = .ok (.invokevirtual 219, 3) := by decide +kernel
theorem dX14_columnNamed_14 : decode cX14_columnNamed 14 = .ok (.athrow, 1) := by decide +kernel
theorem dX14_columnNamed_15 : decode cX14_columnNamed 15 = .ok (.aload_n 0, 1) := by decide +kernel
theorem dX14_columnNamed_16 : decode cX14_columnNamed 16 = .ok (.getfield 212, 3) := by decide +kernel
theorem dX14_columnNamed_19 : decode cX14_columnNamed 19 = .ok (.ifCond .eq 20, 3) := by decide +kernel
theorem dX14_columnNamed_22 : decode cX14_columnNamed 22 = .ok (.aload_n 0, 1) := by decide +kernel
theorem dX14_columnNamed_23 : decode cX14_columnNamed 23 = .ok (.iload_n 1, 1) := by decide +kernel
theorem dX14_columnNamed_24 : decode cX14_columnNamed 24 = .ok (.aload_n 0, 1) := by decide +kernel
theorem dX14_columnNamed_25 : decode cX14_columnNamed 25 = .ok (.getfield 30, 3) := by decide +kernel
theorem dX14_columnNamed_28 : decode cX14_columnNamed 28 = .ok (.aload_n 0, 1) := by decide +kernel
theorem dX14_columnNamed_29 : decode cX14_columnNamed 29 = .ok (.getfield 204, 3) := by decide +kernel
theorem dX14_columnNamed_32 : decode cX14_columnNamed 32 = .ok (.laload, 1) := by decide +kernel
theorem dX14_columnNamed_33 : decode cX14_columnNamed 33 = .ok (.invokevirtual 273, 3) := by decide +kernel
theorem dX14_columnNamed_36 : decode cX14_columnNamed 36 = .ok (.goto 4, 3) := by decide +kernel
theorem dX14_columnNamed_39 : decode cX14_columnNamed 39 = .ok (.iconst 0, 1) := by decide +kernel
theorem dX14_columnNamed_40 : decode cX14_columnNamed 40 = .ok (.istore_n 2, 1) := by decide +kernel
theorem dX14_columnNamed_41 : decode cX14_columnNamed 41 = .ok (.aload_n 0, 1) := by decide +kernel
theorem dX14_columnNamed_42 : decode cX14_columnNamed 42 = .ok (.iload_n 2, 1) := by decide +kernel
theorem dX14_columnNamed_43 : decode cX14_columnNamed 43 = .ok (.iconst (-1), 1) := by decide +kernel
theorem dX14_columnNamed_44 : decode cX14_columnNamed 44 = .ok (.if_icmp .eq 7, 3) := by decide +kernel
theorem dX14_columnNamed_47 : decode cX14_columnNamed 47 = .ok (.iconst 1, 1) := by decide +kernel
theorem dX14_columnNamed_48 : decode cX14_columnNamed 48 = .ok (.goto 4, 3) := by decide +kernel
theorem dX14_columnNamed_51 : decode cX14_columnNamed 51 = .ok (.iconst 0, 1) := by decide +kernel
theorem dX14_columnNamed_52 : decode cX14_columnNamed 52 = .ok (.iconst 2, 1) := by decide +kernel
theorem dX14_columnNamed_53 : decode cX14_columnNamed 53 = .ok (.aload_n 0, 1) := by decide +kernel
theorem dX14_columnNamed_54 : decode cX14_columnNamed 54 = .ok (.getfield 27, 3) := by decide +kernel
theorem dX14_columnNamed_57 : decode cX14_columnNamed 57 = .ok (.aload_n 0, 1) := by decide +kernel
theorem dX14_columnNamed_58 : decode cX14_columnNamed 58 = .ok (.getfield 204, 3) := by decide +kernel
theorem dX14_columnNamed_61 : decode cX14_columnNamed 61 = .ok (.iaload, 1) := by decide +kernel
theorem dX14_columnNamed_62 : decode cX14_columnNamed 62 = .ok (.invokevirtual 277, 3) := by decide +kernel
theorem dX14_columnNamed_65 : decode cX14_columnNamed 65 = .ok (.aload_n 0, 1) := by decide +kernel
theorem dX14_columnNamed_66 : decode cX14_columnNamed 66 = .ok (.invokevirtual 226, 3) := by decide +kernel
theorem dX14_columnNamed_69 : decode cX14_columnNamed 69 = .ok (.iload_n 2, 1) := by decide +kernel
theorem dX14_columnNamed_70 : decode cX14_columnNamed 70 = .ok (.ireturn, 1) := by decide +kernel
theorem dX14_numberIn_0 : decode cX14_numberIn 0 = .ok (.aload_n 0, 1) := by decide +kernel
theorem dX14_numberIn_1 : decode cX14_numberIn 1 = .ok (.sipush 201, 3) := by decide +kernel
theorem dX14_numberIn_4 : decode cX14_numberIn 4 = .ok (.invokevirtual 223, 3) := by decide +kernel
theorem dX14_numberIn_7 : decode cX14_numberIn 7 = .ok (.ifCond .ne 8, 3) := by decide +kernel
theorem dX14_numberIn_10 : decode cX14_numberIn 10 = .ok (.aload_n 0, 1) := by decide +kernel
theorem dX14_numberIn_11 : decode cX14_numberIn 11 = .ok (.invokevirtual 219, 3) := by decide +kernel
theorem dX14_numberIn_14 : decode cX14_numberIn 14 = .ok (.athrow, 1) := by decide +kernel
theorem dX14_numberIn_15 : decode cX14_numberIn 15 = .ok (.aload_n 0, 1) := by decide +kernel
theorem dX14_numberIn_16 : decode cX14_numberIn 16 = .ok (.getfield 30, 3) := by decide +kernel
theorem dX14_numberIn_19 : decode cX14_numberIn 19 = .ok (.aload_n 0, 1) := by decide +kernel
theorem dX14_numberIn_20 : decode cX14_numberIn 20 = .ok (.getfield 204, 3) := by decide +kernel
theorem dX14_numberIn_23 : decode cX14_numberIn 23 = .ok (.laload, 1) := by decide +kernel
theorem dX14_numberIn_24 : decode cX14_numberIn 24 = .ok (.lstore_n 2, 1) := by decide +kernel
theorem dX14_numberIn_25 : decode cX14_numberIn 25 = .ok (.aload_n 0, 1) := by decide +kernel
theorem dX14_numberIn_26 : decode cX14_numberIn 26 = .ok (.lload_n 2, 1) := by decide +kernel
theorem dX14_numberIn_27 : decode cX14_numberIn 27 = .ok (.iload_n 1, 1) := by decide +kernel
theorem dX14_numberIn_28 : decode cX14_numberIn 28 = .ok (.i2l, 1) := by decide +kernel
theorem dX14_numberIn_29 : decode cX14_numberIn 29 = .ok (.ldc2_w 305, 3) := by decide +kernel
theorem dX14_numberIn_32 : decode cX14_numberIn 32 = .ok (.invokestatic 163, 3) := by decide +kernel
theorem dX14_numberIn_35 : decode cX14_numberIn 35 = .ok (.bipush 6, 2) := by decide +kernel
theorem dX14_numberIn_37 : decode cX14_numberIn 37 = .ok (.aload_n 0, 1) := by decide +kernel
theorem dX14_numberIn_38 : decode cX14_numberIn 38 = .ok (.getfield 27, 3) := by decide +kernel
theorem dX14_numberIn_41 : decode cX14_numberIn 41 = .ok (.aload_n 0, 1) := by decide +kernel
theorem dX14_numberIn_42 : decode cX14_numberIn 42 = .ok (.getfield 204, 3) := by decide +kernel
theorem dX14_numberIn_45 : decode cX14_numberIn 45 = .ok (.iaload, 1) := by decide +kernel
theorem dX14_numberIn_46 : decode cX14_numberIn 46 = .ok (.invokevirtual 277, 3) := by decide +kernel
theorem dX14_numberIn_49 : decode cX14_numberIn 49 = .ok (.aload_n 0, 1) := by decide +kernel
theorem dX14_numberIn_50 : decode cX14_numberIn 50 = .ok (.invokevirtual 226, 3) := by decide +kernel
theorem dX14_numberIn_53 : decode cX14_numberIn 53 = .ok (.lload_n 2, 1) := by decide +kernel
theorem dX14_numberIn_54 : decode cX14_numberIn 54 = .ok (.ldc2_w 305, 3) := by decide +kernel
theorem dX14_numberIn_57 : decode cX14_numberIn 57 = .ok (.invokestatic 307, 3) := by decide +kernel
theorem dX14_numberIn_60 : decode cX14_numberIn 60 = .ok (.l2i, 1) := by decide +kernel
theorem dX14_numberIn_61 : decode cX14_numberIn 61 = .ok (.ireturn, 1) := by decide +kernel
theorem dX14_say_0 : decode cX14_say 0 = .ok (.aload_n 0, 1) := by decide +kernel
theorem dX14_say_1 : decode cX14_say 1 = .ok (.getfield 212, 3) := by decide +kernel
theorem dX14_say_4 : decode cX14_say 4 = .ok (.ifCond .ne 4, 3) := by decide +kernel
theorem dX14_say_7 : decode cX14_say 7 = .ok (.return_, 1) := by decide +kernel
theorem dX14_say_8 : decode cX14_say 8 = .ok (.aload_n 0, 1) := by decide +kernel
theorem dX14_say_9 : decode cX14_say 9 = .ok (.getfield 33, 3) := by decide +kernel
theorem dX14_say_12 : decode cX14_say 12 = .ok (.aload_n 0, 1) := by decide +kernel
theorem dX14_say_13 : decode cX14_say 13 = .ok (.getfield 313, 3) := by decide +kernel
theorem dX14_say_16 : decode cX14_say 16 = .ok (.lload_n 1, 1) := by decide +kernel
theorem dX14_say_17 : decode cX14_say 17 = .ok (.lastore, 1) := by decide +kernel
theorem dX14_say_18 : decode cX14_say 18 = .ok (.aload_n 0, 1) := by decide +kernel
theorem dX14_say_19 : decode cX14_say 19 = .ok (.getfield 36, 3) := by decide +kernel
theorem dX14_say_22 : decode cX14_say 22 = .ok (.aload_n 0, 1) := by decide +kernel
theorem dX14_say_23 : decode cX14_say 23 = .ok (.getfield 313, 3) := by decide +kernel
theorem dX14_say_26 : decode cX14_say 26 = .ok (.iload_n 3, 1) := by decide +kernel
theorem dX14_say_27 : decode cX14_say 27 = .ok (.iastore, 1) := by decide +kernel
theorem dX14_say_28 : decode cX14_say 28 = .ok (.aload_n 0, 1) := by decide +kernel
theorem dX14_say_29 : decode cX14_say 29 = .ok (.getfield 39, 3) := by decide +kernel
theorem dX14_say_32 : decode cX14_say 32 = .ok (.aload_n 0, 1) := by decide +kernel
theorem dX14_say_33 : decode cX14_say 33 = .ok (.getfield 313, 3) := by decide +kernel
theorem dX14_say_36 : decode cX14_say 36 = .ok (.iload 4, 2) := by decide +kernel
theorem dX14_say_38 : decode cX14_say 38 = .ok (.iastore, 1) := by decide +kernel
theorem dX14_say_39 : decode cX14_say 39 = .ok (.aload_n 0, 1) := by decide +kernel
theorem dX14_say_40 : decode cX14_say 40 = .ok (.dup, 1) := by decide +kernel
theorem dX14_say_41 : decode cX14_say 41 = .ok (.getfield 313, 3) := by decide +kernel
theorem dX14_say_44 : decode cX14_say 44 = .ok (.iconst 1, 1) := by decide +kernel
theorem dX14_say_45 : decode cX14_say 45 = .ok (.iadd, 1) := by decide +kernel
theorem dX14_say_46 : decode cX14_say 46 = .ok (.putfield 313, 3) := by decide +kernel
theorem dX14_say_49 : decode cX14_say 49 = .ok (.return_, 1) := by decide +kernel
theorem dX14_sayAll_0 : decode cX14_sayAll 0 = .ok (.iconst 0, 1) := by decide +kernel
theorem dX14_sayAll_1 : decode cX14_sayAll 1 = .ok (.istore_n 3, 1) := by decide +kernel
theorem dX14_sayAll_2 : decode cX14_sayAll 2 = .ok (.aload_n 0, 1) := by decide +kernel
theorem dX14_sayAll_3 : decode cX14_sayAll 3 = .ok (.getfield 212, 3) := by decide +kernel
theorem dX14_sayAll_6 : decode cX14_sayAll 6 = .ok (.ifCond .eq 47, 3) := by decide +kernel
theorem dX14_sayAll_9 : decode cX14_sayAll 9 = .ok (.iload_n 3, 1) := by decide +kernel
theorem dX14_sayAll_10 : decode cX14_sayAll 10 = .ok (.aload_n 0, 1) := by decide +kernel
theorem dX14_sayAll_11 : decode cX14_sayAll 11 = .ok (.getfield 232, 3) := by decide +kernel
theorem dX14_sayAll_14 : decode cX14_sayAll 14 = .ok (.getfield 292, 3) := by decide +kernel
theorem dX14_sayAll_17 : decode cX14_sayAll 17 = .ok (.iload_n 1, 1) := by decide +kernel
theorem dX14_sayAll_18 : decode cX14_sayAll 18 = .ok (.iaload, 1) := by decide +kernel
theorem dX14_sayAll_19 : decode cX14_sayAll 19 = .ok (.if_icmp .ge 34, 3) := by decide +kernel
theorem dX14_sayAll_22 : decode cX14_sayAll 22 = .ok (.iload_n 3, 1) := by decide +kernel
theorem dX14_sayAll_23 : decode cX14_sayAll 23 = .ok (.iload_n 2, 1) := by decide +kernel
theorem dX14_sayAll_24 : decode cX14_sayAll 24 = .ok (.if_icmp .eq 23, 3) := by decide +kernel
theorem dX14_sayAll_27 : decode cX14_sayAll 27 = .ok (.aload_n 0, 1) := by decide +kernel
theorem dX14_sayAll_28 : decode cX14_sayAll 28 = .ok (.aload_n 0, 1) := by decide +kernel
theorem dX14_sayAll_29 : decode cX14_sayAll 29 = .ok (.getfield 232, 3) := by decide +kernel
theorem dX14_sayAll_32 : decode cX14_sayAll 32 = .ok (.getfield 289, 3) := by decide +kernel
theorem dX14_sayAll_35 : decode cX14_sayAll 35 = .ok (.bipush 6, 2) := by decide +kernel
theorem dX14_sayAll_37 : decode cX14_sayAll 37 = .ok (.iload_n 1, 1) := by decide +kernel
theorem dX14_sayAll_38 : decode cX14_sayAll 38 = .ok (.imul, 1) := by decide +kernel
theorem dX14_sayAll_39 : decode cX14_sayAll 39 = .ok (.iload_n 3, 1) := by decide +kernel
theorem dX14_sayAll_40 : decode cX14_sayAll 40 = .ok (.iadd, 1) := by decide +kernel
theorem dX14_sayAll_41 : decode cX14_sayAll 41 = .ok (.laload, 1) := by decide +kernel
theorem dX14_sayAll_42 : decode cX14_sayAll 42 = .ok (.iload_n 3, 1) := by decide +kernel
theorem dX14_sayAll_43 : decode cX14_sayAll 43 = .ok (.iconst 0, 1) := by decide +kernel
theorem dX14_sayAll_44 : decode cX14_sayAll 44 = .ok (.invokevirtual 316, 3) := by decide +kernel
theorem dX14_sayAll_47 : decode cX14_sayAll 47 = .ok (.iinc 3 1, 3) := by decide +kernel
theorem dX14_sayAll_50 : decode cX14_sayAll 50 = .ok (.goto (-48), 3) := by decide +kernel
theorem dX14_sayAll_53 : decode cX14_sayAll 53 = .ok (.return_, 1) := by decide +kernel
theorem dX14_newColumn_0 : decode cX14_newColumn 0 = .ok (.aload_n 0, 1) := by decide +kernel
theorem dX14_newColumn_1 : decode cX14_newColumn 1 = .ok (.sipush 200, 3) := by decide +kernel
theorem dX14_newColumn_4 : decode cX14_newColumn 4 = .ok (.invokevirtual 223, 3) := by decide +kernel
theorem dX14_newColumn_7 : decode cX14_newColumn 7 = .ok (.ifCond .ne 8, 3) := by decide +kernel
theorem dX14_newColumn_10 : decode cX14_newColumn 10 = .ok (.aload_n 0, 1) := by decide +kernel
theorem dX14_newColumn_11 : decode cX14_newColumn 11 = .ok (.invokevirtual 219, 3) := by decide +kernel
theorem dX14_newColumn_14 : decode cX14_newColumn 14 = .ok (.athrow, 1) := by decide +kernel
theorem dX14_newColumn_15 : decode cX14_newColumn 15 = .ok (.aload_n 0, 1) := by decide +kernel
theorem dX14_newColumn_16 : decode cX14_newColumn 16 = .ok (.getfield 30, 3) := by decide +kernel
theorem dX14_newColumn_19 : decode cX14_newColumn 19 = .ok (.aload_n 0, 1) := by decide +kernel
theorem dX14_newColumn_20 : decode cX14_newColumn 20 = .ok (.getfield 204, 3) := by decide +kernel
theorem dX14_newColumn_23 : decode cX14_newColumn 23 = .ok (.laload, 1) := by decide +kernel
theorem dX14_newColumn_24 : decode cX14_newColumn 24 = .ok (.lstore_n 1, 1) := by decide +kernel
theorem dX14_newColumn_25 : decode cX14_newColumn 25 = .ok (.aload_n 0, 1) := by decide +kernel
theorem dX14_newColumn_26 : decode cX14_newColumn 26 = .ok (.aload_n 0, 1) := by decide +kernel
theorem dX14_newColumn_27 : decode cX14_newColumn 27 = .ok (.getfield 33, 3) := by decide +kernel
theorem dX14_newColumn_30 : decode cX14_newColumn 30 = .ok (.iconst 0, 1) := by decide +kernel
theorem dX14_newColumn_31 : decode cX14_newColumn 31 = .ok (.aload_n 0, 1) := by decide +kernel
theorem dX14_newColumn_32 : decode cX14_newColumn 32 = .ok (.getfield 313, 3) := by decide +kernel
theorem dX14_newColumn_35 : decode cX14_newColumn 35 = .ok (.lload_n 1, 1) := by decide +kernel
theorem dX14_newColumn_36 : decode cX14_newColumn 36 = .ok (.invokestatic 192, 3) := by decide +kernel
theorem dX14_newColumn_39 : decode cX14_newColumn 39 = .ok (.iconst (-1), 1) := by decide +kernel
theorem dX14_newColumn_40 : decode cX14_newColumn 40 = .ok (.if_icmp .ne 7, 3) := by decide +kernel
theorem dX14_newColumn_43 : decode cX14_newColumn 43 = .ok (.iconst 1, 1) := by decide +kernel
theorem dX14_newColumn_44 : decode cX14_newColumn 44 = .ok (.goto 4, 3) := by decide +kernel
theorem dX14_newColumn_47 : decode cX14_newColumn 47 = .ok (.iconst 0, 1) := by decide +kernel
theorem dX14_newColumn_48 : decode cX14_newColumn 48 = .ok (.iconst 5, 1) := by decide +kernel
theorem dX14_newColumn_49 : decode cX14_newColumn 49 = .ok (.aload_n 0, 1) := by decide +kernel
theorem dX14_newColumn_50 : decode cX14_newColumn 50 = .ok (.getfield 27, 3) := by decide +kernel
theorem dX14_newColumn_53 : decode cX14_newColumn 53 = .ok (.aload_n 0, 1) := by decide +kernel
theorem dX14_newColumn_54 : decode cX14_newColumn 54 = .ok (.getfield 204, 3) := by decide +kernel
theorem dX14_newColumn_57 : decode cX14_newColumn 57 = .ok (.iaload, 1) := by decide +kernel
theorem dX14_newColumn_58 : decode cX14_newColumn 58 = .ok (.invokevirtual 277, 3) := by decide +kernel
theorem dX14_newColumn_61 : decode cX14_newColumn 61 = .ok (.aload_n 0, 1) := by decide +kernel
theorem dX14_newColumn_62 : decode cX14_newColumn 62 = .ok (.invokevirtual 226, 3) := by decide +kernel
theorem dX14_newColumn_65 : decode cX14_newColumn 65 = .ok (.lload_n 1, 1) := by decide +kernel
theorem dX14_newColumn_66 : decode cX14_newColumn 66 = .ok (.lreturn, 1) := by decide +kernel
theorem dX14_item_0 : decode cX14_item 0 = .ok (.aload_n 0, 1) := by decide +kernel
theorem dX14_item_1 : decode cX14_item 1 = .ok (.getfield 24, 3) := by decide +kernel
theorem dX14_item_4 : decode cX14_item 4 = .ok (.aload_n 0, 1) := by decide +kernel
theorem dX14_item_5 : decode cX14_item 5 = .ok (.getfield 204, 3) := by decide +kernel
theorem dX14_item_8 : decode cX14_item 8 = .ok (.iaload, 1) := by decide +kernel
theorem dX14_item_9 : decode cX14_item 9 = .ok (.istore_n 1, 1) := by decide +kernel
theorem dX14_item_10 : decode cX14_item 10 = .ok (.aload_n 0, 1) := by decide +kernel
theorem dX14_item_11 : decode cX14_item 11 = .ok (.getfield 27, 3) := by decide +kernel
theorem dX14_item_14 : decode cX14_item 14 = .ok (.aload_n 0, 1) := by decide +kernel
theorem dX14_item_15 : decode cX14_item 15 = .ok (.getfield 204, 3) := by decide +kernel
theorem dX14_item_18 : decode cX14_item 18 = .ok (.iaload, 1) := by decide +kernel
theorem dX14_item_19 : decode cX14_item 19 = .ok (.istore_n 2, 1) := by decide +kernel
theorem dX14_item_20 : decode cX14_item 20 = .ok (.iload_n 1, 1) := by decide +kernel
theorem dX14_item_21 : decode cX14_item 21 = .ok (.bipush 17, 2) := by decide +kernel
theorem dX14_item_23 : decode cX14_item 23 = .ok (.if_icmp .ne 9, 3) := by decide +kernel
theorem dX14_item_26 : decode cX14_item 26 = .ok (.aload_n 0, 1) := by decide +kernel
theorem dX14_item_27 : decode cX14_item 27 = .ok (.iload_n 2, 1) := by decide +kernel
theorem dX14_item_28 : decode cX14_item 28 = .ok (.invokevirtual 320, 3) := by decide +kernel
theorem dX14_item_31 : decode cX14_item 31 = .ok (.return_, 1) := by decide +kernel
theorem dX14_item_32 : decode cX14_item 32 = .ok (.iload_n 1, 1) := by decide +kernel
theorem dX14_item_33 : decode cX14_item 33 = .ok (.ifCond .eq 13, 3) := by decide +kernel
theorem dX14_item_36 : decode cX14_item 36 = .ok (.iload_n 1, 1) := by decide +kernel
theorem dX14_item_37 : decode cX14_item 37 = .ok (.iconst 2, 1) := by decide +kernel
theorem dX14_item_38 : decode cX14_item 38 = .ok (.if_icmp .eq 8, 3) := by decide +kernel
theorem dX14_item_41 : decode cX14_item 41 = .ok (.aload_n 0, 1) := by decide +kernel
theorem dX14_item_42 : decode cX14_item 42 = .ok (.invokevirtual 219, 3) := by decide +kernel
theorem dX14_item_45 : decode cX14_item 45 = .ok (.athrow, 1) := by decide +kernel
theorem dX14_item_46 : decode cX14_item 46 = .ok (.aload_n 0, 1) := by decide +kernel
theorem dX14_item_47 : decode cX14_item 47 = .ok (.invokevirtual 226, 3) := by decide +kernel
theorem dX14_item_50 : decode cX14_item 50 = .ok (.aload_n 0, 1) := by decide +kernel
theorem dX14_item_51 : decode cX14_item 51 = .ok (.aload_n 0, 1) := by decide +kernel
theorem dX14_item_52 : decode cX14_item 52 = .ok (.getfield 232, 3) := by decide +kernel
theorem dX14_item_55 : decode cX14_item 55 = .ok (.getfield 298, 3) := by decide +kernel
theorem dX14_item_58 : decode cX14_item 58 = .ok (.bipush 12, 2) := by decide +kernel
theorem dX14_item_60 : decode cX14_item 60 = .ok (.if_icmp .ge 7, 3) := by decide +kernel
theorem dX14_item_63 : decode cX14_item 63 = .ok (.iconst 1, 1) := by decide +kernel
theorem dX14_item_64 : decode cX14_item 64 = .ok (.goto 4, 3) := by decide +kernel
theorem dX14_item_67 : decode cX14_item 67 = .ok (.iconst 0, 1) := by decide +kernel
theorem dX14_item_68 : decode cX14_item 68 = .ok (.iconst 4, 1) := by decide +kernel
theorem dX14_item_69 : decode cX14_item 69 = .ok (.iload_n 2, 1) := by decide +kernel
theorem dX14_item_70 : decode cX14_item 70 = .ok (.invokevirtual 277, 3) := by decide +kernel
theorem dX14_item_73 : decode cX14_item 73 = .ok (.aload_n 0, 1) := by decide +kernel
theorem dX14_item_74 : decode cX14_item 74 = .ok (.sipush 200, 3) := by decide +kernel
theorem dX14_item_77 : decode cX14_item 77 = .ok (.invokevirtual 223, 3) := by decide +kernel
theorem dX14_item_80 : decode cX14_item 80 = .ok (.ifCond .ne 8, 3) := by decide +kernel
theorem dX14_item_83 : decode cX14_item 83 = .ok (.aload_n 0, 1) := by decide +kernel
theorem dX14_item_84 : decode cX14_item 84 = .ok (.invokevirtual 219, 3) := by decide +kernel
theorem dX14_item_87 : decode cX14_item 87 = .ok (.athrow, 1) := by decide +kernel
theorem dX14_item_88 : decode cX14_item 88 = .ok (.aload_n 0, 1) := by decide +kernel
theorem dX14_item_89 : decode cX14_item 89 = .ok (.getfield 30, 3) := by decide +kernel
theorem dX14_item_92 : decode cX14_item 92 = .ok (.aload_n 0, 1) := by decide +kernel
theorem dX14_item_93 : decode cX14_item 93 = .ok (.getfield 204, 3) := by decide +kernel
theorem dX14_item_96 : decode cX14_item 96 = .ok (.laload, 1) := by decide +kernel
theorem dX14_item_97 : decode cX14_item 97 = .ok (.lstore_n 3, 1) := by decide +kernel
theorem dX14_item_98 : decode cX14_item 98 = .ok (.aload_n 0, 1) := by decide +kernel
theorem dX14_item_99 : decode cX14_item 99 = .ok (.getfield 27, 3) := by decide +kernel
theorem dX14_item_102 : decode cX14_item 102 = .ok (.aload_n 0, 1) := by decide +kernel
theorem dX14_item_103 : decode cX14_item 103 = .ok (.getfield 204, 3) := by decide +kernel
theorem dX14_item_106 : decode cX14_item 106 = .ok (.iaload, 1) := by decide +kernel
theorem dX14_item_107 : decode cX14_item 107 = .ok (.istore 5, 2) := by decide +kernel
theorem dX14_item_109 : decode cX14_item 109 = .ok (.aload_n 0, 1) := by decide +kernel
theorem dX14_item_110 : decode cX14_item 110 = .ok (.aload_n 0, 1) := by decide +kernel
theorem dX14_item_111 : decode cX14_item 111 = .ok (.lload_n 3, 1) := by decide +kernel
theorem dX14_item_112 : decode cX14_item 112 = .ok (.invokevirtual 301, 3) := by decide +kernel
theorem dX14_item_115 : decode cX14_item 115 = .ok (.iconst (-1), 1) := by decide +kernel
theorem dX14_item_116 : decode cX14_item 116 = .ok (.if_icmp .ne 7, 3) := by decide +kernel
theorem dX14_item_119 : decode cX14_item 119 = .ok (.iconst 1, 1) := by decide +kernel
theorem dX14_item_120 : decode cX14_item 120 = .ok (.goto 4, 3) := by decide +kernel
theorem dX14_item_123 : decode cX14_item 123 = .ok (.iconst 0, 1) := by decide +kernel
theorem dX14_item_124 : decode cX14_item 124 = .ok (.iconst 5, 1) := by decide +kernel
theorem dX14_item_125 : decode cX14_item 125 = .ok (.iload 5, 2) := by decide +kernel
theorem dX14_item_127 : decode cX14_item 127 = .ok (.invokevirtual 277, 3) := by decide +kernel
theorem dX14_item_130 : decode cX14_item 130 = .ok (.aload_n 0, 1) := by decide +kernel
theorem dX14_item_131 : decode cX14_item 131 = .ok (.invokevirtual 226, 3) := by decide +kernel
theorem dX14_item_134 : decode cX14_item 134 = .ok (.aload_n 0, 1) := by decide +kernel
theorem dX14_item_135 : decode cX14_item 135 = .ok (.iconst 0, 1) := by decide +kernel
theorem dX14_item_136 : decode cX14_item 136 = .ok (.putfield 313, 3) := by decide +kernel
theorem dX14_item_139 : decode cX14_item 139 = .ok (.aload_n 0, 1) := by decide +kernel
theorem dX14_item_140 : decode cX14_item 140 = .ok (.getfield 212, 3) := by decide +kernel
theorem dX14_item_143 : decode cX14_item 143 = .ok (.ifCond .eq 13, 3) := by decide +kernel
theorem dX14_item_146 : decode cX14_item 146 = .ok (.aload_n 0, 1) := by decide +kernel
theorem dX14_item_147 : decode cX14_item 147 = .ok (.getfield 232, 3) := by decide +kernel
theorem dX14_item_150 : decode cX14_item 150 = .ok (.getfield 298, 3) := by decide +kernel
theorem dX14_item_153 : decode cX14_item 153 = .ok (.goto 4, 3) := by decide +kernel
theorem dX14_item_156 : decode cX14_item 156 = .ok (.iconst 0, 1) := by decide +kernel
theorem dX14_item_157 : decode cX14_item 157 = .ok (.istore 6, 2) := by decide +kernel
theorem dX14_item_159 : decode cX14_item 159 = .ok (.aload_n 0, 1) := by decide +kernel
theorem dX14_item_160 : decode cX14_item 160 = .ok (.getfield 232, 3) := by decide +kernel
theorem dX14_item_163 : decode cX14_item 163 = .ok (.getfield 323, 3) := by decide +kernel
theorem dX14_item_166 : decode cX14_item 166 = .ok (.iload 6, 2) := by decide +kernel
theorem dX14_item_168 : decode cX14_item 168 = .ok (.iconst (-1), 1) := by decide +kernel
theorem dX14_item_169 : decode cX14_item 169 = .ok (.iastore, 1) := by decide +kernel
theorem dX14_item_170 : decode cX14_item 170 = .ok (.aload_n 0, 1) := by decide +kernel
theorem dX14_item_171 : decode cX14_item 171 = .ok (.getfield 232, 3) := by decide +kernel
theorem dX14_item_174 : decode cX14_item 174 = .ok (.getfield 326, 3) := by decide +kernel
theorem dX14_item_177 : decode cX14_item 177 = .ok (.iload 6, 2) := by decide +kernel
theorem dX14_item_179 : decode cX14_item 179 = .ok (.iconst (-1), 1) := by decide +kernel
theorem dX14_item_180 : decode cX14_item 180 = .ok (.iastore, 1) := by decide +kernel
theorem dX14_item_181 : decode cX14_item 181 = .ok (.iload_n 1, 1) := by decide +kernel
theorem dX14_item_182 : decode cX14_item 182 = .ok (.ifCond .ne 12, 3) := by decide +kernel
theorem dX14_item_185 : decode cX14_item 185 = .ok (.aload_n 0, 1) := by decide +kernel
theorem dX14_item_186 : decode cX14_item 186 = .ok (.iload 6, 2) := by decide +kernel
theorem dX14_item_188 : decode cX14_item 188 = .ok (.invokevirtual 329, 3) := by decide +kernel
theorem dX14_item_191 : decode cX14_item 191 = .ok (.goto 15, 3) := by decide +kernel
theorem dX14_item_194 : decode cX14_item 194 = .ok (.aload_n 0, 1) := by decide +kernel
theorem dX14_item_195 : decode cX14_item 195 = .ok (.bipush 104, 2) := by decide +kernel
theorem dX14_item_197 : decode cX14_item 197 = .ok (.invokevirtual 284, 3) := by decide +kernel
theorem dX14_item_200 : decode cX14_item 200 = .ok (.aload_n 0, 1) := by decide +kernel
theorem dX14_item_201 : decode cX14_item 201 = .ok (.iload 6, 2) := by decide +kernel
theorem dX14_item_203 : decode cX14_item 203 = .ok (.invokevirtual 332, 3) := by decide +kernel
theorem dX14_item_206 : decode cX14_item 206 = .ok (.aload_n 0, 1) := by decide +kernel
theorem dX14_item_207 : decode cX14_item 207 = .ok (.aload_n 0, 1) := by decide +kernel
theorem dX14_item_208 : decode cX14_item 208 = .ok (.getfield 313, 3) := by decide +kernel
theorem dX14_item_211 : decode cX14_item 211 = .ok (.bipush 6, 2) := by decide +kernel
theorem dX14_item_213 : decode cX14_item 213 = .ok (.if_icmp .gt 7, 3) := by decide +kernel
theorem dX14_item_216 : decode cX14_item 216 = .ok (.iconst 1, 1) := by decide +kernel
theorem dX14_item_217 : decode cX14_item 217 = .ok (.goto 4, 3) := by decide +kernel
theorem dX14_item_220 : decode cX14_item 220 = .ok (.iconst 0, 1) := by decide +kernel
theorem dX14_item_221 : decode cX14_item 221 = .ok (.iconst 4, 1) := by decide +kernel
theorem dX14_item_222 : decode cX14_item 222 = .ok (.iload 5, 2) := by decide +kernel
theorem dX14_item_224 : decode cX14_item 224 = .ok (.invokevirtual 277, 3) := by decide +kernel
theorem dX14_item_227 : decode cX14_item 227 = .ok (.aload_n 0, 1) := by decide +kernel
theorem dX14_item_228 : decode cX14_item 228 = .ok (.getfield 212, 3) := by decide +kernel
theorem dX14_item_231 : decode cX14_item 231 = .ok (.ifCond .ne 4, 3) := by decide +kernel
theorem dX14_item_234 : decode cX14_item 234 = .ok (.return_, 1) := by decide +kernel
theorem dX14_item_235 : decode cX14_item 235 = .ok (.aload_n 0, 1) := by decide +kernel
theorem dX14_item_236 : decode cX14_item 236 = .ok (.getfield 232, 3) := by decide +kernel
theorem dX14_item_239 : decode cX14_item 239 = .ok (.getfield 295, 3) := by decide +kernel
theorem dX14_item_242 : decode cX14_item 242 = .ok (.iload 6, 2) := by decide +kernel
theorem dX14_item_244 : decode cX14_item 244 = .ok (.lload_n 3, 1) := by decide +kernel
theorem dX14_item_245 : decode cX14_item 245 = .ok (.lastore, 1) := by decide +kernel
theorem dX14_item_246 : decode cX14_item 246 = .ok (.aload_n 0, 1) := by decide +kernel
theorem dX14_item_247 : decode cX14_item 247 = .ok (.getfield 232, 3) := by decide +kernel
theorem dX14_item_250 : decode cX14_item 250 = .ok (.getfield 292, 3) := by decide +kernel
theorem dX14_item_253 : decode cX14_item 253 = .ok (.iload 6, 2) := by decide +kernel
theorem dX14_item_255 : decode cX14_item 255 = .ok (.aload_n 0, 1) := by decide +kernel
theorem dX14_item_256 : decode cX14_item 256 = .ok (.getfield 313, 3) := by decide +kernel
theorem dX14_item_259 : decode cX14_item 259 = .ok (.iastore, 1) := by decide +kernel
theorem dX14_item_260 : decode cX14_item 260 = .ok (.iconst 0, 1) := by decide +kernel
theorem dX14_item_261 : decode cX14_item 261 = .ok (.istore 7, 2) := by decide +kernel
theorem dX14_item_263 : decode cX14_item 263 = .ok (.iload 7, 2) := by decide +kernel
theorem dX14_item_265 : decode cX14_item 265 = .ok (.aload_n 0, 1) := by decide +kernel
theorem dX14_item_266 : decode cX14_item 266 = .ok (.getfield 313, 3) := by decide +kernel
theorem dX14_item_269 : decode cX14_item 269 = .ok (.if_icmp .ge 78, 3) := by decide +kernel
theorem dX14_item_272 : decode cX14_item 272 = .ok (.aload_n 0, 1) := by decide +kernel
theorem dX14_item_273 : decode cX14_item 273 = .ok (.getfield 232, 3) := by decide +kernel
theorem dX14_item_276 : decode cX14_item 276 = .ok (.getfield 289, 3) := by decide +kernel
theorem dX14_item_279 : decode cX14_item 279 = .ok (.bipush 6, 2) := by decide +kernel
theorem dX14_item_281 : decode cX14_item 281 = .ok (.iload 6, 2) := by decide +kernel
theorem dX14_item_283 : decode cX14_item 283 = .ok (.imul, 1) := by decide +kernel
theorem dX14_item_284 : decode cX14_item 284 = .ok (.iload 7, 2) := by decide +kernel
theorem dX14_item_286 : decode cX14_item 286 = .ok (.iadd, 1) := by decide +kernel
theorem dX14_item_287 : decode cX14_item 287 = .ok (.aload_n 0, 1) := by decide +kernel
theorem dX14_item_288 : decode cX14_item 288 = .ok (.getfield 33, 3) := by decide +kernel
theorem dX14_item_291 : decode cX14_item 291 = .ok (.iload 7, 2) := by decide +kernel
theorem dX14_item_293 : decode cX14_item 293 = .ok (.laload, 1) := by decide +kernel
theorem dX14_item_294 : decode cX14_item 294 = .ok (.lastore, 1) := by decide +kernel
theorem dX14_item_295 : decode cX14_item 295 = .ok (.aload_n 0, 1) := by decide +kernel
theorem dX14_item_296 : decode cX14_item 296 = .ok (.getfield 232, 3) := by decide +kernel
theorem dX14_item_299 : decode cX14_item 299 = .ok (.getfield 335, 3) := by decide +kernel
theorem dX14_item_302 : decode cX14_item 302 = .ok (.bipush 6, 2) := by decide +kernel
theorem dX14_item_304 : decode cX14_item 304 = .ok (.iload 6, 2) := by decide +kernel
theorem dX14_item_306 : decode cX14_item 306 = .ok (.imul, 1) := by decide +kernel
theorem dX14_item_307 : decode cX14_item 307 = .ok (.iload 7, 2) := by decide +kernel
theorem dX14_item_309 : decode cX14_item 309 = .ok (.iadd, 1) := by decide +kernel
theorem dX14_item_310 : decode cX14_item 310 = .ok (.aload_n 0, 1) := by decide +kernel
theorem dX14_item_311 : decode cX14_item 311 = .ok (.getfield 36, 3) := by decide +kernel
theorem dX14_item_314 : decode cX14_item 314 = .ok (.iload 7, 2) := by decide +kernel
theorem dX14_item_316 : decode cX14_item 316 = .ok (.iaload, 1) := by decide +kernel
theorem dX14_item_317 : decode cX14_item 317 = .ok (.iastore, 1) := by decide +kernel
theorem dX14_item_318 : decode cX14_item 318 = .ok (.aload_n 0, 1) := by decide +kernel
theorem dX14_item_319 : decode cX14_item 319 = .ok (.getfield 232, 3) := by decide +kernel
theorem dX14_item_322 : decode cX14_item 322 = .ok (.getfield 338, 3) := by decide +kernel
theorem dX14_item_325 : decode cX14_item 325 = .ok (.bipush 6, 2) := by decide +kernel
theorem dX14_item_327 : decode cX14_item 327 = .ok (.iload 6, 2) := by decide +kernel
theorem dX14_item_329 : decode cX14_item 329 = .ok (.imul, 1) := by decide +kernel
theorem dX14_item_330 : decode cX14_item 330 = .ok (.iload 7, 2) := by decide +kernel
theorem dX14_item_332 : decode cX14_item 332 = .ok (.iadd, 1) := by decide +kernel
theorem dX14_item_333 : decode cX14_item 333 = .ok (.aload_n 0, 1) := by decide +kernel
theorem dX14_item_334 : decode cX14_item 334 = .ok (.getfield 39, 3) := by decide +kernel
theorem dX14_item_337 : decode cX14_item 337 = .ok (.iload 7, 2) := by decide +kernel
theorem dX14_item_339 : decode cX14_item 339 = .ok (.iaload, 1) := by decide +kernel
theorem dX14_item_340 : decode cX14_item 340 = .ok (.iastore, 1) := by decide +kernel
theorem dX14_item_341 : decode cX14_item 341 = .ok (.iinc 7 1, 3) := by decide +kernel
theorem dX14_item_344 : decode cX14_item 344 = .ok (.goto (-81), 3) := by decide +kernel
theorem dX14_item_347 : decode cX14_item 347 = .ok (.aload_n 0, 1) := by decide +kernel
theorem dX14_item_348 : decode cX14_item 348 = .ok (.getfield 232, 3) := by decide +kernel
theorem dX14_item_351 : decode cX14_item 351 = .ok (.dup, 1) := by decide +kernel
theorem dX14_item_352 : decode cX14_item 352 = .ok (.getfield 298, 3) := by decide +kernel
theorem dX14_item_355 : decode cX14_item 355 = .ok (.iconst 1, 1) := by decide +kernel
theorem dX14_item_356 : decode cX14_item 356 = .ok (.iadd, 1) := by decide +kernel
theorem dX14_item_357 : decode cX14_item 357 = .ok (.putfield 298, 3) := by decide +kernel
theorem dX14_item_360 : decode cX14_item 360 = .ok (.return_, 1) := by decide +kernel
theorem dX14_check_0 : decode cX14_check 0 = .ok (.aload_n 0, 1) := by decide +kernel
theorem dX14_check_1 : decode cX14_check 1 = .ok (.invokevirtual 226, 3) := by decide +kernel
theorem dX14_check_4 : decode cX14_check 4 = .ok (.aload_n 0, 1) := by decide +kernel
theorem dX14_check_5 : decode cX14_check 5 = .ok (.aload_n 0, 1) := by decide +kernel
theorem dX14_check_6 : decode cX14_check 6 = .ok (.getfield 232, 3) := by decide +kernel
theorem dX14_check_9 : decode cX14_check 9 = .ok (.getfield 341, 3) := by decide +kernel
theorem dX14_check_12 : decode cX14_check 12 = .ok (.bipush 8, 2) := by decide +kernel
theorem dX14_check_14 : decode cX14_check 14 = .ok (.if_icmp .ge 7, 3) := by decide +kernel
theorem dX14_check_17 : decode cX14_check 17 = .ok (.iconst 1, 1) := by decide +kernel
theorem dX14_check_18 : decode cX14_check 18 = .ok (.goto 4, 3) := by decide +kernel
theorem dX14_check_21 : decode cX14_check 21 = .ok (.iconst 0, 1) := by decide +kernel
theorem dX14_check_22 : decode cX14_check 22 = .ok (.iconst 4, 1) := by decide +kernel
theorem dX14_check_23 : decode cX14_check 23 = .ok (.iload_n 1, 1) := by decide +kernel
theorem dX14_check_24 : decode cX14_check 24 = .ok (.invokevirtual 277, 3) := by decide +kernel
theorem dX14_check_27 : decode cX14_check 27 = .ok (.aload_n 0, 1) := by decide +kernel
theorem dX14_check_28 : decode cX14_check 28 = .ok (.invokevirtual 344, 3) := by decide +kernel
theorem dX14_check_31 : decode cX14_check 31 = .ok (.istore_n 2, 1) := by decide +kernel
theorem dX14_check_32 : decode cX14_check 32 = .ok (.aload_n 0, 1) := by decide +kernel
theorem dX14_check_33 : decode cX14_check 33 = .ok (.bipush 103, 2) := by decide +kernel
theorem dX14_check_35 : decode cX14_check 35 = .ok (.invokevirtual 284, 3) := by decide +kernel
theorem dX14_check_38 : decode cX14_check 38 = .ok (.aload_n 0, 1) := by decide +kernel
theorem dX14_check_39 : decode cX14_check 39 = .ok (.iload_n 2, 1) := by decide +kernel
theorem dX14_check_40 : decode cX14_check 40 = .ok (.putfield 270, 3) := by decide +kernel
theorem dX14_check_43 : decode cX14_check 43 = .ok (.aload_n 0, 1) := by decide +kernel
theorem dX14_check_44 : decode cX14_check 44 = .ok (.invokevirtual 348, 3) := by decide +kernel
theorem dX14_check_47 : decode cX14_check 47 = .ok (.istore_n 3, 1) := by decide +kernel
theorem dX14_check_48 : decode cX14_check 48 = .ok (.aload_n 0, 1) := by decide +kernel
theorem dX14_check_49 : decode cX14_check 49 = .ok (.bipush 18, 2) := by decide +kernel
theorem dX14_check_51 : decode cX14_check 51 = .ok (.invokevirtual 284, 3) := by decide +kernel
theorem dX14_check_54 : decode cX14_check 54 = .ok (.aload_n 0, 1) := by decide +kernel
theorem dX14_check_55 : decode cX14_check 55 = .ok (.getfield 24, 3) := by decide +kernel
theorem dX14_check_58 : decode cX14_check 58 = .ok (.aload_n 0, 1) := by decide +kernel
theorem dX14_check_59 : decode cX14_check 59 = .ok (.getfield 204, 3) := by decide +kernel
theorem dX14_check_62 : decode cX14_check 62 = .ok (.iaload, 1) := by decide +kernel
theorem dX14_check_63 : decode cX14_check 63 = .ok (.i2l, 1) := by decide +kernel
theorem dX14_check_64 : decode cX14_check 64 = .ok (.ldc2_w 351, 3) := by decide +kernel
theorem dX14_check_67 : decode cX14_check 67 = .ok (.ldc2_w 353, 3) := by decide +kernel
theorem dX14_check_70 : decode cX14_check 70 = .ok (.invokestatic 163, 3) := by decide +kernel
theorem dX14_check_73 : decode cX14_check 73 = .ok (.ifCond .ne 8, 3) := by decide +kernel
theorem dX14_check_76 : decode cX14_check 76 = .ok (.aload_n 0, 1) := by decide +kernel
theorem dX14_check_77 : decode cX14_check 77 = .ok (.invokevirtual 219, 3) := by decide +kernel
theorem dX14_check_80 : decode cX14_check 80 = .ok (.athrow, 1) := by decide +kernel
theorem dX14_check_81 : decode cX14_check 81 = .ok (.aload_n 0, 1) := by decide +kernel
theorem dX14_check_82 : decode cX14_check 82 = .ok (.getfield 24, 3) := by decide +kernel
theorem dX14_check_85 : decode cX14_check 85 = .ok (.aload_n 0, 1) := by decide +kernel
theorem dX14_check_86 : decode cX14_check 86 = .ok (.getfield 204, 3) := by decide +kernel
theorem dX14_check_89 : decode cX14_check 89 = .ok (.iaload, 1) := by decide +kernel
theorem dX14_check_90 : decode cX14_check 90 = .ok (.istore 4, 2) := by decide +kernel
theorem dX14_check_92 : decode cX14_check 92 = .ok (.aload_n 0, 1) := by decide +kernel
theorem dX14_check_93 : decode cX14_check 93 = .ok (.invokevirtual 226, 3) := by decide +kernel
theorem dX14_check_96 : decode cX14_check 96 = .ok (.aload_n 0, 1) := by decide +kernel
theorem dX14_check_97 : decode cX14_check 97 = .ok (.getfield 212, 3) := by decide +kernel
theorem dX14_check_100 : decode cX14_check 100 = .ok (.ifCond .ne 4, 3) := by decide +kernel
theorem dX14_check_103 : decode cX14_check 103 = .ok (.return_, 1) := by decide +kernel
theorem dX14_check_104 : decode cX14_check 104 = .ok (.aload_n 0, 1) := by decide +kernel
theorem dX14_check_105 : decode cX14_check 105 = .ok (.getfield 232, 3) := by decide +kernel
theorem dX14_check_108 : decode cX14_check 108 = .ok (.getfield 355, 3) := by decide +kernel
theorem dX14_check_111 : decode cX14_check 111 = .ok (.aload_n 0, 1) := by decide +kernel
theorem dX14_check_112 : decode cX14_check 112 = .ok (.getfield 232, 3) := by decide +kernel
theorem dX14_check_115 : decode cX14_check 115 = .ok (.getfield 341, 3) := by decide +kernel
theorem dX14_check_118 : decode cX14_check 118 = .ok (.iload_n 2, 1) := by decide +kernel
theorem dX14_check_119 : decode cX14_check 119 = .ok (.iastore, 1) := by decide +kernel
theorem dX14_check_120 : decode cX14_check 120 = .ok (.aload_n 0, 1) := by decide +kernel
theorem dX14_check_121 : decode cX14_check 121 = .ok (.getfield 232, 3) := by decide +kernel
theorem dX14_check_124 : decode cX14_check 124 = .ok (.getfield 358, 3) := by decide +kernel
theorem dX14_check_127 : decode cX14_check 127 = .ok (.aload_n 0, 1) := by decide +kernel
theorem dX14_check_128 : decode cX14_check 128 = .ok (.getfield 232, 3) := by decide +kernel
theorem dX14_check_131 : decode cX14_check 131 = .ok (.getfield 341, 3) := by decide +kernel
theorem dX14_check_134 : decode cX14_check 134 = .ok (.iload_n 3, 1) := by decide +kernel
theorem dX14_check_135 : decode cX14_check 135 = .ok (.iastore, 1) := by decide +kernel
theorem dX14_check_136 : decode cX14_check 136 = .ok (.aload_n 0, 1) := by decide +kernel
theorem dX14_check_137 : decode cX14_check 137 = .ok (.getfield 232, 3) := by decide +kernel
theorem dX14_check_140 : decode cX14_check 140 = .ok (.getfield 361, 3) := by decide +kernel
theorem dX14_check_143 : decode cX14_check 143 = .ok (.aload_n 0, 1) := by decide +kernel
theorem dX14_check_144 : decode cX14_check 144 = .ok (.getfield 232, 3) := by decide +kernel
theorem dX14_check_147 : decode cX14_check 147 = .ok (.getfield 341, 3) := by decide +kernel
theorem dX14_check_150 : decode cX14_check 150 = .ok (.iload 4, 2) := by decide +kernel
theorem dX14_check_152 : decode cX14_check 152 = .ok (.iastore, 1) := by decide +kernel
theorem dX14_check_153 : decode cX14_check 153 = .ok (.aload_n 0, 1) := by decide +kernel
theorem dX14_check_154 : decode cX14_check 154 = .ok (.getfield 232, 3) := by decide +kernel
theorem dX14_check_157 : decode cX14_check 157 = .ok (.dup, 1) := by decide +kernel
theorem dX14_check_158 : decode cX14_check 158 = .ok (.getfield 341, 3) := by decide +kernel
theorem dX14_check_161 : decode cX14_check 161 = .ok (.iconst 1, 1) := by decide +kernel
theorem dX14_check_162 : decode cX14_check 162 = .ok (.iadd, 1) := by decide +kernel
theorem dX14_check_163 : decode cX14_check 163 = .ok (.putfield 341, 3) := by decide +kernel
theorem dX14_check_166 : decode cX14_check 166 = .ok (.return_, 1) := by decide +kernel
theorem dX14_source_0 : decode cX14_source 0 = .ok (.aload_n 0, 1) := by decide +kernel
theorem dX14_source_1 : decode cX14_source 1 = .ok (.bipush 100, 2) := by decide +kernel
theorem dX14_source_3 : decode cX14_source 3 = .ok (.invokevirtual 284, 3) := by decide +kernel
theorem dX14_source_6 : decode cX14_source 6 = .ok (.aload_n 0, 1) := by decide +kernel
theorem dX14_source_7 : decode cX14_source 7 = .ok (.aload_n 0, 1) := by decide +kernel
theorem dX14_source_8 : decode cX14_source 8 = .ok (.invokevirtual 364, 3) := by decide +kernel
theorem dX14_source_11 : decode cX14_source 11 = .ok (.iconst 0, 1) := by decide +kernel
theorem dX14_source_12 : decode cX14_source 12 = .ok (.iconst 0, 1) := by decide +kernel
theorem dX14_source_13 : decode cX14_source 13 = .ok (.invokevirtual 316, 3) := by decide +kernel
theorem dX14_source_16 : decode cX14_source 16 = .ok (.aload_n 0, 1) := by decide +kernel
theorem dX14_source_17 : decode cX14_source 17 = .ok (.bipush 102, 2) := by decide +kernel
theorem dX14_source_19 : decode cX14_source 19 = .ok (.invokevirtual 223, 3) := by decide +kernel
theorem dX14_source_22 : decode cX14_source 22 = .ok (.ifCond .eq 20, 3) := by decide +kernel
theorem dX14_source_25 : decode cX14_source 25 = .ok (.aload_n 0, 1) := by decide +kernel
theorem dX14_source_26 : decode cX14_source 26 = .ok (.invokevirtual 226, 3) := by decide +kernel
theorem dX14_source_29 : decode cX14_source 29 = .ok (.aload_n 0, 1) := by decide +kernel
theorem dX14_source_30 : decode cX14_source 30 = .ok (.aload_n 0, 1) := by decide +kernel
theorem dX14_source_31 : decode cX14_source 31 = .ok (.invokevirtual 364, 3) := by decide +kernel
theorem dX14_source_34 : decode cX14_source 34 = .ok (.iconst 0, 1) := by decide +kernel
theorem dX14_source_35 : decode cX14_source 35 = .ok (.iconst 0, 1) := by decide +kernel
theorem dX14_source_36 : decode cX14_source 36 = .ok (.invokevirtual 316, 3) := by decide +kernel
theorem dX14_source_39 : decode cX14_source 39 = .ok (.goto (-23), 3) := by decide +kernel
theorem dX14_source_42 : decode cX14_source 42 = .ok (.aload_n 0, 1) := by decide +kernel
theorem dX14_source_43 : decode cX14_source 43 = .ok (.bipush 101, 2) := by decide +kernel
theorem dX14_source_45 : decode cX14_source 45 = .ok (.invokevirtual 284, 3) := by decide +kernel
theorem dX14_source_48 : decode cX14_source 48 = .ok (.aload_n 0, 1) := by decide +kernel
theorem dX14_source_49 : decode cX14_source 49 = .ok (.getfield 232, 3) := by decide +kernel
theorem dX14_source_52 : decode cX14_source 52 = .ok (.getfield 368, 3) := by decide +kernel
theorem dX14_source_55 : decode cX14_source 55 = .ok (.iload_n 1, 1) := by decide +kernel
theorem dX14_source_56 : decode cX14_source 56 = .ok (.iconst 0, 1) := by decide +kernel
theorem dX14_source_57 : decode cX14_source 57 = .ok (.iastore, 1) := by decide +kernel
theorem dX14_source_58 : decode cX14_source 58 = .ok (.aload_n 0, 1) := by decide +kernel
theorem dX14_source_59 : decode cX14_source 59 = .ok (.getfield 232, 3) := by decide +kernel
theorem dX14_source_62 : decode cX14_source 62 = .ok (.getfield 369, 3) := by decide +kernel
theorem dX14_source_65 : decode cX14_source 65 = .ok (.iload_n 1, 1) := by decide +kernel
theorem dX14_source_66 : decode cX14_source 66 = .ok (.iconst 0, 1) := by decide +kernel
theorem dX14_source_67 : decode cX14_source 67 = .ok (.iastore, 1) := by decide +kernel
theorem dX14_source_68 : decode cX14_source 68 = .ok (.aload_n 0, 1) := by decide +kernel
theorem dX14_source_69 : decode cX14_source 69 = .ok (.iconst 1, 1) := by decide +kernel
theorem dX14_source_70 : decode cX14_source 70 = .ok (.invokevirtual 223, 3) := by decide +kernel
theorem dX14_source_73 : decode cX14_source 73 = .ok (.ifCond .ne 4, 3) := by decide +kernel
theorem dX14_source_76 : decode cX14_source 76 = .ok (.return_, 1) := by decide +kernel
theorem dX14_source_77 : decode cX14_source 77 = .ok (.aload_n 0, 1) := by decide +kernel
theorem dX14_source_78 : decode cX14_source 78 = .ok (.invokevirtual 226, 3) := by decide +kernel
theorem dX14_source_81 : decode cX14_source 81 = .ok (.aload_n 0, 1) := by decide +kernel
theorem dX14_source_82 : decode cX14_source 82 = .ok (.getfield 232, 3) := by decide +kernel
theorem dX14_source_85 : decode cX14_source 85 = .ok (.getfield 369, 3) := by decide +kernel
theorem dX14_source_88 : decode cX14_source 88 = .ok (.iload_n 1, 1) := by decide +kernel
theorem dX14_source_89 : decode cX14_source 89 = .ok (.aload_n 0, 1) := by decide +kernel
theorem dX14_source_90 : decode cX14_source 90 = .ok (.iconst 0, 1) := by decide +kernel
theorem dX14_source_91 : decode cX14_source 91 = .ok (.invokevirtual 372, 3) := by decide +kernel
theorem dX14_source_94 : decode cX14_source 94 = .ok (.iastore, 1) := by decide +kernel
theorem dX14_source_95 : decode cX14_source 95 = .ok (.return_, 1) := by decide +kernel
theorem dX14_work_0 : decode cX14_work 0 = .ok (.aload_n 0, 1) := by decide +kernel
theorem dX14_work_1 : decode cX14_work 1 = .ok (.getfield 24, 3) := by decide +kernel
theorem dX14_work_4 : decode cX14_work 4 = .ok (.aload_n 0, 1) := by decide +kernel
theorem dX14_work_5 : decode cX14_work 5 = .ok (.getfield 204, 3) := by decide +kernel
theorem dX14_work_8 : decode cX14_work 8 = .ok (.iaload, 1) := by decide +kernel
theorem dX14_work_9 : decode cX14_work 9 = .ok (.istore_n 2, 1) := by decide +kernel
theorem dX14_work_10 : decode cX14_work 10 = .ok (.aload_n 0, 1) := by decide +kernel
theorem dX14_work_11 : decode cX14_work 11 = .ok (.getfield 27, 3) := by decide +kernel
theorem dX14_work_14 : decode cX14_work 14 = .ok (.aload_n 0, 1) := by decide +kernel
theorem dX14_work_15 : decode cX14_work 15 = .ok (.getfield 204, 3) := by decide +kernel
theorem dX14_work_18 : decode cX14_work 18 = .ok (.iaload, 1) := by decide +kernel
theorem dX14_work_19 : decode cX14_work 19 = .ok (.istore_n 3, 1) := by decide +kernel
theorem dX14_work_20 : decode cX14_work 20 = .ok (.bipush 7, 2) := by decide +kernel
theorem dX14_work_22 : decode cX14_work 22 = .ok (.newarray .int, 2) := by decide +kernel
theorem dX14_work_24 : decode cX14_work 24 = .ok (.dup, 1) := by decide +kernel
theorem dX14_work_25 : decode cX14_work 25 = .ok (.iconst 0, 1) := by decide +kernel
theorem dX14_work_26 : decode cX14_work 26 = .ok (.iconst 3, 1) := by decide +kernel
theorem dX14_work_27 : decode cX14_work 27 = .ok (.iastore, 1) := by decide +kernel
theorem dX14_work_28 : decode cX14_work 28 = .ok (.dup, 1) := by decide +kernel
theorem dX14_work_29 : decode cX14_work 29 = .ok (.iconst 1, 1) := by decide +kernel
theorem dX14_work_30 : decode cX14_work 30 = .ok (.iconst 5, 1) := by decide +kernel
theorem dX14_work_31 : decode cX14_work 31 = .ok (.iastore, 1) := by decide +kernel
theorem dX14_work_32 : decode cX14_work 32 = .ok (.dup, 1) := by decide +kernel
theorem dX14_work_33 : decode cX14_work 33 = .ok (.iconst 2, 1) := by decide +kernel
theorem dX14_work_34 : decode cX14_work 34 = .ok (.bipush 7, 2) := by decide +kernel
theorem dX14_work_36 : decode cX14_work 36 = .ok (.iastore, 1) := by decide +kernel
theorem dX14_work_37 : decode cX14_work 37 = .ok (.dup, 1) := by decide +kernel
theorem dX14_work_38 : decode cX14_work 38 = .ok (.iconst 3, 1) := by decide +kernel
theorem dX14_work_39 : decode cX14_work 39 = .ok (.bipush 8, 2) := by decide +kernel
theorem dX14_work_41 : decode cX14_work 41 = .ok (.iastore, 1) := by decide +kernel
theorem dX14_work_42 : decode cX14_work 42 = .ok (.dup, 1) := by decide +kernel
theorem dX14_work_43 : decode cX14_work 43 = .ok (.iconst 4, 1) := by decide +kernel
theorem dX14_work_44 : decode cX14_work 44 = .ok (.bipush 9, 2) := by decide +kernel
theorem dX14_work_46 : decode cX14_work 46 = .ok (.iastore, 1) := by decide +kernel
theorem dX14_work_47 : decode cX14_work 47 = .ok (.dup, 1) := by decide +kernel
theorem dX14_work_48 : decode cX14_work 48 = .ok (.iconst 5, 1) := by decide +kernel
theorem dX14_work_49 : decode cX14_work 49 = .ok (.bipush 12, 2) := by decide +kernel
theorem dX14_work_51 : decode cX14_work 51 = .ok (.iastore, 1) := by decide +kernel
theorem dX14_work_52 : decode cX14_work 52 = .ok (.dup, 1) := by decide +kernel
theorem dX14_work_53 : decode cX14_work 53 = .ok (.bipush 6, 2) := by decide +kernel
theorem dX14_work_55 : decode cX14_work 55 = .ok (.bipush 14, 2) := by decide +kernel
theorem dX14_work_57 : decode cX14_work 57 = .ok (.iastore, 1) := by decide +kernel
theorem dX14_work_58 : decode cX14_work 58 = .ok (.astore 4, 2) := by decide +kernel
theorem dX14_work_60 : decode cX14_work 60 = .ok (.iconst (-1), 1) := by decide +kernel
theorem dX14_work_61 : decode cX14_work 61 = .ok (.istore 5, 2) := by decide +kernel
theorem dX14_work_63 : decode cX14_work 63 = .ok (.iconst 0, 1) := by decide +kernel
theorem dX14_work_64 : decode cX14_work 64 = .ok (.istore 6, 2) := by decide +kernel
theorem dX14_work_66 : decode cX14_work 66 = .ok (.iload 6, 2) := by decide +kernel
theorem dX14_work_68 : decode cX14_work 68 = .ok (.aload 4, 2) := by decide +kernel
theorem dX14_work_70 : decode cX14_work 70 = .ok (.arraylength, 1) := by decide +kernel
theorem dX14_work_71 : decode cX14_work 71 = .ok (.if_icmp .ge 22, 3) := by decide +kernel
theorem dX14_work_74 : decode cX14_work 74 = .ok (.aload 4, 2) := by decide +kernel
theorem dX14_work_76 : decode cX14_work 76 = .ok (.iload 6, 2) := by decide +kernel
theorem dX14_work_78 : decode cX14_work 78 = .ok (.iaload, 1) := by decide +kernel
theorem dX14_work_79 : decode cX14_work 79 = .ok (.iload_n 2, 1) := by decide +kernel
theorem dX14_work_80 : decode cX14_work 80 = .ok (.if_icmp .ne 7, 3) := by decide +kernel
theorem dX14_work_83 : decode cX14_work 83 = .ok (.iload 6, 2) := by decide +kernel
theorem dX14_work_85 : decode cX14_work 85 = .ok (.istore 5, 2) := by decide +kernel
theorem dX14_work_87 : decode cX14_work 87 = .ok (.iinc 6 1, 3) := by decide +kernel
theorem dX14_work_90 : decode cX14_work 90 = .ok (.goto (-24), 3) := by decide +kernel
theorem dX14_work_93 : decode cX14_work 93 = .ok (.iload 5, 2) := by decide +kernel
theorem dX14_work_95 : decode cX14_work 95 = .ok (.iconst (-1), 1) := by decide +kernel
theorem dX14_work_96 : decode cX14_work 96 = .ok (.if_icmp .ne 8, 3) := by decide +kernel
theorem dX14_work_99 : decode cX14_work 99 = .ok (.aload_n 0, 1) := by decide +kernel
theorem dX14_work_100 : decode cX14_work 100 = .ok (.invokevirtual 219, 3) := by decide +kernel
theorem dX14_work_103 : decode cX14_work 103 = .ok (.athrow, 1) := by decide +kernel
theorem dX14_work_104 : decode cX14_work 104 = .ok (.aload_n 0, 1) := by decide +kernel
theorem dX14_work_105 : decode cX14_work 105 = .ok (.invokevirtual 226, 3) := by decide +kernel
theorem dX14_work_108 : decode cX14_work 108 = .ok (.aload_n 0, 1) := by decide +kernel
theorem dX14_work_109 : decode cX14_work 109 = .ok (.invokevirtual 344, 3) := by decide +kernel
theorem dX14_work_112 : decode cX14_work 112 = .ok (.istore 6, 2) := by decide +kernel
theorem dX14_work_114 : decode cX14_work 114 = .ok (.aload_n 0, 1) := by decide +kernel
theorem dX14_work_115 : decode cX14_work 115 = .ok (.getfield 232, 3) := by decide +kernel
theorem dX14_work_118 : decode cX14_work 118 = .ok (.getfield 368, 3) := by decide +kernel
theorem dX14_work_121 : decode cX14_work 121 = .ok (.iload_n 1, 1) := by decide +kernel
theorem dX14_work_122 : decode cX14_work 122 = .ok (.iload 5, 2) := by decide +kernel
theorem dX14_work_124 : decode cX14_work 124 = .ok (.iconst 1, 1) := by decide +kernel
theorem dX14_work_125 : decode cX14_work 125 = .ok (.iadd, 1) := by decide +kernel
theorem dX14_work_126 : decode cX14_work 126 = .ok (.iastore, 1) := by decide +kernel
theorem dX14_work_127 : decode cX14_work 127 = .ok (.aload_n 0, 1) := by decide +kernel
theorem dX14_work_128 : decode cX14_work 128 = .ok (.getfield 232, 3) := by decide +kernel
theorem dX14_work_131 : decode cX14_work 131 = .ok (.getfield 323, 3) := by decide +kernel
theorem dX14_work_134 : decode cX14_work 134 = .ok (.iload_n 1, 1) := by decide +kernel
theorem dX14_work_135 : decode cX14_work 135 = .ok (.iload 6, 2) := by decide +kernel
theorem dX14_work_137 : decode cX14_work 137 = .ok (.iastore, 1) := by decide +kernel
theorem dX14_work_138 : decode cX14_work 138 = .ok (.aload_n 0, 1) := by decide +kernel
theorem dX14_work_139 : decode cX14_work 139 = .ok (.iload 6, 2) := by decide +kernel
theorem dX14_work_141 : decode cX14_work 141 = .ok (.putfield 270, 3) := by decide +kernel
theorem dX14_work_144 : decode cX14_work 144 = .ok (.iload_n 2, 1) := by decide +kernel
theorem dX14_work_145 : decode cX14_work 145 = .ok (.iconst 3, 1) := by decide +kernel
theorem dX14_work_146 : decode cX14_work 146 = .ok (.if_icmp .ne 31, 3) := by decide +kernel
theorem dX14_work_149 : decode cX14_work 149 = .ok (.aload_n 0, 1) := by decide +kernel
theorem dX14_work_150 : decode cX14_work 150 = .ok (.iconst 4, 1) := by decide +kernel
theorem dX14_work_151 : decode cX14_work 151 = .ok (.invokevirtual 284, 3) := by decide +kernel
theorem dX14_work_154 : decode cX14_work 154 = .ok (.aload_n 0, 1) := by decide +kernel
theorem dX14_work_155 : decode cX14_work 155 = .ok (.getfield 232, 3) := by decide +kernel
theorem dX14_work_158 : decode cX14_work 158 = .ok (.getfield 369, 3) := by decide +kernel
theorem dX14_work_161 : decode cX14_work 161 = .ok (.iload_n 1, 1) := by decide +kernel
theorem dX14_work_162 : decode cX14_work 162 = .ok (.aload_n 0, 1) := by decide +kernel
theorem dX14_work_163 : decode cX14_work 163 = .ok (.invokevirtual 348, 3) := by decide +kernel
theorem dX14_work_166 : decode cX14_work 166 = .ok (.iastore, 1) := by decide +kernel
theorem dX14_work_167 : decode cX14_work 167 = .ok (.aload_n 0, 1) := by decide +kernel
theorem dX14_work_168 : decode cX14_work 168 = .ok (.iload 6, 2) := by decide +kernel
theorem dX14_work_170 : decode cX14_work 170 = .ok (.iconst (-1), 1) := by decide +kernel
theorem dX14_work_171 : decode cX14_work 171 = .ok (.invokevirtual 375, 3) := by decide +kernel
theorem dX14_work_174 : decode cX14_work 174 = .ok (.goto 333, 3) := by decide +kernel
theorem dX14_work_177 : decode cX14_work 177 = .ok (.iload_n 2, 1) := by decide +kernel
theorem dX14_work_178 : decode cX14_work 178 = .ok (.iconst 5, 1) := by decide +kernel
theorem dX14_work_179 : decode cX14_work 179 = .ok (.if_icmp .ne 40, 3) := by decide +kernel
theorem dX14_work_182 : decode cX14_work 182 = .ok (.aload_n 0, 1) := by decide +kernel
theorem dX14_work_183 : decode cX14_work 183 = .ok (.iload 6, 2) := by decide +kernel
theorem dX14_work_185 : decode cX14_work 185 = .ok (.iconst (-1), 1) := by decide +kernel
theorem dX14_work_186 : decode cX14_work 186 = .ok (.invokevirtual 375, 3) := by decide +kernel
theorem dX14_work_189 : decode cX14_work 189 = .ok (.aload_n 0, 1) := by decide +kernel
theorem dX14_work_190 : decode cX14_work 190 = .ok (.bipush 6, 2) := by decide +kernel
theorem dX14_work_192 : decode cX14_work 192 = .ok (.invokevirtual 284, 3) := by decide +kernel
theorem dX14_work_195 : decode cX14_work 195 = .ok (.aload_n 0, 1) := by decide +kernel
theorem dX14_work_196 : decode cX14_work 196 = .ok (.invokevirtual 378, 3) := by decide +kernel
theorem dX14_work_199 : decode cX14_work 199 = .ok (.aload_n 0, 1) := by decide +kernel
theorem dX14_work_200 : decode cX14_work 200 = .ok (.bipush 102, 2) := by decide +kernel
theorem dX14_work_202 : decode cX14_work 202 = .ok (.invokevirtual 223, 3) := by decide +kernel
theorem dX14_work_205 : decode cX14_work 205 = .ok (.ifCond .eq 302, 3) := by decide +kernel
theorem dX14_work_208 : decode cX14_work 208 = .ok (.aload_n 0, 1) := by decide +kernel
theorem dX14_work_209 : decode cX14_work 209 = .ok (.invokevirtual 226, 3) := by decide +kernel
theorem dX14_work_212 : decode cX14_work 212 = .ok (.aload_n 0, 1) := by decide +kernel
theorem dX14_work_213 : decode cX14_work 213 = .ok (.invokevirtual 378, 3) := by decide +kernel
theorem dX14_work_216 : decode cX14_work 216 = .ok (.goto (-17), 3) := by decide +kernel
theorem dX14_work_219 : decode cX14_work 219 = .ok (.iload_n 2, 1) := by decide +kernel
theorem dX14_work_220 : decode cX14_work 220 = .ok (.bipush 7, 2) := by decide +kernel
theorem dX14_work_222 : decode cX14_work 222 = .ok (.if_icmp .ne 46, 3) := by decide +kernel
theorem dX14_work_225 : decode cX14_work 225 = .ok (.aload_n 0, 1) := by decide +kernel
theorem dX14_work_226 : decode cX14_work 226 = .ok (.bipush 100, 2) := by decide +kernel
theorem dX14_work_228 : decode cX14_work 228 = .ok (.invokevirtual 284, 3) := by decide +kernel
theorem dX14_work_231 : decode cX14_work 231 = .ok (.aload_n 0, 1) := by decide +kernel
theorem dX14_work_232 : decode cX14_work 232 = .ok (.iload 6, 2) := by decide +kernel
theorem dX14_work_234 : decode cX14_work 234 = .ok (.invokevirtual 381, 3) := by decide +kernel
theorem dX14_work_237 : decode cX14_work 237 = .ok (.aload_n 0, 1) := by decide +kernel
theorem dX14_work_238 : decode cX14_work 238 = .ok (.bipush 102, 2) := by decide +kernel
theorem dX14_work_240 : decode cX14_work 240 = .ok (.invokevirtual 223, 3) := by decide +kernel
theorem dX14_work_243 : decode cX14_work 243 = .ok (.ifCond .eq 16, 3) := by decide +kernel
theorem dX14_work_246 : decode cX14_work 246 = .ok (.aload_n 0, 1) := by decide +kernel
theorem dX14_work_247 : decode cX14_work 247 = .ok (.invokevirtual 226, 3) := by decide +kernel
theorem dX14_work_250 : decode cX14_work 250 = .ok (.aload_n 0, 1) := by decide +kernel
theorem dX14_work_251 : decode cX14_work 251 = .ok (.iload 6, 2) := by decide +kernel
theorem dX14_work_253 : decode cX14_work 253 = .ok (.invokevirtual 381, 3) := by decide +kernel
theorem dX14_work_256 : decode cX14_work 256 = .ok (.goto (-19), 3) := by decide +kernel
theorem dX14_work_259 : decode cX14_work 259 = .ok (.aload_n 0, 1) := by decide +kernel
theorem dX14_work_260 : decode cX14_work 260 = .ok (.bipush 101, 2) := by decide +kernel
theorem dX14_work_262 : decode cX14_work 262 = .ok (.invokevirtual 284, 3) := by decide +kernel
theorem dX14_work_265 : decode cX14_work 265 = .ok (.goto 242, 3) := by decide +kernel
theorem dX14_work_268 : decode cX14_work 268 = .ok (.iload_n 2, 1) := by decide +kernel
theorem dX14_work_269 : decode cX14_work 269 = .ok (.bipush 8, 2) := by decide +kernel
theorem dX14_work_271 : decode cX14_work 271 = .ok (.if_icmp .ne 156, 3) := by decide +kernel
theorem dX14_work_274 : decode cX14_work 274 = .ok (.aload_n 0, 1) := by decide +kernel
theorem dX14_work_275 : decode cX14_work 275 = .ok (.bipush 102, 2) := by decide +kernel
theorem dX14_work_277 : decode cX14_work 277 = .ok (.invokevirtual 284, 3) := by decide +kernel
theorem dX14_work_280 : decode cX14_work 280 = .ok (.aload_n 0, 1) := by decide +kernel
theorem dX14_work_281 : decode cX14_work 281 = .ok (.getfield 232, 3) := by decide +kernel
theorem dX14_work_284 : decode cX14_work 284 = .ok (.getfield 326, 3) := by decide +kernel
theorem dX14_work_287 : decode cX14_work 287 = .ok (.iload_n 1, 1) := by decide +kernel
theorem dX14_work_288 : decode cX14_work 288 = .ok (.aload_n 0, 1) := by decide +kernel
theorem dX14_work_289 : decode cX14_work 289 = .ok (.invokevirtual 344, 3) := by decide +kernel
theorem dX14_work_292 : decode cX14_work 292 = .ok (.iastore, 1) := by decide +kernel
theorem dX14_work_293 : decode cX14_work 293 = .ok (.aload_n 0, 1) := by decide +kernel
theorem dX14_work_294 : decode cX14_work 294 = .ok (.getfield 232, 3) := by decide +kernel
theorem dX14_work_297 : decode cX14_work 297 = .ok (.getfield 292, 3) := by decide +kernel
theorem dX14_work_300 : decode cX14_work 300 = .ok (.iload 6, 2) := by decide +kernel
theorem dX14_work_302 : decode cX14_work 302 = .ok (.iaload, 1) := by decide +kernel
theorem dX14_work_303 : decode cX14_work 303 = .ok (.aload_n 0, 1) := by decide +kernel
theorem dX14_work_304 : decode cX14_work 304 = .ok (.getfield 232, 3) := by decide +kernel
theorem dX14_work_307 : decode cX14_work 307 = .ok (.getfield 292, 3) := by decide +kernel
theorem dX14_work_310 : decode cX14_work 310 = .ok (.aload_n 0, 1) := by decide +kernel
theorem dX14_work_311 : decode cX14_work 311 = .ok (.getfield 232, 3) := by decide +kernel
theorem dX14_work_314 : decode cX14_work 314 = .ok (.getfield 326, 3) := by decide +kernel
theorem dX14_work_317 : decode cX14_work 317 = .ok (.iload_n 1, 1) := by decide +kernel
theorem dX14_work_318 : decode cX14_work 318 = .ok (.iaload, 1) := by decide +kernel
theorem dX14_work_319 : decode cX14_work 319 = .ok (.iaload, 1) := by decide +kernel
theorem dX14_work_320 : decode cX14_work 320 = .ok (.if_icmp .ne 7, 3) := by decide +kernel
theorem dX14_work_323 : decode cX14_work 323 = .ok (.iconst 1, 1) := by decide +kernel
theorem dX14_work_324 : decode cX14_work 324 = .ok (.goto 4, 3) := by decide +kernel
theorem dX14_work_327 : decode cX14_work 327 = .ok (.iconst 0, 1) := by decide +kernel
theorem dX14_work_328 : decode cX14_work 328 = .ok (.istore 7, 2) := by decide +kernel
theorem dX14_work_330 : decode cX14_work 330 = .ok (.iconst 0, 1) := by decide +kernel
theorem dX14_work_331 : decode cX14_work 331 = .ok (.istore 8, 2) := by decide +kernel
theorem dX14_work_333 : decode cX14_work 333 = .ok (.iload 8, 2) := by decide +kernel
theorem dX14_work_335 : decode cX14_work 335 = .ok (.aload_n 0, 1) := by decide +kernel
theorem dX14_work_336 : decode cX14_work 336 = .ok (.getfield 232, 3) := by decide +kernel
theorem dX14_work_339 : decode cX14_work 339 = .ok (.getfield 292, 3) := by decide +kernel
theorem dX14_work_342 : decode cX14_work 342 = .ok (.iload 6, 2) := by decide +kernel
theorem dX14_work_344 : decode cX14_work 344 = .ok (.iaload, 1) := by decide +kernel
theorem dX14_work_345 : decode cX14_work 345 = .ok (.if_icmp .ge 64, 3) := by decide +kernel
theorem dX14_work_348 : decode cX14_work 348 = .ok (.iload 7, 2) := by decide +kernel
theorem dX14_work_350 : decode cX14_work 350 = .ok (.ifCond .eq 59, 3) := by decide +kernel
theorem dX14_work_353 : decode cX14_work 353 = .ok (.aload_n 0, 1) := by decide +kernel
theorem dX14_work_354 : decode cX14_work 354 = .ok (.getfield 232, 3) := by decide +kernel
theorem dX14_work_357 : decode cX14_work 357 = .ok (.getfield 289, 3) := by decide +kernel
theorem dX14_work_360 : decode cX14_work 360 = .ok (.bipush 6, 2) := by decide +kernel
theorem dX14_work_362 : decode cX14_work 362 = .ok (.iload 6, 2) := by decide +kernel
theorem dX14_work_364 : decode cX14_work 364 = .ok (.imul, 1) := by decide +kernel
theorem dX14_work_365 : decode cX14_work 365 = .ok (.iload 8, 2) := by decide +kernel
theorem dX14_work_367 : decode cX14_work 367 = .ok (.iadd, 1) := by decide +kernel
theorem dX14_work_368 : decode cX14_work 368 = .ok (.laload, 1) := by decide +kernel
theorem dX14_work_369 : decode cX14_work 369 = .ok (.aload_n 0, 1) := by decide +kernel
theorem dX14_work_370 : decode cX14_work 370 = .ok (.getfield 232, 3) := by decide +kernel
theorem dX14_work_373 : decode cX14_work 373 = .ok (.getfield 289, 3) := by decide +kernel
theorem dX14_work_376 : decode cX14_work 376 = .ok (.bipush 6, 2) := by decide +kernel
theorem dX14_work_378 : decode cX14_work 378 = .ok (.aload_n 0, 1) := by decide +kernel
theorem dX14_work_379 : decode cX14_work 379 = .ok (.getfield 232, 3) := by decide +kernel
theorem dX14_work_382 : decode cX14_work 382 = .ok (.getfield 326, 3) := by decide +kernel
theorem dX14_work_385 : decode cX14_work 385 = .ok (.iload_n 1, 1) := by decide +kernel
theorem dX14_work_386 : decode cX14_work 386 = .ok (.iaload, 1) := by decide +kernel
theorem dX14_work_387 : decode cX14_work 387 = .ok (.imul, 1) := by decide +kernel
theorem dX14_work_388 : decode cX14_work 388 = .ok (.iload 8, 2) := by decide +kernel
theorem dX14_work_390 : decode cX14_work 390 = .ok (.iadd, 1) := by decide +kernel
theorem dX14_work_391 : decode cX14_work 391 = .ok (.laload, 1) := by decide +kernel
theorem dX14_work_392 : decode cX14_work 392 = .ok (.lcmp, 1) := by decide +kernel
theorem dX14_work_393 : decode cX14_work 393 = .ok (.ifCond .ne 7, 3) := by decide +kernel
theorem dX14_work_396 : decode cX14_work 396 = .ok (.iconst 1, 1) := by decide +kernel
theorem dX14_work_397 : decode cX14_work 397 = .ok (.goto 4, 3) := by decide +kernel
theorem dX14_work_400 : decode cX14_work 400 = .ok (.iconst 0, 1) := by decide +kernel
theorem dX14_work_401 : decode cX14_work 401 = .ok (.istore 7, 2) := by decide +kernel
theorem dX14_work_403 : decode cX14_work 403 = .ok (.iinc 8 1, 3) := by decide +kernel
theorem dX14_work_406 : decode cX14_work 406 = .ok (.goto (-73), 3) := by decide +kernel
theorem dX14_work_409 : decode cX14_work 409 = .ok (.aload_n 0, 1) := by decide +kernel
theorem dX14_work_410 : decode cX14_work 410 = .ok (.iload 7, 2) := by decide +kernel
theorem dX14_work_412 : decode cX14_work 412 = .ok (.iconst 3, 1) := by decide +kernel
theorem dX14_work_413 : decode cX14_work 413 = .ok (.iload_n 3, 1) := by decide +kernel
theorem dX14_work_414 : decode cX14_work 414 = .ok (.invokevirtual 277, 3) := by decide +kernel
theorem dX14_work_417 : decode cX14_work 417 = .ok (.aload_n 0, 1) := by decide +kernel
theorem dX14_work_418 : decode cX14_work 418 = .ok (.iload 6, 2) := by decide +kernel
theorem dX14_work_420 : decode cX14_work 420 = .ok (.iconst (-1), 1) := by decide +kernel
theorem dX14_work_421 : decode cX14_work 421 = .ok (.invokevirtual 375, 3) := by decide +kernel
theorem dX14_work_424 : decode cX14_work 424 = .ok (.goto 83, 3) := by decide +kernel
theorem dX14_work_427 : decode cX14_work 427 = .ok (.iload_n 2, 1) := by decide +kernel
theorem dX14_work_428 : decode cX14_work 428 = .ok (.bipush 9, 2) := by decide +kernel
theorem dX14_work_430 : decode cX14_work 430 = .ok (.if_icmp .ne 13, 3) := by decide +kernel
theorem dX14_work_433 : decode cX14_work 433 = .ok (.aload_n 0, 1) := by decide +kernel
theorem dX14_work_434 : decode cX14_work 434 = .ok (.iload_n 1, 1) := by decide +kernel
theorem dX14_work_435 : decode cX14_work 435 = .ok (.iload 6, 2) := by decide +kernel
theorem dX14_work_437 : decode cX14_work 437 = .ok (.invokevirtual 384, 3) := by decide +kernel
theorem dX14_work_440 : decode cX14_work 440 = .ok (.goto 67, 3) := by decide +kernel
theorem dX14_work_443 : decode cX14_work 443 = .ok (.iload_n 2, 1) := by decide +kernel
theorem dX14_work_444 : decode cX14_work 444 = .ok (.bipush 12, 2) := by decide +kernel
theorem dX14_work_446 : decode cX14_work 446 = .ok (.if_icmp .ne 54, 3) := by decide +kernel
theorem dX14_work_449 : decode cX14_work 449 = .ok (.aload_n 0, 1) := by decide +kernel
theorem dX14_work_450 : decode cX14_work 450 = .ok (.bipush 13, 2) := by decide +kernel
theorem dX14_work_452 : decode cX14_work 452 = .ok (.invokevirtual 284, 3) := by decide +kernel
theorem dX14_work_455 : decode cX14_work 455 = .ok (.aload_n 0, 1) := by decide +kernel
theorem dX14_work_456 : decode cX14_work 456 = .ok (.getfield 232, 3) := by decide +kernel
theorem dX14_work_459 : decode cX14_work 459 = .ok (.getfield 387, 3) := by decide +kernel
theorem dX14_work_462 : decode cX14_work 462 = .ok (.iload_n 1, 1) := by decide +kernel
theorem dX14_work_463 : decode cX14_work 463 = .ok (.aload_n 0, 1) := by decide +kernel
theorem dX14_work_464 : decode cX14_work 464 = .ok (.iload 6, 2) := by decide +kernel
theorem dX14_work_466 : decode cX14_work 466 = .ok (.invokevirtual 390, 3) := by decide +kernel
theorem dX14_work_469 : decode cX14_work 469 = .ok (.iastore, 1) := by decide +kernel
theorem dX14_work_470 : decode cX14_work 470 = .ok (.aload_n 0, 1) := by decide +kernel
theorem dX14_work_471 : decode cX14_work 471 = .ok (.bipush 11, 2) := by decide +kernel
theorem dX14_work_473 : decode cX14_work 473 = .ok (.invokevirtual 284, 3) := by decide +kernel
theorem dX14_work_476 : decode cX14_work 476 = .ok (.aload_n 0, 1) := by decide +kernel
theorem dX14_work_477 : decode cX14_work 477 = .ok (.getfield 232, 3) := by decide +kernel
theorem dX14_work_480 : decode cX14_work 480 = .ok (.getfield 369, 3) := by decide +kernel
theorem dX14_work_483 : decode cX14_work 483 = .ok (.iload_n 1, 1) := by decide +kernel
theorem dX14_work_484 : decode cX14_work 484 = .ok (.aload_n 0, 1) := by decide +kernel
theorem dX14_work_485 : decode cX14_work 485 = .ok (.iconst 0, 1) := by decide +kernel
theorem dX14_work_486 : decode cX14_work 486 = .ok (.invokevirtual 372, 3) := by decide +kernel
theorem dX14_work_489 : decode cX14_work 489 = .ok (.iastore, 1) := by decide +kernel
theorem dX14_work_490 : decode cX14_work 490 = .ok (.aload_n 0, 1) := by decide +kernel
theorem dX14_work_491 : decode cX14_work 491 = .ok (.iload 6, 2) := by decide +kernel
theorem dX14_work_493 : decode cX14_work 493 = .ok (.iconst (-1), 1) := by decide +kernel
theorem dX14_work_494 : decode cX14_work 494 = .ok (.invokevirtual 375, 3) := by decide +kernel
theorem dX14_work_497 : decode cX14_work 497 = .ok (.goto 10, 3) := by decide +kernel
theorem dX14_work_500 : decode cX14_work 500 = .ok (.aload_n 0, 1) := by decide +kernel
theorem dX14_work_501 : decode cX14_work 501 = .ok (.iload_n 1, 1) := by decide +kernel
theorem dX14_work_502 : decode cX14_work 502 = .ok (.iload 6, 2) := by decide +kernel
theorem dX14_work_504 : decode cX14_work 504 = .ok (.invokevirtual 393, 3) := by decide +kernel
theorem dX14_work_507 : decode cX14_work 507 = .ok (.return_, 1) := by decide +kernel
theorem dX14_makeOne_0 : decode cX14_makeOne 0 = .ok (.aload_n 0, 1) := by decide +kernel
theorem dX14_makeOne_1 : decode cX14_makeOne 1 = .ok (.invokevirtual 364, 3) := by decide +kernel
theorem dX14_makeOne_4 : decode cX14_makeOne 4 = .ok (.lstore_n 1, 1) := by decide +kernel
theorem dX14_makeOne_5 : decode cX14_makeOne 5 = .ok (.aload_n 0, 1) := by decide +kernel
theorem dX14_makeOne_6 : decode cX14_makeOne 6 = .ok (.bipush 104, 2) := by decide +kernel
theorem dX14_makeOne_8 : decode cX14_makeOne 8 = .ok (.invokevirtual 284, 3) := by decide +kernel
theorem dX14_makeOne_11 : decode cX14_makeOne 11 = .ok (.aload_n 0, 1) := by decide +kernel
theorem dX14_makeOne_12 : decode cX14_makeOne 12 = .ok (.lload_n 1, 1) := by decide +kernel
theorem dX14_makeOne_13 : decode cX14_makeOne 13 = .ok (.aload_n 0, 1) := by decide +kernel
theorem dX14_makeOne_14 : decode cX14_makeOne 14 = .ok (.invokevirtual 348, 3) := by decide +kernel
theorem dX14_makeOne_17 : decode cX14_makeOne 17 = .ok (.iconst 1, 1) := by decide +kernel
theorem dX14_makeOne_18 : decode cX14_makeOne 18 = .ok (.invokevirtual 316, 3) := by decide +kernel
theorem dX14_makeOne_21 : decode cX14_makeOne 21 = .ok (.return_, 1) := by decide +kernel
theorem dX14_pickOne_0 : decode cX14_pickOne 0 = .ok (.aload_n 0, 1) := by decide +kernel
theorem dX14_pickOne_1 : decode cX14_pickOne 1 = .ok (.sipush 200, 3) := by decide +kernel
theorem dX14_pickOne_4 : decode cX14_pickOne 4 = .ok (.invokevirtual 223, 3) := by decide +kernel
theorem dX14_pickOne_7 : decode cX14_pickOne 7 = .ok (.ifCond .ne 8, 3) := by decide +kernel
theorem dX14_pickOne_10 : decode cX14_pickOne 10 = .ok (.aload_n 0, 1) := by decide +kernel
theorem dX14_pickOne_11 : decode cX14_pickOne 11 = .ok (.invokevirtual 219, 3) := by decide +kernel
theorem dX14_pickOne_14 : decode cX14_pickOne 14 = .ok (.athrow, 1) := by decide +kernel
theorem dX14_pickOne_15 : decode cX14_pickOne 15 = .ok (.aload_n 0, 1) := by decide +kernel
theorem dX14_pickOne_16 : decode cX14_pickOne 16 = .ok (.getfield 212, 3) := by decide +kernel
theorem dX14_pickOne_19 : decode cX14_pickOne 19 = .ok (.ifCond .eq 20, 3) := by decide +kernel
theorem dX14_pickOne_22 : decode cX14_pickOne 22 = .ok (.aload_n 0, 1) := by decide +kernel
theorem dX14_pickOne_23 : decode cX14_pickOne 23 = .ok (.iload_n 1, 1) := by decide +kernel
theorem dX14_pickOne_24 : decode cX14_pickOne 24 = .ok (.aload_n 0, 1) := by decide +kernel
theorem dX14_pickOne_25 : decode cX14_pickOne 25 = .ok (.getfield 30, 3) := by decide +kernel
theorem dX14_pickOne_28 : decode cX14_pickOne 28 = .ok (.aload_n 0, 1) := by decide +kernel
theorem dX14_pickOne_29 : decode cX14_pickOne 29 = .ok (.getfield 204, 3) := by decide +kernel
theorem dX14_pickOne_32 : decode cX14_pickOne 32 = .ok (.laload, 1) := by decide +kernel
theorem dX14_pickOne_33 : decode cX14_pickOne 33 = .ok (.invokevirtual 273, 3) := by decide +kernel
theorem dX14_pickOne_36 : decode cX14_pickOne 36 = .ok (.goto 4, 3) := by decide +kernel
theorem dX14_pickOne_39 : decode cX14_pickOne 39 = .ok (.iconst 0, 1) := by decide +kernel
theorem dX14_pickOne_40 : decode cX14_pickOne 40 = .ok (.istore_n 2, 1) := by decide +kernel
theorem dX14_pickOne_41 : decode cX14_pickOne 41 = .ok (.aload_n 0, 1) := by decide +kernel
theorem dX14_pickOne_42 : decode cX14_pickOne 42 = .ok (.iload_n 2, 1) := by decide +kernel
theorem dX14_pickOne_43 : decode cX14_pickOne 43 = .ok (.iconst (-1), 1) := by decide +kernel
theorem dX14_pickOne_44 : decode cX14_pickOne 44 = .ok (.if_icmp .eq 7, 3) := by decide +kernel
theorem dX14_pickOne_47 : decode cX14_pickOne 47 = .ok (.iconst 1, 1) := by decide +kernel
theorem dX14_pickOne_48 : decode cX14_pickOne 48 = .ok (.goto 4, 3) := by decide +kernel
theorem dX14_pickOne_51 : decode cX14_pickOne 51 = .ok (.iconst 0, 1) := by decide +kernel
theorem dX14_pickOne_52 : decode cX14_pickOne 52 = .ok (.iconst 2, 1) := by decide +kernel
theorem dX14_pickOne_53 : decode cX14_pickOne 53 = .ok (.aload_n 0, 1) := by decide +kernel
theorem dX14_pickOne_54 : decode cX14_pickOne 54 = .ok (.getfield 27, 3) := by decide +kernel
theorem dX14_pickOne_57 : decode cX14_pickOne 57 = .ok (.aload_n 0, 1) := by decide +kernel
theorem dX14_pickOne_58 : decode cX14_pickOne 58 = .ok (.getfield 204, 3) := by decide +kernel
theorem dX14_pickOne_61 : decode cX14_pickOne 61 = .ok (.iaload, 1) := by decide +kernel
theorem dX14_pickOne_62 : decode cX14_pickOne 62 = .ok (.invokevirtual 277, 3) := by decide +kernel
theorem dX14_pickOne_65 : decode cX14_pickOne 65 = .ok (.aload_n 0, 1) := by decide +kernel
theorem dX14_pickOne_66 : decode cX14_pickOne 66 = .ok (.aload_n 0, 1) := by decide +kernel
theorem dX14_pickOne_67 : decode cX14_pickOne 67 = .ok (.invokevirtual 364, 3) := by decide +kernel
theorem dX14_pickOne_70 : decode cX14_pickOne 70 = .ok (.iload_n 2, 1) := by decide +kernel
theorem dX14_pickOne_71 : decode cX14_pickOne 71 = .ok (.iconst 0, 1) := by decide +kernel
theorem dX14_pickOne_72 : decode cX14_pickOne 72 = .ok (.invokevirtual 316, 3) := by decide +kernel
theorem dX14_pickOne_75 : decode cX14_pickOne 75 = .ok (.return_, 1) := by decide +kernel
theorem dX14_join_0 : decode cX14_join 0 = .ok (.aload_n 0, 1) := by decide +kernel
theorem dX14_join_1 : decode cX14_join 1 = .ok (.bipush 102, 2) := by decide +kernel
theorem dX14_join_3 : decode cX14_join 3 = .ok (.invokevirtual 284, 3) := by decide +kernel
theorem dX14_join_6 : decode cX14_join 6 = .ok (.aload_n 0, 1) := by decide +kernel
theorem dX14_join_7 : decode cX14_join 7 = .ok (.getfield 27, 3) := by decide +kernel
theorem dX14_join_10 : decode cX14_join 10 = .ok (.aload_n 0, 1) := by decide +kernel
theorem dX14_join_11 : decode cX14_join 11 = .ok (.getfield 204, 3) := by decide +kernel
theorem dX14_join_14 : decode cX14_join 14 = .ok (.iaload, 1) := by decide +kernel
theorem dX14_join_15 : decode cX14_join 15 = .ok (.istore_n 3, 1) := by decide +kernel
theorem dX14_join_16 : decode cX14_join 16 = .ok (.aload_n 0, 1) := by decide +kernel
theorem dX14_join_17 : decode cX14_join 17 = .ok (.invokevirtual 344, 3) := by decide +kernel
theorem dX14_join_20 : decode cX14_join 20 = .ok (.istore 4, 2) := by decide +kernel
theorem dX14_join_22 : decode cX14_join 22 = .ok (.aload_n 0, 1) := by decide +kernel
theorem dX14_join_23 : decode cX14_join 23 = .ok (.bipush 10, 2) := by decide +kernel
theorem dX14_join_25 : decode cX14_join 25 = .ok (.invokevirtual 284, 3) := by decide +kernel
theorem dX14_join_28 : decode cX14_join 28 = .ok (.aload_n 0, 1) := by decide +kernel
theorem dX14_join_29 : decode cX14_join 29 = .ok (.sipush 200, 3) := by decide +kernel
theorem dX14_join_32 : decode cX14_join 32 = .ok (.invokevirtual 223, 3) := by decide +kernel
theorem dX14_join_35 : decode cX14_join 35 = .ok (.ifCond .ne 8, 3) := by decide +kernel
theorem dX14_join_38 : decode cX14_join 38 = .ok (.aload_n 0, 1) := by decide +kernel
theorem dX14_join_39 : decode cX14_join 39 = .ok (.invokevirtual 219, 3) := by decide +kernel
theorem dX14_join_42 : decode cX14_join 42 = .ok (.athrow, 1) := by decide +kernel
theorem dX14_join_43 : decode cX14_join 43 = .ok (.aload_n 0, 1) := by decide +kernel
theorem dX14_join_44 : decode cX14_join 44 = .ok (.getfield 212, 3) := by decide +kernel
theorem dX14_join_47 : decode cX14_join 47 = .ok (.ifCond .eq 20, 3) := by decide +kernel
theorem dX14_join_50 : decode cX14_join 50 = .ok (.aload_n 0, 1) := by decide +kernel
theorem dX14_join_51 : decode cX14_join 51 = .ok (.iload_n 2, 1) := by decide +kernel
theorem dX14_join_52 : decode cX14_join 52 = .ok (.aload_n 0, 1) := by decide +kernel
theorem dX14_join_53 : decode cX14_join 53 = .ok (.getfield 30, 3) := by decide +kernel
theorem dX14_join_56 : decode cX14_join 56 = .ok (.aload_n 0, 1) := by decide +kernel
theorem dX14_join_57 : decode cX14_join 57 = .ok (.getfield 204, 3) := by decide +kernel
theorem dX14_join_60 : decode cX14_join 60 = .ok (.laload, 1) := by decide +kernel
theorem dX14_join_61 : decode cX14_join 61 = .ok (.invokevirtual 273, 3) := by decide +kernel
theorem dX14_join_64 : decode cX14_join 64 = .ok (.goto 4, 3) := by decide +kernel
theorem dX14_join_67 : decode cX14_join 67 = .ok (.iconst 0, 1) := by decide +kernel
theorem dX14_join_68 : decode cX14_join 68 = .ok (.istore 5, 2) := by decide +kernel
theorem dX14_join_70 : decode cX14_join 70 = .ok (.aload_n 0, 1) := by decide +kernel
theorem dX14_join_71 : decode cX14_join 71 = .ok (.getfield 212, 3) := by decide +kernel
theorem dX14_join_74 : decode cX14_join 74 = .ok (.ifCond .eq 21, 3) := by decide +kernel
theorem dX14_join_77 : decode cX14_join 77 = .ok (.aload_n 0, 1) := by decide +kernel
theorem dX14_join_78 : decode cX14_join 78 = .ok (.iload 4, 2) := by decide +kernel
theorem dX14_join_80 : decode cX14_join 80 = .ok (.aload_n 0, 1) := by decide +kernel
theorem dX14_join_81 : decode cX14_join 81 = .ok (.getfield 30, 3) := by decide +kernel
theorem dX14_join_84 : decode cX14_join 84 = .ok (.aload_n 0, 1) := by decide +kernel
theorem dX14_join_85 : decode cX14_join 85 = .ok (.getfield 204, 3) := by decide +kernel
theorem dX14_join_88 : decode cX14_join 88 = .ok (.laload, 1) := by decide +kernel
theorem dX14_join_89 : decode cX14_join 89 = .ok (.invokevirtual 273, 3) := by decide +kernel
theorem dX14_join_92 : decode cX14_join 92 = .ok (.goto 4, 3) := by decide +kernel
theorem dX14_join_95 : decode cX14_join 95 = .ok (.iconst 0, 1) := by decide +kernel
theorem dX14_join_96 : decode cX14_join 96 = .ok (.istore 6, 2) := by decide +kernel
theorem dX14_join_98 : decode cX14_join 98 = .ok (.aload_n 0, 1) := by decide +kernel
theorem dX14_join_99 : decode cX14_join 99 = .ok (.iload 5, 2) := by decide +kernel
theorem dX14_join_101 : decode cX14_join 101 = .ok (.iconst (-1), 1) := by decide +kernel
theorem dX14_join_102 : decode cX14_join 102 = .ok (.if_icmp .eq 13, 3) := by decide +kernel
theorem dX14_join_105 : decode cX14_join 105 = .ok (.iload 6, 2) := by decide +kernel
theorem dX14_join_107 : decode cX14_join 107 = .ok (.iconst (-1), 1) := by decide +kernel
theorem dX14_join_108 : decode cX14_join 108 = .ok (.if_icmp .eq 7, 3) := by decide +kernel
theorem dX14_join_111 : decode cX14_join 111 = .ok (.iconst 1, 1) := by decide +kernel
theorem dX14_join_112 : decode cX14_join 112 = .ok (.goto 4, 3) := by decide +kernel
theorem dX14_join_115 : decode cX14_join 115 = .ok (.iconst 0, 1) := by decide +kernel
theorem dX14_join_116 : decode cX14_join 116 = .ok (.iconst 2, 1) := by decide +kernel
theorem dX14_join_117 : decode cX14_join 117 = .ok (.aload_n 0, 1) := by decide +kernel
theorem dX14_join_118 : decode cX14_join 118 = .ok (.getfield 27, 3) := by decide +kernel
theorem dX14_join_121 : decode cX14_join 121 = .ok (.aload_n 0, 1) := by decide +kernel
theorem dX14_join_122 : decode cX14_join 122 = .ok (.getfield 204, 3) := by decide +kernel
theorem dX14_join_125 : decode cX14_join 125 = .ok (.iaload, 1) := by decide +kernel
theorem dX14_join_126 : decode cX14_join 126 = .ok (.invokevirtual 277, 3) := by decide +kernel
theorem dX14_join_129 : decode cX14_join 129 = .ok (.aload_n 0, 1) := by decide +kernel
theorem dX14_join_130 : decode cX14_join 130 = .ok (.invokevirtual 226, 3) := by decide +kernel
theorem dX14_join_133 : decode cX14_join 133 = .ok (.aload_n 0, 1) := by decide +kernel
theorem dX14_join_134 : decode cX14_join 134 = .ok (.bipush 11, 2) := by decide +kernel
theorem dX14_join_136 : decode cX14_join 136 = .ok (.invokevirtual 284, 3) := by decide +kernel
theorem dX14_join_139 : decode cX14_join 139 = .ok (.aload_n 0, 1) := by decide +kernel
theorem dX14_join_140 : decode cX14_join 140 = .ok (.getfield 232, 3) := by decide +kernel
theorem dX14_join_143 : decode cX14_join 143 = .ok (.getfield 326, 3) := by decide +kernel
theorem dX14_join_146 : decode cX14_join 146 = .ok (.iload_n 1, 1) := by decide +kernel
theorem dX14_join_147 : decode cX14_join 147 = .ok (.iload 4, 2) := by decide +kernel
theorem dX14_join_149 : decode cX14_join 149 = .ok (.iastore, 1) := by decide +kernel
theorem dX14_join_150 : decode cX14_join 150 = .ok (.aload_n 0, 1) := by decide +kernel
theorem dX14_join_151 : decode cX14_join 151 = .ok (.getfield 232, 3) := by decide +kernel
theorem dX14_join_154 : decode cX14_join 154 = .ok (.getfield 387, 3) := by decide +kernel
theorem dX14_join_157 : decode cX14_join 157 = .ok (.iload_n 1, 1) := by decide +kernel
theorem dX14_join_158 : decode cX14_join 158 = .ok (.iload 5, 2) := by decide +kernel
theorem dX14_join_160 : decode cX14_join 160 = .ok (.iastore, 1) := by decide +kernel
theorem dX14_join_161 : decode cX14_join 161 = .ok (.aload_n 0, 1) := by decide +kernel
theorem dX14_join_162 : decode cX14_join 162 = .ok (.getfield 232, 3) := by decide +kernel
theorem dX14_join_165 : decode cX14_join 165 = .ok (.getfield 396, 3) := by decide +kernel
theorem dX14_join_168 : decode cX14_join 168 = .ok (.iload_n 1, 1) := by decide +kernel
theorem dX14_join_169 : decode cX14_join 169 = .ok (.iload 6, 2) := by decide +kernel
theorem dX14_join_171 : decode cX14_join 171 = .ok (.iastore, 1) := by decide +kernel
theorem dX14_join_172 : decode cX14_join 172 = .ok (.aload_n 0, 1) := by decide +kernel
theorem dX14_join_173 : decode cX14_join 173 = .ok (.getfield 232, 3) := by decide +kernel
theorem dX14_join_176 : decode cX14_join 176 = .ok (.getfield 369, 3) := by decide +kernel
theorem dX14_join_179 : decode cX14_join 179 = .ok (.iload_n 1, 1) := by decide +kernel
theorem dX14_join_180 : decode cX14_join 180 = .ok (.aload_n 0, 1) := by decide +kernel
theorem dX14_join_181 : decode cX14_join 181 = .ok (.iconst 0, 1) := by decide +kernel
theorem dX14_join_182 : decode cX14_join 182 = .ok (.invokevirtual 372, 3) := by decide +kernel
theorem dX14_join_185 : decode cX14_join 185 = .ok (.iastore, 1) := by decide +kernel
theorem dX14_join_186 : decode cX14_join 186 = .ok (.aload_n 0, 1) := by decide +kernel
theorem dX14_join_187 : decode cX14_join 187 = .ok (.getfield 212, 3) := by decide +kernel
theorem dX14_join_190 : decode cX14_join 190 = .ok (.ifCond .ne 4, 3) := by decide +kernel
theorem dX14_join_193 : decode cX14_join 193 = .ok (.return_, 1) := by decide +kernel
theorem dX14_join_194 : decode cX14_join 194 = .ok (.aload_n 0, 1) := by decide +kernel
theorem dX14_join_195 : decode cX14_join 195 = .ok (.iload_n 2, 1) := by decide +kernel
theorem dX14_join_196 : decode cX14_join 196 = .ok (.iconst (-1), 1) := by decide +kernel
theorem dX14_join_197 : decode cX14_join 197 = .ok (.invokevirtual 375, 3) := by decide +kernel
theorem dX14_join_200 : decode cX14_join 200 = .ok (.aload_n 0, 1) := by decide +kernel
theorem dX14_join_201 : decode cX14_join 201 = .ok (.getfield 313, 3) := by decide +kernel
theorem dX14_join_204 : decode cX14_join 204 = .ok (.istore 7, 2) := by decide +kernel
theorem dX14_join_206 : decode cX14_join 206 = .ok (.aload_n 0, 1) := by decide +kernel
theorem dX14_join_207 : decode cX14_join 207 = .ok (.iload 4, 2) := by decide +kernel
theorem dX14_join_209 : decode cX14_join 209 = .ok (.iload 6, 2) := by decide +kernel
theorem dX14_join_211 : decode cX14_join 211 = .ok (.invokevirtual 375, 3) := by decide +kernel
theorem dX14_join_214 : decode cX14_join 214 = .ok (.iload 7, 2) := by decide +kernel
theorem dX14_join_216 : decode cX14_join 216 = .ok (.istore 8, 2) := by decide +kernel
theorem dX14_join_218 : decode cX14_join 218 = .ok (.iload 8, 2) := by decide +kernel
theorem dX14_join_220 : decode cX14_join 220 = .ok (.aload_n 0, 1) := by decide +kernel
theorem dX14_join_221 : decode cX14_join 221 = .ok (.getfield 313, 3) := by decide +kernel
theorem dX14_join_224 : decode cX14_join 224 = .ok (.if_icmp .ge 41, 3) := by decide +kernel
theorem dX14_join_227 : decode cX14_join 227 = .ok (.aload_n 0, 1) := by decide +kernel
theorem dX14_join_228 : decode cX14_join 228 = .ok (.aload_n 0, 1) := by decide +kernel
theorem dX14_join_229 : decode cX14_join 229 = .ok (.getfield 33, 3) := by decide +kernel
theorem dX14_join_232 : decode cX14_join 232 = .ok (.iconst 0, 1) := by decide +kernel
theorem dX14_join_233 : decode cX14_join 233 = .ok (.iload 7, 2) := by decide +kernel
theorem dX14_join_235 : decode cX14_join 235 = .ok (.aload_n 0, 1) := by decide +kernel
theorem dX14_join_236 : decode cX14_join 236 = .ok (.getfield 33, 3) := by decide +kernel
theorem dX14_join_239 : decode cX14_join 239 = .ok (.iload 8, 2) := by decide +kernel
theorem dX14_join_241 : decode cX14_join 241 = .ok (.laload, 1) := by decide +kernel
theorem dX14_join_242 : decode cX14_join 242 = .ok (.invokestatic 192, 3) := by decide +kernel
theorem dX14_join_245 : decode cX14_join 245 = .ok (.iconst (-1), 1) := by decide +kernel
theorem dX14_join_246 : decode cX14_join 246 = .ok (.if_icmp .ne 7, 3) := by decide +kernel
theorem dX14_join_249 : decode cX14_join 249 = .ok (.iconst 1, 1) := by decide +kernel
theorem dX14_join_250 : decode cX14_join 250 = .ok (.goto 4, 3) := by decide +kernel
theorem dX14_join_253 : decode cX14_join 253 = .ok (.iconst 0, 1) := by decide +kernel
theorem dX14_join_254 : decode cX14_join 254 = .ok (.iconst 5, 1) := by decide +kernel
theorem dX14_join_255 : decode cX14_join 255 = .ok (.iload_n 3, 1) := by decide +kernel
theorem dX14_join_256 : decode cX14_join 256 = .ok (.invokevirtual 277, 3) := by decide +kernel
theorem dX14_join_259 : decode cX14_join 259 = .ok (.iinc 8 1, 3) := by decide +kernel
theorem dX14_join_262 : decode cX14_join 262 = .ok (.goto (-44), 3) := by decide +kernel
theorem dX14_join_265 : decode cX14_join 265 = .ok (.return_, 1) := by decide +kernel
theorem dX14_window_0 : decode cX14_window 0 = .ok (.aload_n 0, 1) := by decide +kernel
theorem dX14_window_1 : decode cX14_window 1 = .ok (.bipush 13, 2) := by decide +kernel
theorem dX14_window_3 : decode cX14_window 3 = .ok (.invokevirtual 284, 3) := by decide +kernel
theorem dX14_window_6 : decode cX14_window 6 = .ok (.aload_n 0, 1) := by decide +kernel
theorem dX14_window_7 : decode cX14_window 7 = .ok (.getfield 27, 3) := by decide +kernel
theorem dX14_window_10 : decode cX14_window 10 = .ok (.aload_n 0, 1) := by decide +kernel
theorem dX14_window_11 : decode cX14_window 11 = .ok (.getfield 204, 3) := by decide +kernel
theorem dX14_window_14 : decode cX14_window 14 = .ok (.iaload, 1) := by decide +kernel
theorem dX14_window_15 : decode cX14_window 15 = .ok (.istore_n 3, 1) := by decide +kernel
theorem dX14_window_16 : decode cX14_window 16 = .ok (.aload_n 0, 1) := by decide +kernel
theorem dX14_window_17 : decode cX14_window 17 = .ok (.getfield 30, 3) := by decide +kernel
theorem dX14_window_20 : decode cX14_window 20 = .ok (.aload_n 0, 1) := by decide +kernel
theorem dX14_window_21 : decode cX14_window 21 = .ok (.getfield 204, 3) := by decide +kernel
theorem dX14_window_24 : decode cX14_window 24 = .ok (.laload, 1) := by decide +kernel
theorem dX14_window_25 : decode cX14_window 25 = .ok (.lstore 4, 2) := by decide +kernel
theorem dX14_window_27 : decode cX14_window 27 = .ok (.aload_n 0, 1) := by decide +kernel
theorem dX14_window_28 : decode cX14_window 28 = .ok (.getfield 232, 3) := by decide +kernel
theorem dX14_window_31 : decode cX14_window 31 = .ok (.getfield 387, 3) := by decide +kernel
theorem dX14_window_34 : decode cX14_window 34 = .ok (.iload_n 1, 1) := by decide +kernel
theorem dX14_window_35 : decode cX14_window 35 = .ok (.aload_n 0, 1) := by decide +kernel
theorem dX14_window_36 : decode cX14_window 36 = .ok (.iload_n 2, 1) := by decide +kernel
theorem dX14_window_37 : decode cX14_window 37 = .ok (.invokevirtual 390, 3) := by decide +kernel
theorem dX14_window_40 : decode cX14_window 40 = .ok (.iastore, 1) := by decide +kernel
theorem dX14_window_41 : decode cX14_window 41 = .ok (.aload_n 0, 1) := by decide +kernel
theorem dX14_window_42 : decode cX14_window 42 = .ok (.lload 4, 2) := by decide +kernel
theorem dX14_window_44 : decode cX14_window 44 = .ok (.ldc2_w 399, 3) := by decide +kernel
theorem dX14_window_47 : decode cX14_window 47 = .ok (.lcmp, 1) := by decide +kernel
theorem dX14_window_48 : decode cX14_window 48 = .ok (.ifCond .eq 7, 3) := by decide +kernel
theorem dX14_window_51 : decode cX14_window 51 = .ok (.iconst 1, 1) := by decide +kernel
theorem dX14_window_52 : decode cX14_window 52 = .ok (.goto 4, 3) := by decide +kernel
theorem dX14_window_55 : decode cX14_window 55 = .ok (.iconst 0, 1) := by decide +kernel
theorem dX14_window_56 : decode cX14_window 56 = .ok (.iconst 5, 1) := by decide +kernel
theorem dX14_window_57 : decode cX14_window 57 = .ok (.iload_n 3, 1) := by decide +kernel
theorem dX14_window_58 : decode cX14_window 58 = .ok (.invokevirtual 277, 3) := by decide +kernel
theorem dX14_window_61 : decode cX14_window 61 = .ok (.aload_n 0, 1) := by decide +kernel
theorem dX14_window_62 : decode cX14_window 62 = .ok (.bipush 15, 2) := by decide +kernel
theorem dX14_window_64 : decode cX14_window 64 = .ok (.invokevirtual 284, 3) := by decide +kernel
theorem dX14_window_67 : decode cX14_window 67 = .ok (.aload_n 0, 1) := by decide +kernel
theorem dX14_window_68 : decode cX14_window 68 = .ok (.getfield 232, 3) := by decide +kernel
theorem dX14_window_71 : decode cX14_window 71 = .ok (.getfield 369, 3) := by decide +kernel
theorem dX14_window_74 : decode cX14_window 74 = .ok (.iload_n 1, 1) := by decide +kernel
theorem dX14_window_75 : decode cX14_window 75 = .ok (.aload_n 0, 1) := by decide +kernel
theorem dX14_window_76 : decode cX14_window 76 = .ok (.iconst 1, 1) := by decide +kernel
theorem dX14_window_77 : decode cX14_window 77 = .ok (.invokevirtual 372, 3) := by decide +kernel
theorem dX14_window_80 : decode cX14_window 80 = .ok (.iastore, 1) := by decide +kernel
theorem dX14_window_81 : decode cX14_window 81 = .ok (.aload_n 0, 1) := by decide +kernel
theorem dX14_window_82 : decode cX14_window 82 = .ok (.getfield 232, 3) := by decide +kernel
theorem dX14_window_85 : decode cX14_window 85 = .ok (.getfield 401, 3) := by decide +kernel
theorem dX14_window_88 : decode cX14_window 88 = .ok (.iload_n 1, 1) := by decide +kernel
theorem dX14_window_89 : decode cX14_window 89 = .ok (.iconst 0, 1) := by decide +kernel
theorem dX14_window_90 : decode cX14_window 90 = .ok (.iastore, 1) := by decide +kernel
theorem dX14_window_91 : decode cX14_window 91 = .ok (.aload_n 0, 1) := by decide +kernel
theorem dX14_window_92 : decode cX14_window 92 = .ok (.bipush 16, 2) := by decide +kernel
theorem dX14_window_94 : decode cX14_window 94 = .ok (.invokevirtual 223, 3) := by decide +kernel
theorem dX14_window_97 : decode cX14_window 97 = .ok (.ifCond .eq 21, 3) := by decide +kernel
theorem dX14_window_100 : decode cX14_window 100 = .ok (.aload_n 0, 1) := by decide +kernel
theorem dX14_window_101 : decode cX14_window 101 = .ok (.invokevirtual 226, 3) := by decide +kernel
theorem dX14_window_104 : decode cX14_window 104 = .ok (.aload_n 0, 1) := by decide +kernel
theorem dX14_window_105 : decode cX14_window 105 = .ok (.getfield 232, 3) := by decide +kernel
theorem dX14_window_108 : decode cX14_window 108 = .ok (.getfield 401, 3) := by decide +kernel
theorem dX14_window_111 : decode cX14_window 111 = .ok (.iload_n 1, 1) := by decide +kernel
theorem dX14_window_112 : decode cX14_window 112 = .ok (.aload_n 0, 1) := by decide +kernel
theorem dX14_window_113 : decode cX14_window 113 = .ok (.iconst 0, 1) := by decide +kernel
theorem dX14_window_114 : decode cX14_window 114 = .ok (.invokevirtual 372, 3) := by decide +kernel
theorem dX14_window_117 : decode cX14_window 117 = .ok (.iastore, 1) := by decide +kernel
theorem dX14_window_118 : decode cX14_window 118 = .ok (.aload_n 0, 1) := by decide +kernel
theorem dX14_window_119 : decode cX14_window 119 = .ok (.lload 4, 2) := by decide +kernel
theorem dX14_window_121 : decode cX14_window 121 = .ok (.iconst 0, 1) := by decide +kernel
theorem dX14_window_122 : decode cX14_window 122 = .ok (.iconst 0, 1) := by decide +kernel
theorem dX14_window_123 : decode cX14_window 123 = .ok (.invokevirtual 316, 3) := by decide +kernel
theorem dX14_window_126 : decode cX14_window 126 = .ok (.aload_n 0, 1) := by decide +kernel
theorem dX14_window_127 : decode cX14_window 127 = .ok (.ldc2_w 399, 3) := by decide +kernel
theorem dX14_window_130 : decode cX14_window 130 = .ok (.iconst 0, 1) := by decide +kernel
theorem dX14_window_131 : decode cX14_window 131 = .ok (.iconst 0, 1) := by decide +kernel
theorem dX14_window_132 : decode cX14_window 132 = .ok (.invokevirtual 316, 3) := by decide +kernel
theorem dX14_window_135 : decode cX14_window 135 = .ok (.aload_n 0, 1) := by decide +kernel
theorem dX14_window_136 : decode cX14_window 136 = .ok (.bipush 100, 2) := by decide +kernel
theorem dX14_window_138 : decode cX14_window 138 = .ok (.invokevirtual 284, 3) := by decide +kernel
theorem dX14_window_141 : decode cX14_window 141 = .ok (.aload_n 0, 1) := by decide +kernel
theorem dX14_window_142 : decode cX14_window 142 = .ok (.invokevirtual 404, 3) := by decide +kernel
theorem dX14_window_145 : decode cX14_window 145 = .ok (.aload_n 0, 1) := by decide +kernel
theorem dX14_window_146 : decode cX14_window 146 = .ok (.bipush 102, 2) := by decide +kernel
theorem dX14_window_148 : decode cX14_window 148 = .ok (.invokevirtual 223, 3) := by decide +kernel
theorem dX14_window_151 : decode cX14_window 151 = .ok (.ifCond .eq 14, 3) := by decide +kernel
theorem dX14_window_154 : decode cX14_window 154 = .ok (.aload_n 0, 1) := by decide +kernel
theorem dX14_window_155 : decode cX14_window 155 = .ok (.invokevirtual 226, 3) := by decide +kernel
theorem dX14_window_158 : decode cX14_window 158 = .ok (.aload_n 0, 1) := by decide +kernel
theorem dX14_window_159 : decode cX14_window 159 = .ok (.invokevirtual 404, 3) := by decide +kernel
theorem dX14_window_162 : decode cX14_window 162 = .ok (.goto (-17), 3) := by decide +kernel
theorem dX14_window_165 : decode cX14_window 165 = .ok (.aload_n 0, 1) := by decide +kernel
theorem dX14_window_166 : decode cX14_window 166 = .ok (.bipush 101, 2) := by decide +kernel
theorem dX14_window_168 : decode cX14_window 168 = .ok (.invokevirtual 284, 3) := by decide +kernel
theorem dX14_window_171 : decode cX14_window 171 = .ok (.return_, 1) := by decide +kernel
theorem dX14_totalOne_0 : decode cX14_totalOne 0 = .ok (.aload_n 0, 1) := by decide +kernel
theorem dX14_totalOne_1 : decode cX14_totalOne 1 = .ok (.invokevirtual 364, 3) := by decide +kernel
theorem dX14_totalOne_4 : decode cX14_totalOne 4 = .ok (.lstore_n 1, 1) := by decide +kernel
theorem dX14_totalOne_5 : decode cX14_totalOne 5 = .ok (.aload_n 0, 1) := by decide +kernel
theorem dX14_totalOne_6 : decode cX14_totalOne 6 = .ok (.bipush 104, 2) := by decide +kernel
theorem dX14_totalOne_8 : decode cX14_totalOne 8 = .ok (.invokevirtual 284, 3) := by decide +kernel
theorem dX14_totalOne_11 : decode cX14_totalOne 11 = .ok (.aload_n 0, 1) := by decide +kernel
theorem dX14_totalOne_12 : decode cX14_totalOne 12 = .ok (.getfield 24, 3) := by decide +kernel
theorem dX14_totalOne_15 : decode cX14_totalOne 15 = .ok (.aload_n 0, 1) := by decide +kernel
theorem dX14_totalOne_16 : decode cX14_totalOne 16 = .ok (.getfield 204, 3) := by decide +kernel
theorem dX14_totalOne_19 : decode cX14_totalOne 19 = .ok (.iaload, 1) := by decide +kernel
theorem dX14_totalOne_20 : decode cX14_totalOne 20 = .ok (.istore_n 3, 1) := by decide +kernel
theorem dX14_totalOne_21 : decode cX14_totalOne 21 = .ok (.iload_n 3, 1) := by decide +kernel
theorem dX14_totalOne_22 : decode cX14_totalOne 22 = .ok (.i2l, 1) := by decide +kernel
theorem dX14_totalOne_23 : decode cX14_totalOne 23 = .ok (.ldc2_w 407, 3) := by decide +kernel
theorem dX14_totalOne_26 : decode cX14_totalOne 26 = .ok (.ldc2_w 409, 3) := by decide +kernel
theorem dX14_totalOne_29 : decode cX14_totalOne 29 = .ok (.invokestatic 163, 3) := by decide +kernel
theorem dX14_totalOne_32 : decode cX14_totalOne 32 = .ok (.ifCond .ne 8, 3) := by decide +kernel
theorem dX14_totalOne_35 : decode cX14_totalOne 35 = .ok (.aload_n 0, 1) := by decide +kernel
theorem dX14_totalOne_36 : decode cX14_totalOne 36 = .ok (.invokevirtual 219, 3) := by decide +kernel
theorem dX14_totalOne_39 : decode cX14_totalOne 39 = .ok (.athrow, 1) := by decide +kernel
theorem dX14_totalOne_40 : decode cX14_totalOne 40 = .ok (.aload_n 0, 1) := by decide +kernel
theorem dX14_totalOne_41 : decode cX14_totalOne 41 = .ok (.invokevirtual 226, 3) := by decide +kernel
theorem dX14_totalOne_44 : decode cX14_totalOne 44 = .ok (.aload_n 0, 1) := by decide +kernel
theorem dX14_totalOne_45 : decode cX14_totalOne 45 = .ok (.lload_n 1, 1) := by decide +kernel
theorem dX14_totalOne_46 : decode cX14_totalOne 46 = .ok (.iload_n 3, 1) := by decide +kernel
theorem dX14_totalOne_47 : decode cX14_totalOne 47 = .ok (.bipush 23, 2) := by decide +kernel
theorem dX14_totalOne_49 : decode cX14_totalOne 49 = .ok (.if_icmp .ne 7, 3) := by decide +kernel
theorem dX14_totalOne_52 : decode cX14_totalOne 52 = .ok (.iconst 0, 1) := by decide +kernel
theorem dX14_totalOne_53 : decode cX14_totalOne 53 = .ok (.goto 7, 3) := by decide +kernel
theorem dX14_totalOne_56 : decode cX14_totalOne 56 = .ok (.aload_n 0, 1) := by decide +kernel
theorem dX14_totalOne_57 : decode cX14_totalOne 57 = .ok (.invokevirtual 348, 3) := by decide +kernel
theorem dX14_totalOne_60 : decode cX14_totalOne 60 = .ok (.iload_n 3, 1) := by decide +kernel
theorem dX14_totalOne_61 : decode cX14_totalOne 61 = .ok (.invokevirtual 316, 3) := by decide +kernel
theorem dX14_totalOne_64 : decode cX14_totalOne 64 = .ok (.return_, 1) := by decide +kernel
theorem dX14_readAll_0 : decode cX14_readAll 0 = .ok (.aload_n 0, 1) := by decide +kernel
theorem dX14_readAll_1 : decode cX14_readAll 1 = .ok (.iconst 0, 1) := by decide +kernel
theorem dX14_readAll_2 : decode cX14_readAll 2 = .ok (.putfield 204, 3) := by decide +kernel
theorem dX14_readAll_5 : decode cX14_readAll 5 = .ok (.aload_n 0, 1) := by decide +kernel
theorem dX14_readAll_6 : decode cX14_readAll 6 = .ok (.iconst 0, 1) := by decide +kernel
theorem dX14_readAll_7 : decode cX14_readAll 7 = .ok (.putfield 229, 3) := by decide +kernel
theorem dX14_readAll_10 : decode cX14_readAll 10 = .ok (.aload_n 0, 1) := by decide +kernel
theorem dX14_readAll_11 : decode cX14_readAll 11 = .ok (.iconst (-1), 1) := by decide +kernel
theorem dX14_readAll_12 : decode cX14_readAll 12 = .ok (.putfield 216, 3) := by decide +kernel
theorem dX14_readAll_15 : decode cX14_readAll 15 = .ok (.aload_n 0, 1) := by decide +kernel
theorem dX14_readAll_16 : decode cX14_readAll 16 = .ok (.invokevirtual 411, 3) := by decide +kernel
theorem dX14_readAll_19 : decode cX14_readAll 19 = .ok (.aload_n 0, 1) := by decide +kernel
theorem dX14_readAll_20 : decode cX14_readAll 20 = .ok (.sipush 202, 3) := by decide +kernel
theorem dX14_readAll_23 : decode cX14_readAll 23 = .ok (.invokevirtual 223, 3) := by decide +kernel
theorem dX14_readAll_26 : decode cX14_readAll 26 = .ok (.ifCond .ne 10, 3) := by decide +kernel
theorem dX14_readAll_29 : decode cX14_readAll 29 = .ok (.aload_n 0, 1) := by decide +kernel
theorem dX14_readAll_30 : decode cX14_readAll 30 = .ok (.invokevirtual 411, 3) := by decide +kernel
theorem dX14_readAll_33 : decode cX14_readAll 33 = .ok (.goto (-14), 3) := by decide +kernel
theorem dX14_readAll_36 : decode cX14_readAll 36 = .ok (.return_, 1) := by decide +kernel
theorem dX14_compile_0 : decode cX14_compile 0 = .ok (.aload_n 0, 1) := by decide +kernel
theorem dX14_compile_1 : decode cX14_compile 1 = .ok (.iconst 0, 1) := by decide +kernel
theorem dX14_compile_2 : decode cX14_compile 2 = .ok (.putfield 149, 3) := by decide +kernel
theorem dX14_compile_5 : decode cX14_compile 5 = .ok (.aload_n 0, 1) := by decide +kernel
theorem dX14_compile_6 : decode cX14_compile 6 = .ok (.invokevirtual 414, 3) := by decide +kernel
theorem dX14_compile_9 : decode cX14_compile 9 = .ok (.aload_n 0, 1) := by decide +kernel
theorem dX14_compile_10 : decode cX14_compile 10 = .ok (.new 13, 3) := by decide +kernel
theorem dX14_compile_13 : decode cX14_compile 13 = .ok (.dup, 1) := by decide +kernel
theorem dX14_compile_14 : decode cX14_compile 14 = .ok (.invokespecial 15, 3) := by decide +kernel
theorem dX14_compile_17 : decode cX14_compile 17 = .ok (.putfield 232, 3) := by decide +kernel
theorem dX14_compile_20 : decode cX14_compile 20 = .ok (.aload_n 0, 1) := by decide +kernel
theorem dX14_compile_21 : decode cX14_compile 21 = .ok (.iconst (-1), 1) := by decide +kernel
theorem dX14_compile_22 : decode cX14_compile 22 = .ok (.putfield 42, 3) := by decide +kernel
theorem dX14_compile_25 : decode cX14_compile 25 = .ok (.iconst 0, 1) := by decide +kernel
theorem dX14_compile_26 : decode cX14_compile 26 = .ok (.istore_n 1, 1) := by decide +kernel
theorem dX14_compile_27 : decode cX14_compile 27 = .ok (.aload_n 0, 1) := by decide +kernel
theorem dX14_compile_28 : decode cX14_compile 28 = .ok (.iconst 0, 1) := by decide +kernel
theorem dX14_compile_29 : decode cX14_compile 29 = .ok (.putfield 212, 3) := by decide +kernel
theorem dX14_compile_32 : decode cX14_compile 32 = .ok (.aload_n 0, 1) := by decide +kernel
theorem dX14_compile_33 : decode cX14_compile 33 = .ok (.invokevirtual 417, 3) := by decide +kernel
theorem dX14_compile_36 : decode cX14_compile 36 = .ok (.aload_n 0, 1) := by decide +kernel
theorem dX14_compile_37 : decode cX14_compile 37 = .ok (.iconst 1, 1) := by decide +kernel
theorem dX14_compile_38 : decode cX14_compile 38 = .ok (.putfield 212, 3) := by decide +kernel
theorem dX14_compile_41 : decode cX14_compile 41 = .ok (.aload_n 0, 1) := by decide +kernel
theorem dX14_compile_42 : decode cX14_compile 42 = .ok (.invokevirtual 417, 3) := by decide +kernel
theorem dX14_compile_45 : decode cX14_compile 45 = .ok (.aload_n 0, 1) := by decide +kernel
theorem dX14_compile_46 : decode cX14_compile 46 = .ok (.invokevirtual 420, 3) := by decide +kernel
theorem dX14_compile_49 : decode cX14_compile 49 = .ok (.aload_n 0, 1) := by decide +kernel
theorem dX14_compile_50 : decode cX14_compile 50 = .ok (.aload_n 0, 1) := by decide +kernel
theorem dX14_compile_51 : decode cX14_compile 51 = .ok (.getfield 232, 3) := by decide +kernel
theorem dX14_compile_54 : decode cX14_compile 54 = .ok (.putfield 16, 3) := by decide +kernel
theorem dX14_compile_57 : decode cX14_compile 57 = .ok (.aload_n 0, 1) := by decide +kernel
theorem dX14_compile_58 : decode cX14_compile 58 = .ok (.iconst 0, 1) := by decide +kernel
theorem dX14_compile_59 : decode cX14_compile 59 = .ok (.putfield 423, 3) := by decide +kernel
theorem dX14_compile_62 : decode cX14_compile 62 = .ok (.aload_n 0, 1) := by decide +kernel
theorem dX14_compile_63 : decode cX14_compile 63 = .ok (.invokevirtual 426, 3) := by decide +kernel
theorem dX14_compile_66 : decode cX14_compile 66 = .ok (.goto 17, 3) := by decide +kernel
theorem dX14_compile_69 : decode cX14_compile 69 = .ok (.astore_n 2, 1) := by decide +kernel
theorem dX14_compile_70 : decode cX14_compile 70 = .ok (.aload_n 2, 1) := by decide +kernel
theorem dX14_compile_71 : decode cX14_compile 71 = .ok (.getfield 429, 3) := by decide +kernel
theorem dX14_compile_74 : decode cX14_compile 74 = .ok (.istore_n 1, 1) := by decide +kernel
theorem dX14_compile_75 : decode cX14_compile 75 = .ok (.aload_n 0, 1) := by decide +kernel
theorem dX14_compile_76 : decode cX14_compile 76 = .ok (.aload_n 2, 1) := by decide +kernel
theorem dX14_compile_77 : decode cX14_compile 77 = .ok (.getfield 432, 3) := by decide +kernel
theorem dX14_compile_80 : decode cX14_compile 80 = .ok (.putfield 42, 3) := by decide +kernel
theorem dX14_compile_83 : decode cX14_compile 83 = .ok (.aload_n 0, 1) := by decide +kernel
theorem dX14_compile_84 : decode cX14_compile 84 = .ok (.iconst 0, 1) := by decide +kernel
theorem dX14_compile_85 : decode cX14_compile 85 = .ok (.putfield 152, 3) := by decide +kernel
theorem dX14_compile_88 : decode cX14_compile 88 = .ok (.iload_n 1, 1) := by decide +kernel
theorem dX14_compile_89 : decode cX14_compile 89 = .ok (.ireturn, 1) := by decide +kernel
theorem dX14_errorAt_0 : decode cX14_errorAt 0 = .ok (.aload_n 0, 1) := by decide +kernel
theorem dX14_errorAt_1 : decode cX14_errorAt 1 = .ok (.iconst 0, 1) := by decide +kernel
theorem dX14_errorAt_2 : decode cX14_errorAt 2 = .ok (.putfield 149, 3) := by decide +kernel
theorem dX14_errorAt_5 : decode cX14_errorAt 5 = .ok (.aload_n 0, 1) := by decide +kernel
theorem dX14_errorAt_6 : decode cX14_errorAt 6 = .ok (.getfield 42, 3) := by decide +kernel
theorem dX14_errorAt_9 : decode cX14_errorAt 9 = .ok (.ireturn, 1) := by decide +kernel
theorem dX14_find_0 : decode cX14_find 0 = .ok (.aload_n 0, 1) := by decide +kernel
theorem dX14_find_1 : decode cX14_find 1 = .ok (.iconst 0, 1) := by decide +kernel
theorem dX14_find_2 : decode cX14_find 2 = .ok (.putfield 149, 3) := by decide +kernel
theorem dX14_find_5 : decode cX14_find 5 = .ok (.lconst 0, 1) := by decide +kernel
theorem dX14_find_6 : decode cX14_find 6 = .ok (.lstore_n 1, 1) := by decide +kernel
theorem dX14_find_7 : decode cX14_find 7 = .ok (.aload_n 0, 1) := by decide +kernel
theorem dX14_find_8 : decode cX14_find 8 = .ok (.getfield 152, 3) := by decide +kernel
theorem dX14_find_11 : decode cX14_find 11 = .ok (.i2l, 1) := by decide +kernel
theorem dX14_find_12 : decode cX14_find 12 = .ok (.lconst 1, 1) := by decide +kernel
theorem dX14_find_13 : decode cX14_find 13 = .ok (.ldc2_w 435, 3) := by decide +kernel
theorem dX14_find_16 : decode cX14_find 16 = .ok (.invokestatic 163, 3) := by decide +kernel
theorem dX14_find_19 : decode cX14_find 19 = .ok (.istore_n 3, 1) := by decide +kernel
theorem dX14_find_20 : decode cX14_find 20 = .ok (.iconst 0, 1) := by decide +kernel
theorem dX14_find_21 : decode cX14_find 21 = .ok (.istore 4, 2) := by decide +kernel
theorem dX14_find_23 : decode cX14_find 23 = .ok (.iload 4, 2) := by decide +kernel
theorem dX14_find_25 : decode cX14_find 25 = .ok (.aload_n 0, 1) := by decide +kernel
theorem dX14_find_26 : decode cX14_find 26 = .ok (.getfield 152, 3) := by decide +kernel
theorem dX14_find_29 : decode cX14_find 29 = .ok (.if_icmp .ge 64, 3) := by decide +kernel
theorem dX14_find_32 : decode cX14_find 32 = .ok (.iload_n 3, 1) := by decide +kernel
theorem dX14_find_33 : decode cX14_find 33 = .ok (.ifCond .eq 60, 3) := by decide +kernel
theorem dX14_find_36 : decode cX14_find 36 = .ok (.aload_n 0, 1) := by decide +kernel
theorem dX14_find_37 : decode cX14_find 37 = .ok (.getfield 20, 3) := by decide +kernel
theorem dX14_find_40 : decode cX14_find 40 = .ok (.iload 4, 2) := by decide +kernel
theorem dX14_find_42 : decode cX14_find 42 = .ok (.iaload, 1) := by decide +kernel
theorem dX14_find_43 : decode cX14_find 43 = .ok (.invokestatic 185, 3) := by decide +kernel
theorem dX14_find_46 : decode cX14_find 46 = .ok (.ifCond .ne 21, 3) := by decide +kernel
theorem dX14_find_49 : decode cX14_find 49 = .ok (.aload_n 0, 1) := by decide +kernel
theorem dX14_find_50 : decode cX14_find 50 = .ok (.getfield 20, 3) := by decide +kernel
theorem dX14_find_53 : decode cX14_find 53 = .ok (.iload 4, 2) := by decide +kernel
theorem dX14_find_55 : decode cX14_find 55 = .ok (.iaload, 1) := by decide +kernel
theorem dX14_find_56 : decode cX14_find 56 = .ok (.invokestatic 189, 3) := by decide +kernel
theorem dX14_find_59 : decode cX14_find 59 = .ok (.ifCond .eq 12, 3) := by decide +kernel
theorem dX14_find_62 : decode cX14_find 62 = .ok (.iload 4, 2) := by decide +kernel
theorem dX14_find_64 : decode cX14_find 64 = .ok (.ifCond .le 7, 3) := by decide +kernel
theorem dX14_find_67 : decode cX14_find 67 = .ok (.iconst 1, 1) := by decide +kernel
theorem dX14_find_68 : decode cX14_find 68 = .ok (.goto 4, 3) := by decide +kernel
theorem dX14_find_71 : decode cX14_find 71 = .ok (.iconst 0, 1) := by decide +kernel
theorem dX14_find_72 : decode cX14_find 72 = .ok (.istore_n 3, 1) := by decide +kernel
theorem dX14_find_73 : decode cX14_find 73 = .ok (.lload_n 1, 1) := by decide +kernel
theorem dX14_find_74 : decode cX14_find 74 = .ok (.bipush 8, 2) := by decide +kernel
theorem dX14_find_76 : decode cX14_find 76 = .ok (.lshl, 1) := by decide +kernel
theorem dX14_find_77 : decode cX14_find 77 = .ok (.aload_n 0, 1) := by decide +kernel
theorem dX14_find_78 : decode cX14_find 78 = .ok (.getfield 20, 3) := by decide +kernel
theorem dX14_find_81 : decode cX14_find 81 = .ok (.iload 4, 2) := by decide +kernel
theorem dX14_find_83 : decode cX14_find 83 = .ok (.iaload, 1) := by decide +kernel
theorem dX14_find_84 : decode cX14_find 84 = .ok (.i2l, 1) := by decide +kernel
theorem dX14_find_85 : decode cX14_find 85 = .ok (.lor, 1) := by decide +kernel
theorem dX14_find_86 : decode cX14_find 86 = .ok (.lstore_n 1, 1) := by decide +kernel
theorem dX14_find_87 : decode cX14_find 87 = .ok (.iinc 4 1, 3) := by decide +kernel
theorem dX14_find_90 : decode cX14_find 90 = .ok (.goto (-67), 3) := by decide +kernel
theorem dX14_find_93 : decode cX14_find 93 = .ok (.aload_n 0, 1) := by decide +kernel
theorem dX14_find_94 : decode cX14_find 94 = .ok (.iconst 0, 1) := by decide +kernel
theorem dX14_find_95 : decode cX14_find 95 = .ok (.putfield 152, 3) := by decide +kernel
theorem dX14_find_98 : decode cX14_find 98 = .ok (.iload_n 3, 1) := by decide +kernel
theorem dX14_find_99 : decode cX14_find 99 = .ok (.ifCond .eq 25, 3) := by decide +kernel
theorem dX14_find_102 : decode cX14_find 102 = .ok (.aload_n 0, 1) := by decide +kernel
theorem dX14_find_103 : decode cX14_find 103 = .ok (.getfield 16, 3) := by decide +kernel
theorem dX14_find_106 : decode cX14_find 106 = .ok (.getfield 295, 3) := by decide +kernel
theorem dX14_find_109 : decode cX14_find 109 = .ok (.iconst 0, 1) := by decide +kernel
theorem dX14_find_110 : decode cX14_find 110 = .ok (.aload_n 0, 1) := by decide +kernel
theorem dX14_find_111 : decode cX14_find 111 = .ok (.getfield 16, 3) := by decide +kernel
theorem dX14_find_114 : decode cX14_find 114 = .ok (.getfield 298, 3) := by decide +kernel
theorem dX14_find_117 : decode cX14_find 117 = .ok (.lload_n 1, 1) := by decide +kernel
theorem dX14_find_118 : decode cX14_find 118 = .ok (.invokestatic 192, 3) := by decide +kernel
theorem dX14_find_121 : decode cX14_find 121 = .ok (.goto 4, 3) := by decide +kernel
theorem dX14_find_124 : decode cX14_find 124 = .ok (.iconst (-1), 1) := by decide +kernel
theorem dX14_find_125 : decode cX14_find 125 = .ok (.ireturn, 1) := by decide +kernel
theorem dX14_counted_0 : decode cX14_counted 0 = .ok (.iload_n 1, 1) := by decide +kernel
theorem dX14_counted_1 : decode cX14_counted 1 = .ok (.ifCond .ne 13, 3) := by decide +kernel
theorem dX14_counted_4 : decode cX14_counted 4 = .ok (.aload_n 0, 1) := by decide +kernel
theorem dX14_counted_5 : decode cX14_counted 5 = .ok (.getfield 16, 3) := by decide +kernel
theorem dX14_counted_8 : decode cX14_counted 8 = .ok (.getfield 298, 3) := by decide +kernel
theorem dX14_counted_11 : decode cX14_counted 11 = .ok (.goto 58, 3) := by decide +kernel
theorem dX14_counted_14 : decode cX14_counted 14 = .ok (.iload_n 1, 1) := by decide +kernel
theorem dX14_counted_15 : decode cX14_counted 15 = .ok (.iconst 1, 1) := by decide +kernel
theorem dX14_counted_16 : decode cX14_counted 16 = .ok (.if_icmp .ne 13, 3) := by decide +kernel
theorem dX14_counted_19 : decode cX14_counted 19 = .ok (.aload_n 0, 1) := by decide +kernel
theorem dX14_counted_20 : decode cX14_counted 20 = .ok (.getfield 16, 3) := by decide +kernel
theorem dX14_counted_23 : decode cX14_counted 23 = .ok (.getfield 341, 3) := by decide +kernel
theorem dX14_counted_26 : decode cX14_counted 26 = .ok (.goto 43, 3) := by decide +kernel
theorem dX14_counted_29 : decode cX14_counted 29 = .ok (.iload_n 1, 1) := by decide +kernel
theorem dX14_counted_30 : decode cX14_counted 30 = .ok (.iconst 2, 1) := by decide +kernel
theorem dX14_counted_31 : decode cX14_counted 31 = .ok (.if_icmp .ne 10, 3) := by decide +kernel
theorem dX14_counted_34 : decode cX14_counted 34 = .ok (.aload_n 0, 1) := by decide +kernel
theorem dX14_counted_35 : decode cX14_counted 35 = .ok (.getfield 152, 3) := by decide +kernel
theorem dX14_counted_38 : decode cX14_counted 38 = .ok (.goto 31, 3) := by decide +kernel
theorem dX14_counted_41 : decode cX14_counted 41 = .ok (.iload_n 1, 1) := by decide +kernel
theorem dX14_counted_42 : decode cX14_counted 42 = .ok (.iconst 3, 1) := by decide +kernel
theorem dX14_counted_43 : decode cX14_counted 43 = .ok (.if_icmp .ne 10, 3) := by decide +kernel
theorem dX14_counted_46 : decode cX14_counted 46 = .ok (.aload_n 0, 1) := by decide +kernel
theorem dX14_counted_47 : decode cX14_counted 47 = .ok (.getfield 437, 3) := by decide +kernel
theorem dX14_counted_50 : decode cX14_counted 50 = .ok (.goto 19, 3) := by decide +kernel
theorem dX14_counted_53 : decode cX14_counted 53 = .ok (.iload_n 1, 1) := by decide +kernel
theorem dX14_counted_54 : decode cX14_counted 54 = .ok (.iconst 4, 1) := by decide +kernel
theorem dX14_counted_55 : decode cX14_counted 55 = .ok (.if_icmp .ne 10, 3) := by decide +kernel
theorem dX14_counted_58 : decode cX14_counted 58 = .ok (.aload_n 0, 1) := by decide +kernel
theorem dX14_counted_59 : decode cX14_counted 59 = .ok (.getfield 423, 3) := by decide +kernel
theorem dX14_counted_62 : decode cX14_counted 62 = .ok (.goto 7, 3) := by decide +kernel
theorem dX14_counted_65 : decode cX14_counted 65 = .ok (.aload_n 0, 1) := by decide +kernel
theorem dX14_counted_66 : decode cX14_counted 66 = .ok (.getfield 440, 3) := by decide +kernel
theorem dX14_counted_69 : decode cX14_counted 69 = .ok (.ireturn, 1) := by decide +kernel
theorem dX14_count_0 : decode cX14_count 0 = .ok (.aload_n 0, 1) := by decide +kernel
theorem dX14_count_1 : decode cX14_count 1 = .ok (.iconst 0, 1) := by decide +kernel
theorem dX14_count_2 : decode cX14_count 2 = .ok (.putfield 149, 3) := by decide +kernel
theorem dX14_count_5 : decode cX14_count 5 = .ok (.iload_n 1, 1) := by decide +kernel
theorem dX14_count_6 : decode cX14_count 6 = .ok (.i2l, 1) := by decide +kernel
theorem dX14_count_7 : decode cX14_count 7 = .ok (.lconst 0, 1) := by decide +kernel
theorem dX14_count_8 : decode cX14_count 8 = .ok (.ldc2_w 443, 3) := by decide +kernel
theorem dX14_count_11 : decode cX14_count 11 = .ok (.invokestatic 163, 3) := by decide +kernel
theorem dX14_count_14 : decode cX14_count 14 = .ok (.ifCond .eq 11, 3) := by decide +kernel
theorem dX14_count_17 : decode cX14_count 17 = .ok (.aload_n 0, 1) := by decide +kernel
theorem dX14_count_18 : decode cX14_count 18 = .ok (.iload_n 1, 1) := by decide +kernel
theorem dX14_count_19 : decode cX14_count 19 = .ok (.invokevirtual 445, 3) := by decide +kernel
theorem dX14_count_22 : decode cX14_count 22 = .ok (.goto 8, 3) := by decide +kernel
theorem dX14_count_25 : decode cX14_count 25 = .ok (.aload_n 0, 1) := by decide +kernel
theorem dX14_count_26 : decode cX14_count 26 = .ok (.iconst 1, 1) := by decide +kernel
theorem dX14_count_27 : decode cX14_count 27 = .ok (.invokevirtual 155, 3) := by decide +kernel
theorem dX14_count_30 : decode cX14_count 30 = .ok (.ireturn, 1) := by decide +kernel
theorem dX14_isStream_0 : decode cX14_isStream 0 = .ok (.iload_n 1, 1) := by decide +kernel
theorem dX14_isStream_1 : decode cX14_isStream 1 = .ok (.i2l, 1) := by decide +kernel
theorem dX14_isStream_2 : decode cX14_isStream 2 = .ok (.lconst 0, 1) := by decide +kernel
theorem dX14_isStream_3 : decode cX14_isStream 3 = .ok (.aload_n 0, 1) := by decide +kernel
theorem dX14_isStream_4 : decode cX14_isStream 4 = .ok (.getfield 16, 3) := by decide +kernel
theorem dX14_isStream_7 : decode cX14_isStream 7 = .ok (.getfield 298, 3) := by decide +kernel
theorem dX14_isStream_10 : decode cX14_isStream 10 = .ok (.iconst 1, 1) := by decide +kernel
theorem dX14_isStream_11 : decode cX14_isStream 11 = .ok (.isub, 1) := by decide +kernel
theorem dX14_isStream_12 : decode cX14_isStream 12 = .ok (.i2l, 1) := by decide +kernel
theorem dX14_isStream_13 : decode cX14_isStream 13 = .ok (.invokestatic 163, 3) := by decide +kernel
theorem dX14_isStream_16 : decode cX14_isStream 16 = .ok (.ireturn, 1) := by decide +kernel
theorem dX14_stream_0 : decode cX14_stream 0 = .ok (.aload_n 0, 1) := by decide +kernel
theorem dX14_stream_1 : decode cX14_stream 1 = .ok (.iconst 0, 1) := by decide +kernel
theorem dX14_stream_2 : decode cX14_stream 2 = .ok (.putfield 149, 3) := by decide +kernel
theorem dX14_stream_5 : decode cX14_stream 5 = .ok (.aload_n 0, 1) := by decide +kernel
theorem dX14_stream_6 : decode cX14_stream 6 = .ok (.iload_n 1, 1) := by decide +kernel
theorem dX14_stream_7 : decode cX14_stream 7 = .ok (.invokevirtual 448, 3) := by decide +kernel
theorem dX14_stream_10 : decode cX14_stream 10 = .ok (.ifCond .eq 15, 3) := by decide +kernel
theorem dX14_stream_13 : decode cX14_stream 13 = .ok (.iload_n 2, 1) := by decide +kernel
theorem dX14_stream_14 : decode cX14_stream 14 = .ok (.i2l, 1) := by decide +kernel
theorem dX14_stream_15 : decode cX14_stream 15 = .ok (.lconst 0, 1) := by decide +kernel
theorem dX14_stream_16 : decode cX14_stream 16 = .ok (.ldc2_w 451, 3) := by decide +kernel
theorem dX14_stream_19 : decode cX14_stream 19 = .ok (.invokestatic 163, 3) := by decide +kernel
theorem dX14_stream_22 : decode cX14_stream 22 = .ok (.ifCond .ne 9, 3) := by decide +kernel
theorem dX14_stream_25 : decode cX14_stream 25 = .ok (.aload_n 0, 1) := by decide +kernel
theorem dX14_stream_26 : decode cX14_stream 26 = .ok (.iconst 1, 1) := by decide +kernel
theorem dX14_stream_27 : decode cX14_stream 27 = .ok (.invokevirtual 155, 3) := by decide +kernel
theorem dX14_stream_30 : decode cX14_stream 30 = .ok (.ireturn, 1) := by decide +kernel
theorem dX14_stream_31 : decode cX14_stream 31 = .ok (.iload_n 2, 1) := by decide +kernel
theorem dX14_stream_32 : decode cX14_stream 32 = .ok (.ifCond .ne 15, 3) := by decide +kernel
theorem dX14_stream_35 : decode cX14_stream 35 = .ok (.aload_n 0, 1) := by decide +kernel
theorem dX14_stream_36 : decode cX14_stream 36 = .ok (.getfield 16, 3) := by decide +kernel
theorem dX14_stream_39 : decode cX14_stream 39 = .ok (.getfield 368, 3) := by decide +kernel
theorem dX14_stream_42 : decode cX14_stream 42 = .ok (.iload_n 1, 1) := by decide +kernel
theorem dX14_stream_43 : decode cX14_stream 43 = .ok (.iaload, 1) := by decide +kernel
theorem dX14_stream_44 : decode cX14_stream 44 = .ok (.goto 46, 3) := by decide +kernel
theorem dX14_stream_47 : decode cX14_stream 47 = .ok (.iload_n 2, 1) := by decide +kernel
theorem dX14_stream_48 : decode cX14_stream 48 = .ok (.iconst 1, 1) := by decide +kernel
theorem dX14_stream_49 : decode cX14_stream 49 = .ok (.if_icmp .ne 15, 3) := by decide +kernel
theorem dX14_stream_52 : decode cX14_stream 52 = .ok (.aload_n 0, 1) := by decide +kernel
theorem dX14_stream_53 : decode cX14_stream 53 = .ok (.getfield 16, 3) := by decide +kernel
theorem dX14_stream_56 : decode cX14_stream 56 = .ok (.getfield 292, 3) := by decide +kernel
theorem dX14_stream_59 : decode cX14_stream 59 = .ok (.iload_n 1, 1) := by decide +kernel
theorem dX14_stream_60 : decode cX14_stream 60 = .ok (.iaload, 1) := by decide +kernel
theorem dX14_stream_61 : decode cX14_stream 61 = .ok (.goto 29, 3) := by decide +kernel
theorem dX14_stream_64 : decode cX14_stream 64 = .ok (.iload_n 2, 1) := by decide +kernel
theorem dX14_stream_65 : decode cX14_stream 65 = .ok (.iconst 2, 1) := by decide +kernel
theorem dX14_stream_66 : decode cX14_stream 66 = .ok (.if_icmp .ne 15, 3) := by decide +kernel
theorem dX14_stream_69 : decode cX14_stream 69 = .ok (.aload_n 0, 1) := by decide +kernel
theorem dX14_stream_70 : decode cX14_stream 70 = .ok (.getfield 16, 3) := by decide +kernel
theorem dX14_stream_73 : decode cX14_stream 73 = .ok (.getfield 323, 3) := by decide +kernel
theorem dX14_stream_76 : decode cX14_stream 76 = .ok (.iload_n 1, 1) := by decide +kernel
theorem dX14_stream_77 : decode cX14_stream 77 = .ok (.iaload, 1) := by decide +kernel
theorem dX14_stream_78 : decode cX14_stream 78 = .ok (.goto 12, 3) := by decide +kernel
theorem dX14_stream_81 : decode cX14_stream 81 = .ok (.aload_n 0, 1) := by decide +kernel
theorem dX14_stream_82 : decode cX14_stream 82 = .ok (.getfield 16, 3) := by decide +kernel
theorem dX14_stream_85 : decode cX14_stream 85 = .ok (.getfield 326, 3) := by decide +kernel
theorem dX14_stream_88 : decode cX14_stream 88 = .ok (.iload_n 1, 1) := by decide +kernel
theorem dX14_stream_89 : decode cX14_stream 89 = .ok (.iaload, 1) := by decide +kernel
theorem dX14_stream_90 : decode cX14_stream 90 = .ok (.ireturn, 1) := by decide +kernel
theorem dX14_empty_0 : decode cX14_empty 0 = .ok (.iconst 0, 1) := by decide +kernel
theorem dX14_empty_1 : decode cX14_empty 1 = .ok (.istore_n 1, 1) := by decide +kernel
theorem dX14_empty_2 : decode cX14_empty 2 = .ok (.iload_n 1, 1) := by decide +kernel
theorem dX14_empty_3 : decode cX14_empty 3 = .ok (.bipush 12, 2) := by decide +kernel
theorem dX14_empty_5 : decode cX14_empty 5 = .ok (.if_icmp .ge 51, 3) := by decide +kernel
theorem dX14_empty_8 : decode cX14_empty 8 = .ok (.aload_n 0, 1) := by decide +kernel
theorem dX14_empty_9 : decode cX14_empty 9 = .ok (.getfield 49, 3) := by decide +kernel
theorem dX14_empty_12 : decode cX14_empty 12 = .ok (.iload_n 1, 1) := by decide +kernel
theorem dX14_empty_13 : decode cX14_empty 13 = .ok (.iconst 0, 1) := by decide +kernel
theorem dX14_empty_14 : decode cX14_empty 14 = .ok (.iastore, 1) := by decide +kernel
theorem dX14_empty_15 : decode cX14_empty 15 = .ok (.aload_n 0, 1) := by decide +kernel
theorem dX14_empty_16 : decode cX14_empty 16 = .ok (.getfield 52, 3) := by decide +kernel
theorem dX14_empty_19 : decode cX14_empty 19 = .ok (.iload_n 1, 1) := by decide +kernel
theorem dX14_empty_20 : decode cX14_empty 20 = .ok (.iconst (-1), 1) := by decide +kernel
theorem dX14_empty_21 : decode cX14_empty 21 = .ok (.iastore, 1) := by decide +kernel
theorem dX14_empty_22 : decode cX14_empty 22 = .ok (.aload_n 0, 1) := by decide +kernel
theorem dX14_empty_23 : decode cX14_empty 23 = .ok (.getfield 55, 3) := by decide +kernel
theorem dX14_empty_26 : decode cX14_empty 26 = .ok (.iload_n 1, 1) := by decide +kernel
theorem dX14_empty_27 : decode cX14_empty 27 = .ok (.iconst 0, 1) := by decide +kernel
theorem dX14_empty_28 : decode cX14_empty 28 = .ok (.iastore, 1) := by decide +kernel
theorem dX14_empty_29 : decode cX14_empty 29 = .ok (.aload_n 0, 1) := by decide +kernel
theorem dX14_empty_30 : decode cX14_empty 30 = .ok (.getfield 58, 3) := by decide +kernel
theorem dX14_empty_33 : decode cX14_empty 33 = .ok (.iload_n 1, 1) := by decide +kernel
theorem dX14_empty_34 : decode cX14_empty 34 = .ok (.iconst 0, 1) := by decide +kernel
theorem dX14_empty_35 : decode cX14_empty 35 = .ok (.iastore, 1) := by decide +kernel
theorem dX14_empty_36 : decode cX14_empty 36 = .ok (.aload_n 0, 1) := by decide +kernel
theorem dX14_empty_37 : decode cX14_empty 37 = .ok (.getfield 64, 3) := by decide +kernel
theorem dX14_empty_40 : decode cX14_empty 40 = .ok (.iload_n 1, 1) := by decide +kernel
theorem dX14_empty_41 : decode cX14_empty 41 = .ok (.iconst 0, 1) := by decide +kernel
theorem dX14_empty_42 : decode cX14_empty 42 = .ok (.iastore, 1) := by decide +kernel
theorem dX14_empty_43 : decode cX14_empty 43 = .ok (.aload_n 0, 1) := by decide +kernel
theorem dX14_empty_44 : decode cX14_empty 44 = .ok (.getfield 85, 3) := by decide +kernel
theorem dX14_empty_47 : decode cX14_empty 47 = .ok (.iload_n 1, 1) := by decide +kernel
theorem dX14_empty_48 : decode cX14_empty 48 = .ok (.iconst 0, 1) := by decide +kernel
theorem dX14_empty_49 : decode cX14_empty 49 = .ok (.iastore, 1) := by decide +kernel
theorem dX14_empty_50 : decode cX14_empty 50 = .ok (.iinc 1 1, 3) := by decide +kernel
theorem dX14_empty_53 : decode cX14_empty 53 = .ok (.goto (-51), 3) := by decide +kernel
theorem dX14_empty_56 : decode cX14_empty 56 = .ok (.aload_n 0, 1) := by decide +kernel
theorem dX14_empty_57 : decode cX14_empty 57 = .ok (.iconst 0, 1) := by decide +kernel
theorem dX14_empty_58 : decode cX14_empty 58 = .ok (.putfield 440, 3) := by decide +kernel
theorem dX14_empty_61 : decode cX14_empty 61 = .ok (.iconst 0, 1) := by decide +kernel
theorem dX14_empty_62 : decode cX14_empty 62 = .ok (.istore_n 1, 1) := by decide +kernel
theorem dX14_empty_63 : decode cX14_empty 63 = .ok (.iload_n 1, 1) := by decide +kernel
theorem dX14_empty_64 : decode cX14_empty 64 = .ok (.bipush 8, 2) := by decide +kernel
theorem dX14_empty_66 : decode cX14_empty 66 = .ok (.if_icmp .ge 16, 3) := by decide +kernel
theorem dX14_empty_69 : decode cX14_empty 69 = .ok (.aload_n 0, 1) := by decide +kernel
theorem dX14_empty_70 : decode cX14_empty 70 = .ok (.getfield 76, 3) := by decide +kernel
theorem dX14_empty_73 : decode cX14_empty 73 = .ok (.iload_n 1, 1) := by decide +kernel
theorem dX14_empty_74 : decode cX14_empty 74 = .ok (.iconst 0, 1) := by decide +kernel
theorem dX14_empty_75 : decode cX14_empty 75 = .ok (.iastore, 1) := by decide +kernel
theorem dX14_empty_76 : decode cX14_empty 76 = .ok (.iinc 1 1, 3) := by decide +kernel
theorem dX14_empty_79 : decode cX14_empty 79 = .ok (.goto (-16), 3) := by decide +kernel
theorem dX14_empty_82 : decode cX14_empty 82 = .ok (.aload_n 0, 1) := by decide +kernel
theorem dX14_empty_83 : decode cX14_empty 83 = .ok (.iconst 0, 1) := by decide +kernel
theorem dX14_empty_84 : decode cX14_empty 84 = .ok (.putfield 453, 3) := by decide +kernel
theorem dX14_empty_87 : decode cX14_empty 87 = .ok (.aload_n 0, 1) := by decide +kernel
theorem dX14_empty_88 : decode cX14_empty 88 = .ok (.iconst 0, 1) := by decide +kernel
theorem dX14_empty_89 : decode cX14_empty 89 = .ok (.putfield 456, 3) := by decide +kernel
theorem dX14_empty_92 : decode cX14_empty 92 = .ok (.aload_n 0, 1) := by decide +kernel
theorem dX14_empty_93 : decode cX14_empty 93 = .ok (.iconst 0, 1) := by decide +kernel
theorem dX14_empty_94 : decode cX14_empty 94 = .ok (.putfield 459, 3) := by decide +kernel
theorem dX14_empty_97 : decode cX14_empty 97 = .ok (.return_, 1) := by decide +kernel
theorem dX14_rowAt_0 : decode cX14_rowAt 0 = .ok (.sipush 200, 3) := by decide +kernel
theorem dX14_rowAt_3 : decode cX14_rowAt 3 = .ok (.iload_n 0, 1) := by decide +kernel
theorem dX14_rowAt_4 : decode cX14_rowAt 4 = .ok (.imul, 1) := by decide +kernel
theorem dX14_rowAt_5 : decode cX14_rowAt 5 = .ok (.iload_n 1, 1) := by decide +kernel
theorem dX14_rowAt_6 : decode cX14_rowAt 6 = .ok (.iadd, 1) := by decide +kernel
theorem dX14_rowAt_7 : decode cX14_rowAt 7 = .ok (.bipush 7, 2) := by decide +kernel
theorem dX14_rowAt_9 : decode cX14_rowAt 9 = .ok (.imul, 1) := by decide +kernel
theorem dX14_rowAt_10 : decode cX14_rowAt 10 = .ok (.ireturn, 1) := by decide +kernel
theorem dX14_worth_0 : decode cX14_worth 0 = .ok (.iconst 0, 1) := by decide +kernel
theorem dX14_worth_1 : decode cX14_worth 1 = .ok (.istore 4, 2) := by decide +kernel
theorem dX14_worth_3 : decode cX14_worth 3 = .ok (.iload_n 1, 1) := by decide +kernel
theorem dX14_worth_4 : decode cX14_worth 4 = .ok (.istore 5, 2) := by decide +kernel
theorem dX14_worth_6 : decode cX14_worth 6 = .ok (.aload_n 0, 1) := by decide +kernel
theorem dX14_worth_7 : decode cX14_worth 7 = .ok (.getfield 16, 3) := by decide +kernel
theorem dX14_worth_10 : decode cX14_worth 10 = .ok (.getfield 235, 3) := by decide +kernel
theorem dX14_worth_13 : decode cX14_worth 13 = .ok (.iload 5, 2) := by decide +kernel
theorem dX14_worth_15 : decode cX14_worth 15 = .ok (.iaload, 1) := by decide +kernel
theorem dX14_worth_16 : decode cX14_worth 16 = .ok (.bipush 50, 2) := by decide +kernel
theorem dX14_worth_18 : decode cX14_worth 18 = .ok (.if_icmp .eq 194, 3) := by decide +kernel
theorem dX14_worth_21 : decode cX14_worth 21 = .ok (.aload_n 0, 1) := by decide +kernel
theorem dX14_worth_22 : decode cX14_worth 22 = .ok (.getfield 16, 3) := by decide +kernel
theorem dX14_worth_25 : decode cX14_worth 25 = .ok (.getfield 235, 3) := by decide +kernel
theorem dX14_worth_28 : decode cX14_worth 28 = .ok (.iload 5, 2) := by decide +kernel
theorem dX14_worth_30 : decode cX14_worth 30 = .ok (.iaload, 1) := by decide +kernel
theorem dX14_worth_31 : decode cX14_worth 31 = .ok (.istore 6, 2) := by decide +kernel
theorem dX14_worth_33 : decode cX14_worth 33 = .ok (.iload 6, 2) := by decide +kernel
theorem dX14_worth_35 : decode cX14_worth 35 = .ok (.iconst 2, 1) := by decide +kernel
theorem dX14_worth_36 : decode cX14_worth 36 = .ok (.if_icmp .gt 63, 3) := by decide +kernel
theorem dX14_worth_39 : decode cX14_worth 39 = .ok (.aload_n 0, 1) := by decide +kernel
theorem dX14_worth_40 : decode cX14_worth 40 = .ok (.getfield 79, 3) := by decide +kernel
theorem dX14_worth_43 : decode cX14_worth 43 = .ok (.iload 4, 2) := by decide +kernel
theorem dX14_worth_45 : decode cX14_worth 45 = .ok (.iload 6, 2) := by decide +kernel
theorem dX14_worth_47 : decode cX14_worth 47 = .ok (.ifCond .ne 16, 3) := by decide +kernel
theorem dX14_worth_50 : decode cX14_worth 50 = .ok (.aload_n 0, 1) := by decide +kernel
theorem dX14_worth_51 : decode cX14_worth 51 = .ok (.getfield 16, 3) := by decide +kernel
theorem dX14_worth_54 : decode cX14_worth 54 = .ok (.getfield 241, 3) := by decide +kernel
theorem dX14_worth_57 : decode cX14_worth 57 = .ok (.iload 5, 2) := by decide +kernel
theorem dX14_worth_59 : decode cX14_worth 59 = .ok (.laload, 1) := by decide +kernel
theorem dX14_worth_60 : decode cX14_worth 60 = .ok (.goto 32, 3) := by decide +kernel
theorem dX14_worth_63 : decode cX14_worth 63 = .ok (.iload 6, 2) := by decide +kernel
theorem dX14_worth_65 : decode cX14_worth 65 = .ok (.iconst 2, 1) := by decide +kernel
theorem dX14_worth_66 : decode cX14_worth 66 = .ok (.if_icmp .ne 9, 3) := by decide +kernel
theorem dX14_worth_69 : decode cX14_worth 69 = .ok (.aload_n 2, 1) := by decide +kernel
theorem dX14_worth_70 : decode cX14_worth 70 = .ok (.iload_n 3, 1) := by decide +kernel
theorem dX14_worth_71 : decode cX14_worth 71 = .ok (.laload, 1) := by decide +kernel
theorem dX14_worth_72 : decode cX14_worth 72 = .ok (.goto 20, 3) := by decide +kernel
theorem dX14_worth_75 : decode cX14_worth 75 = .ok (.aload_n 2, 1) := by decide +kernel
theorem dX14_worth_76 : decode cX14_worth 76 = .ok (.iload_n 3, 1) := by decide +kernel
theorem dX14_worth_77 : decode cX14_worth 77 = .ok (.iconst 1, 1) := by decide +kernel
theorem dX14_worth_78 : decode cX14_worth 78 = .ok (.iadd, 1) := by decide +kernel
theorem dX14_worth_79 : decode cX14_worth 79 = .ok (.aload_n 0, 1) := by decide +kernel
theorem dX14_worth_80 : decode cX14_worth 80 = .ok (.getfield 16, 3) := by decide +kernel
theorem dX14_worth_83 : decode cX14_worth 83 = .ok (.getfield 241, 3) := by decide +kernel
theorem dX14_worth_86 : decode cX14_worth 86 = .ok (.iload 5, 2) := by decide +kernel
theorem dX14_worth_88 : decode cX14_worth 88 = .ok (.laload, 1) := by decide +kernel
theorem dX14_worth_89 : decode cX14_worth 89 = .ok (.l2i, 1) := by decide +kernel
theorem dX14_worth_90 : decode cX14_worth 90 = .ok (.iadd, 1) := by decide +kernel
theorem dX14_worth_91 : decode cX14_worth 91 = .ok (.laload, 1) := by decide +kernel
theorem dX14_worth_92 : decode cX14_worth 92 = .ok (.lastore, 1) := by decide +kernel
theorem dX14_worth_93 : decode cX14_worth 93 = .ok (.iinc 4 1, 3) := by decide +kernel
theorem dX14_worth_96 : decode cX14_worth 96 = .ok (.goto 110, 3) := by decide +kernel
theorem dX14_worth_99 : decode cX14_worth 99 = .ok (.iload 6, 2) := by decide +kernel
theorem dX14_worth_101 : decode cX14_worth 101 = .ok (.bipush 40, 2) := by decide +kernel
theorem dX14_worth_103 : decode cX14_worth 103 = .ok (.if_icmp .lt 70, 3) := by decide +kernel
theorem dX14_worth_106 : decode cX14_worth 106 = .ok (.aload_n 0, 1) := by decide +kernel
theorem dX14_worth_107 : decode cX14_worth 107 = .ok (.getfield 79, 3) := by decide +kernel
theorem dX14_worth_110 : decode cX14_worth 110 = .ok (.iload 4, 2) := by decide +kernel
theorem dX14_worth_112 : decode cX14_worth 112 = .ok (.iconst 1, 1) := by decide +kernel
theorem dX14_worth_113 : decode cX14_worth 113 = .ok (.isub, 1) := by decide +kernel
theorem dX14_worth_114 : decode cX14_worth 114 = .ok (.laload, 1) := by decide +kernel
theorem dX14_worth_115 : decode cX14_worth 115 = .ok (.lstore 7, 2) := by decide +kernel
theorem dX14_worth_117 : decode cX14_worth 117 = .ok (.aload_n 0, 1) := by decide +kernel
theorem dX14_worth_118 : decode cX14_worth 118 = .ok (.getfield 79, 3) := by decide +kernel
theorem dX14_worth_121 : decode cX14_worth 121 = .ok (.iload 4, 2) := by decide +kernel
theorem dX14_worth_123 : decode cX14_worth 123 = .ok (.iconst 1, 1) := by decide +kernel
theorem dX14_worth_124 : decode cX14_worth 124 = .ok (.isub, 1) := by decide +kernel
theorem dX14_worth_125 : decode cX14_worth 125 = .ok (.iload 6, 2) := by decide +kernel
theorem dX14_worth_127 : decode cX14_worth 127 = .ok (.bipush 40, 2) := by decide +kernel
theorem dX14_worth_129 : decode cX14_worth 129 = .ok (.if_icmp .ne 18, 3) := by decide +kernel
theorem dX14_worth_132 : decode cX14_worth 132 = .ok (.lload 7, 2) := by decide +kernel
theorem dX14_worth_134 : decode cX14_worth 134 = .ok (.lconst 0, 1) := by decide +kernel
theorem dX14_worth_135 : decode cX14_worth 135 = .ok (.lcmp, 1) := by decide +kernel
theorem dX14_worth_136 : decode cX14_worth 136 = .ok (.ifCond .ne 7, 3) := by decide +kernel
theorem dX14_worth_139 : decode cX14_worth 139 = .ok (.lconst 1, 1) := by decide +kernel
theorem dX14_worth_140 : decode cX14_worth 140 = .ok (.goto 29, 3) := by decide +kernel
theorem dX14_worth_143 : decode cX14_worth 143 = .ok (.lconst 0, 1) := by decide +kernel
theorem dX14_worth_144 : decode cX14_worth 144 = .ok (.goto 25, 3) := by decide +kernel
theorem dX14_worth_147 : decode cX14_worth 147 = .ok (.iload 6, 2) := by decide +kernel
theorem dX14_worth_149 : decode cX14_worth 149 = .ok (.bipush 41, 2) := by decide +kernel
theorem dX14_worth_151 : decode cX14_worth 151 = .ok (.if_icmp .eq 10, 3) := by decide +kernel
theorem dX14_worth_154 : decode cX14_worth 154 = .ok (.lload 7, 2) := by decide +kernel
theorem dX14_worth_156 : decode cX14_worth 156 = .ok (.lconst 0, 1) := by decide +kernel
theorem dX14_worth_157 : decode cX14_worth 157 = .ok (.lcmp, 1) := by decide +kernel
theorem dX14_worth_158 : decode cX14_worth 158 = .ok (.ifCond .ge 9, 3) := by decide +kernel
theorem dX14_worth_161 : decode cX14_worth 161 = .ok (.lload 7, 2) := by decide +kernel
theorem dX14_worth_163 : decode cX14_worth 163 = .ok (.lneg, 1) := by decide +kernel
theorem dX14_worth_164 : decode cX14_worth 164 = .ok (.goto 5, 3) := by decide +kernel
theorem dX14_worth_167 : decode cX14_worth 167 = .ok (.lload 7, 2) := by decide +kernel
theorem dX14_worth_169 : decode cX14_worth 169 = .ok (.lastore, 1) := by decide +kernel
theorem dX14_worth_170 : decode cX14_worth 170 = .ok (.goto 36, 3) := by decide +kernel
theorem dX14_worth_173 : decode cX14_worth 173 = .ok (.iinc 4 (-1), 3) := by decide +kernel
theorem dX14_worth_176 : decode cX14_worth 176 = .ok (.aload_n 0, 1) := by decide +kernel
theorem dX14_worth_177 : decode cX14_worth 177 = .ok (.getfield 79, 3) := by decide +kernel
theorem dX14_worth_180 : decode cX14_worth 180 = .ok (.iload 4, 2) := by decide +kernel
theorem dX14_worth_182 : decode cX14_worth 182 = .ok (.iconst 1, 1) := by decide +kernel
theorem dX14_worth_183 : decode cX14_worth 183 = .ok (.isub, 1) := by decide +kernel
theorem dX14_worth_184 : decode cX14_worth 184 = .ok (.iload 6, 2) := by decide +kernel
theorem dX14_worth_186 : decode cX14_worth 186 = .ok (.aload_n 0, 1) := by decide +kernel
theorem dX14_worth_187 : decode cX14_worth 187 = .ok (.getfield 79, 3) := by decide +kernel
theorem dX14_worth_190 : decode cX14_worth 190 = .ok (.iload 4, 2) := by decide +kernel
theorem dX14_worth_192 : decode cX14_worth 192 = .ok (.iconst 1, 1) := by decide +kernel
theorem dX14_worth_193 : decode cX14_worth 193 = .ok (.isub, 1) := by decide +kernel
theorem dX14_worth_194 : decode cX14_worth 194 = .ok (.laload, 1) := by decide +kernel
theorem dX14_worth_195 : decode cX14_worth 195 = .ok (.aload_n 0, 1) := by decide +kernel
theorem dX14_worth_196 : decode cX14_worth 196 = .ok (.getfield 79, 3) := by decide +kernel
theorem dX14_worth_199 : decode cX14_worth 199 = .ok (.iload 4, 2) := by decide +kernel
theorem dX14_worth_201 : decode cX14_worth 201 = .ok (.laload, 1) := by decide +kernel
theorem dX14_worth_202 : decode cX14_worth 202 = .ok (.invokestatic 462, 3) := by decide +kernel
theorem dX14_worth_205 : decode cX14_worth 205 = .ok (.lastore, 1) := by decide +kernel
theorem dX14_worth_206 : decode cX14_worth 206 = .ok (.iinc 5 1, 3) := by decide +kernel
theorem dX14_worth_209 : decode cX14_worth 209 = .ok (.goto (-203), 3) := by decide +kernel
theorem dX14_worth_212 : decode cX14_worth 212 = .ok (.aload_n 0, 1) := by decide +kernel
theorem dX14_worth_213 : decode cX14_worth 213 = .ok (.getfield 79, 3) := by decide +kernel
theorem dX14_worth_216 : decode cX14_worth 216 = .ok (.iconst 0, 1) := by decide +kernel
theorem dX14_worth_217 : decode cX14_worth 217 = .ok (.laload, 1) := by decide +kernel
theorem dX14_worth_218 : decode cX14_worth 218 = .ok (.lreturn, 1) := by decide +kernel
theorem dX14_two_0 : decode cX14_two 0 = .ok (.iload_n 0, 1) := by decide +kernel
theorem dX14_two_1 : decode cX14_two 1 = .ok (.tableswitch 261 10 32 #[107, 111, 115, 119, 133, 261, 261, 261, 261, 261, 147, 159, 171, 183, 195, 207, 261, 261, 261, 261, 219, 237, 255], 107) := by decide +kernel
theorem dX14_two_108 : decode cX14_two 108 = .ok (.lload_n 1, 1) := by decide +kernel
theorem dX14_two_109 : decode cX14_two 109 = .ok (.lload_n 3, 1) := by decide +kernel
theorem dX14_two_110 : decode cX14_two 110 = .ok (.ladd, 1) := by decide +kernel
theorem dX14_two_111 : decode cX14_two 111 = .ok (.lreturn, 1) := by decide +kernel
theorem dX14_two_112 : decode cX14_two 112 = .ok (.lload_n 1, 1) := by decide +kernel
theorem dX14_two_113 : decode cX14_two 113 = .ok (.lload_n 3, 1) := by decide +kernel
theorem dX14_two_114 : decode cX14_two 114 = .ok (.lsub, 1) := by decide +kernel
theorem dX14_two_115 : decode cX14_two 115 = .ok (.lreturn, 1) := by decide +kernel
theorem dX14_two_116 : decode cX14_two 116 = .ok (.lload_n 1, 1) := by decide +kernel
theorem dX14_two_117 : decode cX14_two 117 = .ok (.lload_n 3, 1) := by decide +kernel
theorem dX14_two_118 : decode cX14_two 118 = .ok (.lmul, 1) := by decide +kernel
theorem dX14_two_119 : decode cX14_two 119 = .ok (.lreturn, 1) := by decide +kernel
theorem dX14_two_120 : decode cX14_two 120 = .ok (.lload_n 3, 1) := by decide +kernel
theorem dX14_two_121 : decode cX14_two 121 = .ok (.lconst 0, 1) := by decide +kernel
theorem dX14_two_122 : decode cX14_two 122 = .ok (.lcmp, 1) := by decide +kernel
theorem dX14_two_123 : decode cX14_two 123 = .ok (.ifCond .ne 7, 3) := by decide +kernel
theorem dX14_two_126 : decode cX14_two 126 = .ok (.lconst 0, 1) := by decide +kernel
theorem dX14_two_127 : decode cX14_two 127 = .ok (.goto 6, 3) := by decide +kernel
theorem dX14_two_130 : decode cX14_two 130 = .ok (.lload_n 1, 1) := by decide +kernel
theorem dX14_two_131 : decode cX14_two 131 = .ok (.lload_n 3, 1) := by decide +kernel
theorem dX14_two_132 : decode cX14_two 132 = .ok (.ldiv, 1) := by decide +kernel
theorem dX14_two_133 : decode cX14_two 133 = .ok (.lreturn, 1) := by decide +kernel
theorem dX14_two_134 : decode cX14_two 134 = .ok (.lload_n 3, 1) := by decide +kernel
theorem dX14_two_135 : decode cX14_two 135 = .ok (.lconst 0, 1) := by decide +kernel
theorem dX14_two_136 : decode cX14_two 136 = .ok (.lcmp, 1) := by decide +kernel
theorem dX14_two_137 : decode cX14_two 137 = .ok (.ifCond .ne 7, 3) := by decide +kernel
theorem dX14_two_140 : decode cX14_two 140 = .ok (.lconst 0, 1) := by decide +kernel
theorem dX14_two_141 : decode cX14_two 141 = .ok (.goto 6, 3) := by decide +kernel
theorem dX14_two_144 : decode cX14_two 144 = .ok (.lload_n 1, 1) := by decide +kernel
theorem dX14_two_145 : decode cX14_two 145 = .ok (.lload_n 3, 1) := by decide +kernel
theorem dX14_two_146 : decode cX14_two 146 = .ok (.lrem, 1) := by decide +kernel
theorem dX14_two_147 : decode cX14_two 147 = .ok (.lreturn, 1) := by decide +kernel
theorem dX14_two_148 : decode cX14_two 148 = .ok (.lload_n 1, 1) := by decide +kernel
theorem dX14_two_149 : decode cX14_two 149 = .ok (.lload_n 3, 1) := by decide +kernel
theorem dX14_two_150 : decode cX14_two 150 = .ok (.lcmp, 1) := by decide +kernel
theorem dX14_two_151 : decode cX14_two 151 = .ok (.ifCond .ne 7, 3) := by decide +kernel
theorem dX14_two_154 : decode cX14_two 154 = .ok (.lconst 1, 1) := by decide +kernel
theorem dX14_two_155 : decode cX14_two 155 = .ok (.goto 4, 3) := by decide +kernel
theorem dX14_two_158 : decode cX14_two 158 = .ok (.lconst 0, 1) := by decide +kernel
theorem dX14_two_159 : decode cX14_two 159 = .ok (.lreturn, 1) := by decide +kernel
theorem dX14_two_160 : decode cX14_two 160 = .ok (.lload_n 1, 1) := by decide +kernel
theorem dX14_two_161 : decode cX14_two 161 = .ok (.lload_n 3, 1) := by decide +kernel
theorem dX14_two_162 : decode cX14_two 162 = .ok (.lcmp, 1) := by decide +kernel
theorem dX14_two_163 : decode cX14_two 163 = .ok (.ifCond .eq 7, 3) := by decide +kernel
theorem dX14_two_166 : decode cX14_two 166 = .ok (.lconst 1, 1) := by decide +kernel
theorem dX14_two_167 : decode cX14_two 167 = .ok (.goto 4, 3) := by decide +kernel
theorem dX14_two_170 : decode cX14_two 170 = .ok (.lconst 0, 1) := by decide +kernel
theorem dX14_two_171 : decode cX14_two 171 = .ok (.lreturn, 1) := by decide +kernel
theorem dX14_two_172 : decode cX14_two 172 = .ok (.lload_n 1, 1) := by decide +kernel
theorem dX14_two_173 : decode cX14_two 173 = .ok (.lload_n 3, 1) := by decide +kernel
theorem dX14_two_174 : decode cX14_two 174 = .ok (.lcmp, 1) := by decide +kernel
theorem dX14_two_175 : decode cX14_two 175 = .ok (.ifCond .ge 7, 3) := by decide +kernel
theorem dX14_two_178 : decode cX14_two 178 = .ok (.lconst 1, 1) := by decide +kernel
theorem dX14_two_179 : decode cX14_two 179 = .ok (.goto 4, 3) := by decide +kernel
theorem dX14_two_182 : decode cX14_two 182 = .ok (.lconst 0, 1) := by decide +kernel
theorem dX14_two_183 : decode cX14_two 183 = .ok (.lreturn, 1) := by decide +kernel
theorem dX14_two_184 : decode cX14_two 184 = .ok (.lload_n 1, 1) := by decide +kernel
theorem dX14_two_185 : decode cX14_two 185 = .ok (.lload_n 3, 1) := by decide +kernel
theorem dX14_two_186 : decode cX14_two 186 = .ok (.lcmp, 1) := by decide +kernel
theorem dX14_two_187 : decode cX14_two 187 = .ok (.ifCond .le 7, 3) := by decide +kernel
theorem dX14_two_190 : decode cX14_two 190 = .ok (.lconst 1, 1) := by decide +kernel
theorem dX14_two_191 : decode cX14_two 191 = .ok (.goto 4, 3) := by decide +kernel
theorem dX14_two_194 : decode cX14_two 194 = .ok (.lconst 0, 1) := by decide +kernel
theorem dX14_two_195 : decode cX14_two 195 = .ok (.lreturn, 1) := by decide +kernel
theorem dX14_two_196 : decode cX14_two 196 = .ok (.lload_n 1, 1) := by decide +kernel
theorem dX14_two_197 : decode cX14_two 197 = .ok (.lload_n 3, 1) := by decide +kernel
theorem dX14_two_198 : decode cX14_two 198 = .ok (.lcmp, 1) := by decide +kernel
theorem dX14_two_199 : decode cX14_two 199 = .ok (.ifCond .gt 7, 3) := by decide +kernel
theorem dX14_two_202 : decode cX14_two 202 = .ok (.lconst 1, 1) := by decide +kernel
theorem dX14_two_203 : decode cX14_two 203 = .ok (.goto 4, 3) := by decide +kernel
theorem dX14_two_206 : decode cX14_two 206 = .ok (.lconst 0, 1) := by decide +kernel
theorem dX14_two_207 : decode cX14_two 207 = .ok (.lreturn, 1) := by decide +kernel
theorem dX14_two_208 : decode cX14_two 208 = .ok (.lload_n 1, 1) := by decide +kernel
theorem dX14_two_209 : decode cX14_two 209 = .ok (.lload_n 3, 1) := by decide +kernel
theorem dX14_two_210 : decode cX14_two 210 = .ok (.lcmp, 1) := by decide +kernel
theorem dX14_two_211 : decode cX14_two 211 = .ok (.ifCond .lt 7, 3) := by decide +kernel
theorem dX14_two_214 : decode cX14_two 214 = .ok (.lconst 1, 1) := by decide +kernel
theorem dX14_two_215 : decode cX14_two 215 = .ok (.goto 4, 3) := by decide +kernel
theorem dX14_two_218 : decode cX14_two 218 = .ok (.lconst 0, 1) := by decide +kernel
theorem dX14_two_219 : decode cX14_two 219 = .ok (.lreturn, 1) := by decide +kernel
theorem dX14_two_220 : decode cX14_two 220 = .ok (.lload_n 1, 1) := by decide +kernel
theorem dX14_two_221 : decode cX14_two 221 = .ok (.lconst 0, 1) := by decide +kernel
theorem dX14_two_222 : decode cX14_two 222 = .ok (.lcmp, 1) := by decide +kernel
theorem dX14_two_223 : decode cX14_two 223 = .ok (.ifCond .eq 13, 3) := by decide +kernel
theorem dX14_two_226 : decode cX14_two 226 = .ok (.lload_n 3, 1) := by decide +kernel
theorem dX14_two_227 : decode cX14_two 227 = .ok (.lconst 0, 1) := by decide +kernel
theorem dX14_two_228 : decode cX14_two 228 = .ok (.lcmp, 1) := by decide +kernel
theorem dX14_two_229 : decode cX14_two 229 = .ok (.ifCond .eq 7, 3) := by decide +kernel
theorem dX14_two_232 : decode cX14_two 232 = .ok (.lconst 1, 1) := by decide +kernel
theorem dX14_two_233 : decode cX14_two 233 = .ok (.goto 4, 3) := by decide +kernel
theorem dX14_two_236 : decode cX14_two 236 = .ok (.lconst 0, 1) := by decide +kernel
theorem dX14_two_237 : decode cX14_two 237 = .ok (.lreturn, 1) := by decide +kernel
theorem dX14_two_238 : decode cX14_two 238 = .ok (.lload_n 1, 1) := by decide +kernel
theorem dX14_two_239 : decode cX14_two 239 = .ok (.lconst 0, 1) := by decide +kernel
theorem dX14_two_240 : decode cX14_two 240 = .ok (.lcmp, 1) := by decide +kernel
theorem dX14_two_241 : decode cX14_two 241 = .ok (.ifCond .ne 9, 3) := by decide +kernel
theorem dX14_two_244 : decode cX14_two 244 = .ok (.lload_n 3, 1) := by decide +kernel
theorem dX14_two_245 : decode cX14_two 245 = .ok (.lconst 0, 1) := by decide +kernel
theorem dX14_two_246 : decode cX14_two 246 = .ok (.lcmp, 1) := by decide +kernel
theorem dX14_two_247 : decode cX14_two 247 = .ok (.ifCond .eq 7, 3) := by decide +kernel
theorem dX14_two_250 : decode cX14_two 250 = .ok (.lconst 1, 1) := by decide +kernel
theorem dX14_two_251 : decode cX14_two 251 = .ok (.goto 4, 3) := by decide +kernel
theorem dX14_two_254 : decode cX14_two 254 = .ok (.lconst 0, 1) := by decide +kernel
theorem dX14_two_255 : decode cX14_two 255 = .ok (.lreturn, 1) := by decide +kernel
theorem dX14_two_256 : decode cX14_two 256 = .ok (.lload_n 1, 1) := by decide +kernel
theorem dX14_two_257 : decode cX14_two 257 = .ok (.lload_n 3, 1) := by decide +kernel
theorem dX14_two_258 : decode cX14_two 258 = .ok (.invokestatic 307, 3) := by decide +kernel
theorem dX14_two_261 : decode cX14_two 261 = .ok (.lreturn, 1) := by decide +kernel
theorem dX14_two_262 : decode cX14_two 262 = .ok (.lload_n 1, 1) := by decide +kernel
theorem dX14_two_263 : decode cX14_two 263 = .ok (.lload_n 3, 1) := by decide +kernel
theorem dX14_two_264 : decode cX14_two 264 = .ok (.invokestatic 466, 3) := by decide +kernel
theorem dX14_two_267 : decode cX14_two 267 = .ok (.lreturn, 1) := by decide +kernel
theorem dX14_load_0 : decode cX14_load 0 = .ok (.aload_n 1, 1) := by decide +kernel
theorem dX14_load_1 : decode cX14_load 1 = .ok (.iload_n 2, 1) := by decide +kernel
theorem dX14_load_2 : decode cX14_load 2 = .ok (.aload_n 0, 1) := by decide +kernel
theorem dX14_load_3 : decode cX14_load 3 = .ok (.getfield 82, 3) := by decide +kernel
theorem dX14_load_6 : decode cX14_load 6 = .ok (.iconst 0, 1) := by decide +kernel
theorem dX14_load_7 : decode cX14_load 7 = .ok (.bipush 7, 2) := by decide +kernel
theorem dX14_load_9 : decode cX14_load 9 = .ok (.invokestatic 469, 3) := by decide +kernel
theorem dX14_load_12 : decode cX14_load 12 = .ok (.return_, 1) := by decide +kernel
theorem dX14_store_0 : decode cX14_store 0 = .ok (.aload_n 0, 1) := by decide +kernel
theorem dX14_store_1 : decode cX14_store 1 = .ok (.getfield 49, 3) := by decide +kernel
theorem dX14_store_4 : decode cX14_store 4 = .ok (.iload_n 1, 1) := by decide +kernel
theorem dX14_store_5 : decode cX14_store 5 = .ok (.iaload, 1) := by decide +kernel
theorem dX14_store_6 : decode cX14_store 6 = .ok (.sipush 200, 3) := by decide +kernel
theorem dX14_store_9 : decode cX14_store 9 = .ok (.if_icmp .ne 14, 3) := by decide +kernel
theorem dX14_store_12 : decode cX14_store 12 = .ok (.aload_n 0, 1) := by decide +kernel
theorem dX14_store_13 : decode cX14_store 13 = .ok (.dup, 1) := by decide +kernel
theorem dX14_store_14 : decode cX14_store 14 = .ok (.getfield 453, 3) := by decide +kernel
theorem dX14_store_17 : decode cX14_store 17 = .ok (.iconst 1, 1) := by decide +kernel
theorem dX14_store_18 : decode cX14_store 18 = .ok (.iadd, 1) := by decide +kernel
theorem dX14_store_19 : decode cX14_store 19 = .ok (.putfield 453, 3) := by decide +kernel
theorem dX14_store_22 : decode cX14_store 22 = .ok (.return_, 1) := by decide +kernel
theorem dX14_store_23 : decode cX14_store 23 = .ok (.aload_n 0, 1) := by decide +kernel
theorem dX14_store_24 : decode cX14_store 24 = .ok (.getfield 82, 3) := by decide +kernel
theorem dX14_store_27 : decode cX14_store 27 = .ok (.iconst 0, 1) := by decide +kernel
theorem dX14_store_28 : decode cX14_store 28 = .ok (.aload_n 0, 1) := by decide +kernel
theorem dX14_store_29 : decode cX14_store 29 = .ok (.getfield 46, 3) := by decide +kernel
theorem dX14_store_32 : decode cX14_store 32 = .ok (.iload_n 1, 1) := by decide +kernel
theorem dX14_store_33 : decode cX14_store 33 = .ok (.aload_n 0, 1) := by decide +kernel
theorem dX14_store_34 : decode cX14_store 34 = .ok (.getfield 49, 3) := by decide +kernel
theorem dX14_store_37 : decode cX14_store 37 = .ok (.iload_n 1, 1) := by decide +kernel
theorem dX14_store_38 : decode cX14_store 38 = .ok (.iaload, 1) := by decide +kernel
theorem dX14_store_39 : decode cX14_store 39 = .ok (.invokestatic 475, 3) := by decide +kernel
theorem dX14_store_42 : decode cX14_store 42 = .ok (.bipush 7, 2) := by decide +kernel
theorem dX14_store_44 : decode cX14_store 44 = .ok (.invokestatic 469, 3) := by decide +kernel
theorem dX14_store_47 : decode cX14_store 47 = .ok (.aload_n 0, 1) := by decide +kernel
theorem dX14_store_48 : decode cX14_store 48 = .ok (.getfield 49, 3) := by decide +kernel
theorem dX14_store_51 : decode cX14_store 51 = .ok (.iload_n 1, 1) := by decide +kernel
theorem dX14_store_52 : decode cX14_store 52 = .ok (.dup2, 1) := by decide +kernel
theorem dX14_store_53 : decode cX14_store 53 = .ok (.iaload, 1) := by decide +kernel
theorem dX14_store_54 : decode cX14_store 54 = .ok (.iconst 1, 1) := by decide +kernel
theorem dX14_store_55 : decode cX14_store 55 = .ok (.iadd, 1) := by decide +kernel
theorem dX14_store_56 : decode cX14_store 56 = .ok (.iastore, 1) := by decide +kernel
theorem dX14_store_57 : decode cX14_store 57 = .ok (.aload_n 0, 1) := by decide +kernel
theorem dX14_store_58 : decode cX14_store 58 = .ok (.dup, 1) := by decide +kernel
theorem dX14_store_59 : decode cX14_store 59 = .ok (.getfield 478, 3) := by decide +kernel
theorem dX14_store_62 : decode cX14_store 62 = .ok (.iconst 1, 1) := by decide +kernel
theorem dX14_store_63 : decode cX14_store 63 = .ok (.iadd, 1) := by decide +kernel
theorem dX14_store_64 : decode cX14_store 64 = .ok (.putfield 478, 3) := by decide +kernel
theorem dX14_store_67 : decode cX14_store 67 = .ok (.return_, 1) := by decide +kernel
theorem dX14_hold_0 : decode cX14_hold 0 = .ok (.aload_n 0, 1) := by decide +kernel
theorem dX14_hold_1 : decode cX14_hold 1 = .ok (.getfield 440, 3) := by decide +kernel
theorem dX14_hold_4 : decode cX14_hold 4 = .ok (.bipush 60, 2) := by decide +kernel
theorem dX14_hold_6 : decode cX14_hold 6 = .ok (.if_icmp .ne 14, 3) := by decide +kernel
theorem dX14_hold_9 : decode cX14_hold 9 = .ok (.aload_n 0, 1) := by decide +kernel
theorem dX14_hold_10 : decode cX14_hold 10 = .ok (.dup, 1) := by decide +kernel
theorem dX14_hold_11 : decode cX14_hold 11 = .ok (.getfield 453, 3) := by decide +kernel
theorem dX14_hold_14 : decode cX14_hold 14 = .ok (.iconst 1, 1) := by decide +kernel
theorem dX14_hold_15 : decode cX14_hold 15 = .ok (.iadd, 1) := by decide +kernel
theorem dX14_hold_16 : decode cX14_hold 16 = .ok (.putfield 453, 3) := by decide +kernel
theorem dX14_hold_19 : decode cX14_hold 19 = .ok (.return_, 1) := by decide +kernel
theorem dX14_hold_20 : decode cX14_hold 20 = .ok (.aload_n 0, 1) := by decide +kernel
theorem dX14_hold_21 : decode cX14_hold 21 = .ok (.getfield 67, 3) := by decide +kernel
theorem dX14_hold_24 : decode cX14_hold 24 = .ok (.aload_n 0, 1) := by decide +kernel
theorem dX14_hold_25 : decode cX14_hold 25 = .ok (.getfield 440, 3) := by decide +kernel
theorem dX14_hold_28 : decode cX14_hold 28 = .ok (.iload_n 1, 1) := by decide +kernel
theorem dX14_hold_29 : decode cX14_hold 29 = .ok (.iastore, 1) := by decide +kernel
theorem dX14_hold_30 : decode cX14_hold 30 = .ok (.aload_n 0, 1) := by decide +kernel
theorem dX14_hold_31 : decode cX14_hold 31 = .ok (.getfield 70, 3) := by decide +kernel
theorem dX14_hold_34 : decode cX14_hold 34 = .ok (.aload_n 0, 1) := by decide +kernel
theorem dX14_hold_35 : decode cX14_hold 35 = .ok (.getfield 440, 3) := by decide +kernel
theorem dX14_hold_38 : decode cX14_hold 38 = .ok (.iload_n 2, 1) := by decide +kernel
theorem dX14_hold_39 : decode cX14_hold 39 = .ok (.iastore, 1) := by decide +kernel
theorem dX14_hold_40 : decode cX14_hold 40 = .ok (.aload_n 0, 1) := by decide +kernel
theorem dX14_hold_41 : decode cX14_hold 41 = .ok (.getfield 82, 3) := by decide +kernel
theorem dX14_hold_44 : decode cX14_hold 44 = .ok (.iconst 0, 1) := by decide +kernel
theorem dX14_hold_45 : decode cX14_hold 45 = .ok (.aload_n 0, 1) := by decide +kernel
theorem dX14_hold_46 : decode cX14_hold 46 = .ok (.getfield 73, 3) := by decide +kernel
theorem dX14_hold_49 : decode cX14_hold 49 = .ok (.bipush 7, 2) := by decide +kernel
theorem dX14_hold_51 : decode cX14_hold 51 = .ok (.aload_n 0, 1) := by decide +kernel
theorem dX14_hold_52 : decode cX14_hold 52 = .ok (.getfield 440, 3) := by decide +kernel
theorem dX14_hold_55 : decode cX14_hold 55 = .ok (.imul, 1) := by decide +kernel
theorem dX14_hold_56 : decode cX14_hold 56 = .ok (.bipush 7, 2) := by decide +kernel
theorem dX14_hold_58 : decode cX14_hold 58 = .ok (.invokestatic 469, 3) := by decide +kernel
theorem dX14_hold_61 : decode cX14_hold 61 = .ok (.aload_n 0, 1) := by decide +kernel
theorem dX14_hold_62 : decode cX14_hold 62 = .ok (.dup, 1) := by decide +kernel
theorem dX14_hold_63 : decode cX14_hold 63 = .ok (.getfield 440, 3) := by decide +kernel
theorem dX14_hold_66 : decode cX14_hold 66 = .ok (.iconst 1, 1) := by decide +kernel
theorem dX14_hold_67 : decode cX14_hold 67 = .ok (.iadd, 1) := by decide +kernel
theorem dX14_hold_68 : decode cX14_hold 68 = .ok (.putfield 440, 3) := by decide +kernel
theorem dX14_hold_71 : decode cX14_hold 71 = .ok (.return_, 1) := by decide +kernel
theorem dX14_offer_0 : decode cX14_offer 0 = .ok (.iconst 0, 1) := by decide +kernel
theorem dX14_offer_1 : decode cX14_offer 1 = .ok (.istore_n 2, 1) := by decide +kernel
theorem dX14_offer_2 : decode cX14_offer 2 = .ok (.iload_n 2, 1) := by decide +kernel
theorem dX14_offer_3 : decode cX14_offer 3 = .ok (.aload_n 0, 1) := by decide +kernel
theorem dX14_offer_4 : decode cX14_offer 4 = .ok (.getfield 16, 3) := by decide +kernel
theorem dX14_offer_7 : decode cX14_offer 7 = .ok (.getfield 341, 3) := by decide +kernel
theorem dX14_offer_10 : decode cX14_offer 10 = .ok (.if_icmp .ge 98, 3) := by decide +kernel
theorem dX14_offer_13 : decode cX14_offer 13 = .ok (.aload_n 0, 1) := by decide +kernel
theorem dX14_offer_14 : decode cX14_offer 14 = .ok (.getfield 16, 3) := by decide +kernel
theorem dX14_offer_17 : decode cX14_offer 17 = .ok (.getfield 355, 3) := by decide +kernel
theorem dX14_offer_20 : decode cX14_offer 20 = .ok (.iload_n 2, 1) := by decide +kernel
theorem dX14_offer_21 : decode cX14_offer 21 = .ok (.iaload, 1) := by decide +kernel
theorem dX14_offer_22 : decode cX14_offer 22 = .ok (.iload_n 1, 1) := by decide +kernel
theorem dX14_offer_23 : decode cX14_offer 23 = .ok (.if_icmp .ne 79, 3) := by decide +kernel
theorem dX14_offer_26 : decode cX14_offer 26 = .ok (.aload_n 0, 1) := by decide +kernel
theorem dX14_offer_27 : decode cX14_offer 27 = .ok (.aload_n 0, 1) := by decide +kernel
theorem dX14_offer_28 : decode cX14_offer 28 = .ok (.getfield 16, 3) := by decide +kernel
theorem dX14_offer_31 : decode cX14_offer 31 = .ok (.getfield 358, 3) := by decide +kernel
theorem dX14_offer_34 : decode cX14_offer 34 = .ok (.iload_n 2, 1) := by decide +kernel
theorem dX14_offer_35 : decode cX14_offer 35 = .ok (.iaload, 1) := by decide +kernel
theorem dX14_offer_36 : decode cX14_offer 36 = .ok (.aload_n 0, 1) := by decide +kernel
theorem dX14_offer_37 : decode cX14_offer 37 = .ok (.getfield 82, 3) := by decide +kernel
theorem dX14_offer_40 : decode cX14_offer 40 = .ok (.iconst 0, 1) := by decide +kernel
theorem dX14_offer_41 : decode cX14_offer 41 = .ok (.invokevirtual 481, 3) := by decide +kernel
theorem dX14_offer_44 : decode cX14_offer 44 = .ok (.lconst 0, 1) := by decide +kernel
theorem dX14_offer_45 : decode cX14_offer 45 = .ok (.lcmp, 1) := by decide +kernel
theorem dX14_offer_46 : decode cX14_offer 46 = .ok (.ifCond .eq 6, 3) := by decide +kernel
theorem dX14_offer_49 : decode cX14_offer 49 = .ok (.goto 53, 3) := by decide +kernel
theorem dX14_offer_52 : decode cX14_offer 52 = .ok (.aload_n 0, 1) := by decide +kernel
theorem dX14_offer_53 : decode cX14_offer 53 = .ok (.getfield 76, 3) := by decide +kernel
theorem dX14_offer_56 : decode cX14_offer 56 = .ok (.iload_n 2, 1) := by decide +kernel
theorem dX14_offer_57 : decode cX14_offer 57 = .ok (.dup2, 1) := by decide +kernel
theorem dX14_offer_58 : decode cX14_offer 58 = .ok (.iaload, 1) := by decide +kernel
theorem dX14_offer_59 : decode cX14_offer 59 = .ok (.iconst 1, 1) := by decide +kernel
theorem dX14_offer_60 : decode cX14_offer 60 = .ok (.iadd, 1) := by decide +kernel
theorem dX14_offer_61 : decode cX14_offer 61 = .ok (.iastore, 1) := by decide +kernel
theorem dX14_offer_62 : decode cX14_offer 62 = .ok (.aload_n 0, 1) := by decide +kernel
theorem dX14_offer_63 : decode cX14_offer 63 = .ok (.getfield 16, 3) := by decide +kernel
theorem dX14_offer_66 : decode cX14_offer 66 = .ok (.getfield 361, 3) := by decide +kernel
theorem dX14_offer_69 : decode cX14_offer 69 = .ok (.iload_n 2, 1) := by decide +kernel
theorem dX14_offer_70 : decode cX14_offer 70 = .ok (.iaload, 1) := by decide +kernel
theorem dX14_offer_71 : decode cX14_offer 71 = .ok (.bipush 19, 2) := by decide +kernel
theorem dX14_offer_73 : decode cX14_offer 73 = .ok (.if_icmp .eq 9, 3) := by decide +kernel
theorem dX14_offer_76 : decode cX14_offer 76 = .ok (.aload_n 0, 1) := by decide +kernel
theorem dX14_offer_77 : decode cX14_offer 77 = .ok (.iload_n 1, 1) := by decide +kernel
theorem dX14_offer_78 : decode cX14_offer 78 = .ok (.iload_n 2, 1) := by decide +kernel
theorem dX14_offer_79 : decode cX14_offer 79 = .ok (.invokevirtual 485, 3) := by decide +kernel
theorem dX14_offer_82 : decode cX14_offer 82 = .ok (.aload_n 0, 1) := by decide +kernel
theorem dX14_offer_83 : decode cX14_offer 83 = .ok (.getfield 16, 3) := by decide +kernel
theorem dX14_offer_86 : decode cX14_offer 86 = .ok (.getfield 361, 3) := by decide +kernel
theorem dX14_offer_89 : decode cX14_offer 89 = .ok (.iload_n 2, 1) := by decide +kernel
theorem dX14_offer_90 : decode cX14_offer 90 = .ok (.iaload, 1) := by decide +kernel
theorem dX14_offer_91 : decode cX14_offer 91 = .ok (.bipush 21, 2) := by decide +kernel
theorem dX14_offer_93 : decode cX14_offer 93 = .ok (.if_icmp .ne 8, 3) := by decide +kernel
theorem dX14_offer_96 : decode cX14_offer 96 = .ok (.aload_n 0, 1) := by decide +kernel
theorem dX14_offer_97 : decode cX14_offer 97 = .ok (.iconst 1, 1) := by decide +kernel
theorem dX14_offer_98 : decode cX14_offer 98 = .ok (.putfield 456, 3) := by decide +kernel
theorem dX14_offer_101 : decode cX14_offer 101 = .ok (.return_, 1) := by decide +kernel
theorem dX14_offer_102 : decode cX14_offer 102 = .ok (.iinc 2 1, 3) := by decide +kernel
theorem dX14_offer_105 : decode cX14_offer 105 = .ok (.goto (-103), 3) := by decide +kernel
theorem dX14_offer_108 : decode cX14_offer 108 = .ok (.aload_n 0, 1) := by decide +kernel
theorem dX14_offer_109 : decode cX14_offer 109 = .ok (.iload_n 1, 1) := by decide +kernel
theorem dX14_offer_110 : decode cX14_offer 110 = .ok (.invokevirtual 488, 3) := by decide +kernel
theorem dX14_offer_113 : decode cX14_offer 113 = .ok (.return_, 1) := by decide +kernel
theorem dX14_endOf_0 : decode cX14_endOf 0 = .ok (.aload_n 0, 1) := by decide +kernel
theorem dX14_endOf_1 : decode cX14_endOf 1 = .ok (.getfield 91, 3) := by decide +kernel
theorem dX14_endOf_4 : decode cX14_endOf 4 = .ok (.bipush 60, 2) := by decide +kernel
theorem dX14_endOf_6 : decode cX14_endOf 6 = .ok (.iload_n 1, 1) := by decide +kernel
theorem dX14_endOf_7 : decode cX14_endOf 7 = .ok (.imul, 1) := by decide +kernel
theorem dX14_endOf_8 : decode cX14_endOf 8 = .ok (.iload_n 2, 1) := by decide +kernel
theorem dX14_endOf_9 : decode cX14_endOf 9 = .ok (.iadd, 1) := by decide +kernel
theorem dX14_endOf_10 : decode cX14_endOf 10 = .ok (.iaload, 1) := by decide +kernel
theorem dX14_endOf_11 : decode cX14_endOf 11 = .ok (.aload_n 0, 1) := by decide +kernel
theorem dX14_endOf_12 : decode cX14_endOf 12 = .ok (.getfield 16, 3) := by decide +kernel
theorem dX14_endOf_15 : decode cX14_endOf 15 = .ok (.getfield 369, 3) := by decide +kernel
theorem dX14_endOf_18 : decode cX14_endOf 18 = .ok (.iload_n 1, 1) := by decide +kernel
theorem dX14_endOf_19 : decode cX14_endOf 19 = .ok (.iaload, 1) := by decide +kernel
theorem dX14_endOf_20 : decode cX14_endOf 20 = .ok (.iadd, 1) := by decide +kernel
theorem dX14_endOf_21 : decode cX14_endOf 21 = .ok (.ireturn, 1) := by decide +kernel
theorem dX14_findWindow_0 : decode cX14_findWindow 0 = .ok (.iconst 0, 1) := by decide +kernel
theorem dX14_findWindow_1 : decode cX14_findWindow 1 = .ok (.istore 5, 2) := by decide +kernel
theorem dX14_findWindow_3 : decode cX14_findWindow 3 = .ok (.iload 5, 2) := by decide +kernel
theorem dX14_findWindow_5 : decode cX14_findWindow 5 = .ok (.aload_n 0, 1) := by decide +kernel
theorem dX14_findWindow_6 : decode cX14_findWindow 6 = .ok (.getfield 85, 3) := by decide +kernel
theorem dX14_findWindow_9 : decode cX14_findWindow 9 = .ok (.iload_n 1, 1) := by decide +kernel
theorem dX14_findWindow_10 : decode cX14_findWindow 10 = .ok (.iaload, 1) := by decide +kernel
theorem dX14_findWindow_11 : decode cX14_findWindow 11 = .ok (.if_icmp .ge 46, 3) := by decide +kernel
theorem dX14_findWindow_14 : decode cX14_findWindow 14 = .ok (.aload_n 0, 1) := by decide +kernel
theorem dX14_findWindow_15 : decode cX14_findWindow 15 = .ok (.getfield 88, 3) := by decide +kernel
theorem dX14_findWindow_18 : decode cX14_findWindow 18 = .ok (.bipush 60, 2) := by decide +kernel
theorem dX14_findWindow_20 : decode cX14_findWindow 20 = .ok (.iload_n 1, 1) := by decide +kernel
theorem dX14_findWindow_21 : decode cX14_findWindow 21 = .ok (.imul, 1) := by decide +kernel
theorem dX14_findWindow_22 : decode cX14_findWindow 22 = .ok (.iload 5, 2) := by decide +kernel
theorem dX14_findWindow_24 : decode cX14_findWindow 24 = .ok (.iadd, 1) := by decide +kernel
theorem dX14_findWindow_25 : decode cX14_findWindow 25 = .ok (.laload, 1) := by decide +kernel
theorem dX14_findWindow_26 : decode cX14_findWindow 26 = .ok (.lload_n 2, 1) := by decide +kernel
theorem dX14_findWindow_27 : decode cX14_findWindow 27 = .ok (.lcmp, 1) := by decide +kernel
theorem dX14_findWindow_28 : decode cX14_findWindow 28 = .ok (.ifCond .ne 23, 3) := by decide +kernel
theorem dX14_findWindow_31 : decode cX14_findWindow 31 = .ok (.aload_n 0, 1) := by decide +kernel
theorem dX14_findWindow_32 : decode cX14_findWindow 32 = .ok (.getfield 91, 3) := by decide +kernel
theorem dX14_findWindow_35 : decode cX14_findWindow 35 = .ok (.bipush 60, 2) := by decide +kernel
theorem dX14_findWindow_37 : decode cX14_findWindow 37 = .ok (.iload_n 1, 1) := by decide +kernel
theorem dX14_findWindow_38 : decode cX14_findWindow 38 = .ok (.imul, 1) := by decide +kernel
theorem dX14_findWindow_39 : decode cX14_findWindow 39 = .ok (.iload 5, 2) := by decide +kernel
theorem dX14_findWindow_41 : decode cX14_findWindow 41 = .ok (.iadd, 1) := by decide +kernel
theorem dX14_findWindow_42 : decode cX14_findWindow 42 = .ok (.iaload, 1) := by decide +kernel
theorem dX14_findWindow_43 : decode cX14_findWindow 43 = .ok (.iload 4, 2) := by decide +kernel
theorem dX14_findWindow_45 : decode cX14_findWindow 45 = .ok (.if_icmp .ne 6, 3) := by decide +kernel
theorem dX14_findWindow_48 : decode cX14_findWindow 48 = .ok (.iload 5, 2) := by decide +kernel
theorem dX14_findWindow_50 : decode cX14_findWindow 50 = .ok (.ireturn, 1) := by decide +kernel
theorem dX14_findWindow_51 : decode cX14_findWindow 51 = .ok (.iinc 5 1, 3) := by decide +kernel
theorem dX14_findWindow_54 : decode cX14_findWindow 54 = .ok (.goto (-51), 3) := by decide +kernel
theorem dX14_findWindow_57 : decode cX14_findWindow 57 = .ok (.iconst (-1), 1) := by decide +kernel
theorem dX14_findWindow_58 : decode cX14_findWindow 58 = .ok (.ireturn, 1) := by decide +kernel
theorem dX14_putIn_0 : decode cX14_putIn 0 = .ok (.aload_n 2, 1) := by decide +kernel
theorem dX14_putIn_1 : decode cX14_putIn 1 = .ok (.iload_n 3, 1) := by decide +kernel
theorem dX14_putIn_2 : decode cX14_putIn 2 = .ok (.iconst 1, 1) := by decide +kernel
theorem dX14_putIn_3 : decode cX14_putIn 3 = .ok (.iadd, 1) := by decide +kernel
theorem dX14_putIn_4 : decode cX14_putIn 4 = .ok (.aload_n 0, 1) := by decide +kernel
theorem dX14_putIn_5 : decode cX14_putIn 5 = .ok (.getfield 16, 3) := by decide +kernel
theorem dX14_putIn_8 : decode cX14_putIn 8 = .ok (.getfield 387, 3) := by decide +kernel
theorem dX14_putIn_11 : decode cX14_putIn 11 = .ok (.iload_n 1, 1) := by decide +kernel
theorem dX14_putIn_12 : decode cX14_putIn 12 = .ok (.iaload, 1) := by decide +kernel
theorem dX14_putIn_13 : decode cX14_putIn 13 = .ok (.iadd, 1) := by decide +kernel
theorem dX14_putIn_14 : decode cX14_putIn 14 = .ok (.laload, 1) := by decide +kernel
theorem dX14_putIn_15 : decode cX14_putIn 15 = .ok (.lstore 6, 2) := by decide +kernel
theorem dX14_putIn_17 : decode cX14_putIn 17 = .ok (.aload_n 0, 1) := by decide +kernel
theorem dX14_putIn_18 : decode cX14_putIn 18 = .ok (.iload_n 1, 1) := by decide +kernel
theorem dX14_putIn_19 : decode cX14_putIn 19 = .ok (.lload 6, 2) := by decide +kernel
theorem dX14_putIn_21 : decode cX14_putIn 21 = .ok (.iload 4, 2) := by decide +kernel
theorem dX14_putIn_23 : decode cX14_putIn 23 = .ok (.invokevirtual 491, 3) := by decide +kernel
theorem dX14_putIn_26 : decode cX14_putIn 26 = .ok (.istore 8, 2) := by decide +kernel
theorem dX14_putIn_28 : decode cX14_putIn 28 = .ok (.iload 8, 2) := by decide +kernel
theorem dX14_putIn_30 : decode cX14_putIn 30 = .ok (.iconst (-1), 1) := by decide +kernel
theorem dX14_putIn_31 : decode cX14_putIn 31 = .ok (.if_icmp .ne 89, 3) := by decide +kernel
theorem dX14_putIn_34 : decode cX14_putIn 34 = .ok (.aload_n 0, 1) := by decide +kernel
theorem dX14_putIn_35 : decode cX14_putIn 35 = .ok (.getfield 85, 3) := by decide +kernel
theorem dX14_putIn_38 : decode cX14_putIn 38 = .ok (.iload_n 1, 1) := by decide +kernel
theorem dX14_putIn_39 : decode cX14_putIn 39 = .ok (.iaload, 1) := by decide +kernel
theorem dX14_putIn_40 : decode cX14_putIn 40 = .ok (.bipush 60, 2) := by decide +kernel
theorem dX14_putIn_42 : decode cX14_putIn 42 = .ok (.if_icmp .ne 5, 3) := by decide +kernel
theorem dX14_putIn_45 : decode cX14_putIn 45 = .ok (.iconst (-1), 1) := by decide +kernel
theorem dX14_putIn_46 : decode cX14_putIn 46 = .ok (.ireturn, 1) := by decide +kernel
theorem dX14_putIn_47 : decode cX14_putIn 47 = .ok (.aload_n 0, 1) := by decide +kernel
theorem dX14_putIn_48 : decode cX14_putIn 48 = .ok (.getfield 85, 3) := by decide +kernel
theorem dX14_putIn_51 : decode cX14_putIn 51 = .ok (.iload_n 1, 1) := by decide +kernel
theorem dX14_putIn_52 : decode cX14_putIn 52 = .ok (.iaload, 1) := by decide +kernel
theorem dX14_putIn_53 : decode cX14_putIn 53 = .ok (.istore 8, 2) := by decide +kernel
theorem dX14_putIn_55 : decode cX14_putIn 55 = .ok (.aload_n 0, 1) := by decide +kernel
theorem dX14_putIn_56 : decode cX14_putIn 56 = .ok (.getfield 85, 3) := by decide +kernel
theorem dX14_putIn_59 : decode cX14_putIn 59 = .ok (.iload_n 1, 1) := by decide +kernel
theorem dX14_putIn_60 : decode cX14_putIn 60 = .ok (.dup2, 1) := by decide +kernel
theorem dX14_putIn_61 : decode cX14_putIn 61 = .ok (.iaload, 1) := by decide +kernel
theorem dX14_putIn_62 : decode cX14_putIn 62 = .ok (.iconst 1, 1) := by decide +kernel
theorem dX14_putIn_63 : decode cX14_putIn 63 = .ok (.iadd, 1) := by decide +kernel
theorem dX14_putIn_64 : decode cX14_putIn 64 = .ok (.iastore, 1) := by decide +kernel
theorem dX14_putIn_65 : decode cX14_putIn 65 = .ok (.aload_n 0, 1) := by decide +kernel
theorem dX14_putIn_66 : decode cX14_putIn 66 = .ok (.getfield 88, 3) := by decide +kernel
theorem dX14_putIn_69 : decode cX14_putIn 69 = .ok (.bipush 60, 2) := by decide +kernel
theorem dX14_putIn_71 : decode cX14_putIn 71 = .ok (.iload_n 1, 1) := by decide +kernel
theorem dX14_putIn_72 : decode cX14_putIn 72 = .ok (.imul, 1) := by decide +kernel
theorem dX14_putIn_73 : decode cX14_putIn 73 = .ok (.iload 8, 2) := by decide +kernel
theorem dX14_putIn_75 : decode cX14_putIn 75 = .ok (.iadd, 1) := by decide +kernel
theorem dX14_putIn_76 : decode cX14_putIn 76 = .ok (.lload 6, 2) := by decide +kernel
theorem dX14_putIn_78 : decode cX14_putIn 78 = .ok (.lastore, 1) := by decide +kernel
theorem dX14_putIn_79 : decode cX14_putIn 79 = .ok (.aload_n 0, 1) := by decide +kernel
theorem dX14_putIn_80 : decode cX14_putIn 80 = .ok (.getfield 91, 3) := by decide +kernel
theorem dX14_putIn_83 : decode cX14_putIn 83 = .ok (.bipush 60, 2) := by decide +kernel
theorem dX14_putIn_85 : decode cX14_putIn 85 = .ok (.iload_n 1, 1) := by decide +kernel
theorem dX14_putIn_86 : decode cX14_putIn 86 = .ok (.imul, 1) := by decide +kernel
theorem dX14_putIn_87 : decode cX14_putIn 87 = .ok (.iload 8, 2) := by decide +kernel
theorem dX14_putIn_89 : decode cX14_putIn 89 = .ok (.iadd, 1) := by decide +kernel
theorem dX14_putIn_90 : decode cX14_putIn 90 = .ok (.iload 4, 2) := by decide +kernel
theorem dX14_putIn_92 : decode cX14_putIn 92 = .ok (.iastore, 1) := by decide +kernel
theorem dX14_putIn_93 : decode cX14_putIn 93 = .ok (.aload_n 0, 1) := by decide +kernel
theorem dX14_putIn_94 : decode cX14_putIn 94 = .ok (.getfield 94, 3) := by decide +kernel
theorem dX14_putIn_97 : decode cX14_putIn 97 = .ok (.bipush 60, 2) := by decide +kernel
theorem dX14_putIn_99 : decode cX14_putIn 99 = .ok (.iload_n 1, 1) := by decide +kernel
theorem dX14_putIn_100 : decode cX14_putIn 100 = .ok (.imul, 1) := by decide +kernel
theorem dX14_putIn_101 : decode cX14_putIn 101 = .ok (.iload 8, 2) := by decide +kernel
theorem dX14_putIn_103 : decode cX14_putIn 103 = .ok (.iadd, 1) := by decide +kernel
theorem dX14_putIn_104 : decode cX14_putIn 104 = .ok (.iload 5, 2) := by decide +kernel
theorem dX14_putIn_106 : decode cX14_putIn 106 = .ok (.bastore, 1) := by decide +kernel
theorem dX14_putIn_107 : decode cX14_putIn 107 = .ok (.aload_n 0, 1) := by decide +kernel
theorem dX14_putIn_108 : decode cX14_putIn 108 = .ok (.getfield 101, 3) := by decide +kernel
theorem dX14_putIn_111 : decode cX14_putIn 111 = .ok (.bipush 60, 2) := by decide +kernel
theorem dX14_putIn_113 : decode cX14_putIn 113 = .ok (.iload_n 1, 1) := by decide +kernel
theorem dX14_putIn_114 : decode cX14_putIn 114 = .ok (.imul, 1) := by decide +kernel
theorem dX14_putIn_115 : decode cX14_putIn 115 = .ok (.iload 8, 2) := by decide +kernel
theorem dX14_putIn_117 : decode cX14_putIn 117 = .ok (.iadd, 1) := by decide +kernel
theorem dX14_putIn_118 : decode cX14_putIn 118 = .ok (.iconst 0, 1) := by decide +kernel
theorem dX14_putIn_119 : decode cX14_putIn 119 = .ok (.iastore, 1) := by decide +kernel
theorem dX14_putIn_120 : decode cX14_putIn 120 = .ok (.aload_n 0, 1) := by decide +kernel
theorem dX14_putIn_121 : decode cX14_putIn 121 = .ok (.getfield 101, 3) := by decide +kernel
theorem dX14_putIn_124 : decode cX14_putIn 124 = .ok (.bipush 60, 2) := by decide +kernel
theorem dX14_putIn_126 : decode cX14_putIn 126 = .ok (.iload_n 1, 1) := by decide +kernel
theorem dX14_putIn_127 : decode cX14_putIn 127 = .ok (.imul, 1) := by decide +kernel
theorem dX14_putIn_128 : decode cX14_putIn 128 = .ok (.iload 8, 2) := by decide +kernel
theorem dX14_putIn_130 : decode cX14_putIn 130 = .ok (.iadd, 1) := by decide +kernel
theorem dX14_putIn_131 : decode cX14_putIn 131 = .ok (.iaload, 1) := by decide +kernel
theorem dX14_putIn_132 : decode cX14_putIn 132 = .ok (.ifCond .ne 7, 3) := by decide +kernel
theorem dX14_putIn_135 : decode cX14_putIn 135 = .ok (.iconst 1, 1) := by decide +kernel
theorem dX14_putIn_136 : decode cX14_putIn 136 = .ok (.goto 4, 3) := by decide +kernel
theorem dX14_putIn_139 : decode cX14_putIn 139 = .ok (.iconst 0, 1) := by decide +kernel
theorem dX14_putIn_140 : decode cX14_putIn 140 = .ok (.istore 9, 2) := by decide +kernel
theorem dX14_putIn_142 : decode cX14_putIn 142 = .ok (.aload_n 0, 1) := by decide +kernel
theorem dX14_putIn_143 : decode cX14_putIn 143 = .ok (.getfield 101, 3) := by decide +kernel
theorem dX14_putIn_146 : decode cX14_putIn 146 = .ok (.bipush 60, 2) := by decide +kernel
theorem dX14_putIn_148 : decode cX14_putIn 148 = .ok (.iload_n 1, 1) := by decide +kernel
theorem dX14_putIn_149 : decode cX14_putIn 149 = .ok (.imul, 1) := by decide +kernel
theorem dX14_putIn_150 : decode cX14_putIn 150 = .ok (.iload 8, 2) := by decide +kernel
theorem dX14_putIn_152 : decode cX14_putIn 152 = .ok (.iadd, 1) := by decide +kernel
theorem dX14_putIn_153 : decode cX14_putIn 153 = .ok (.dup2, 1) := by decide +kernel
theorem dX14_putIn_154 : decode cX14_putIn 154 = .ok (.iaload, 1) := by decide +kernel
theorem dX14_putIn_155 : decode cX14_putIn 155 = .ok (.iconst 1, 1) := by decide +kernel
theorem dX14_putIn_156 : decode cX14_putIn 156 = .ok (.iadd, 1) := by decide +kernel
theorem dX14_putIn_157 : decode cX14_putIn 157 = .ok (.iastore, 1) := by decide +kernel
theorem dX14_putIn_158 : decode cX14_putIn 158 = .ok (.iconst 2, 1) := by decide +kernel
theorem dX14_putIn_159 : decode cX14_putIn 159 = .ok (.istore 10, 2) := by decide +kernel
theorem dX14_putIn_161 : decode cX14_putIn 161 = .ok (.iload 10, 2) := by decide +kernel
theorem dX14_putIn_163 : decode cX14_putIn 163 = .ok (.aload_n 0, 1) := by decide +kernel
theorem dX14_putIn_164 : decode cX14_putIn 164 = .ok (.getfield 16, 3) := by decide +kernel
theorem dX14_putIn_167 : decode cX14_putIn 167 = .ok (.getfield 292, 3) := by decide +kernel
theorem dX14_putIn_170 : decode cX14_putIn 170 = .ok (.iload_n 1, 1) := by decide +kernel
theorem dX14_putIn_171 : decode cX14_putIn 171 = .ok (.iaload, 1) := by decide +kernel
theorem dX14_putIn_172 : decode cX14_putIn 172 = .ok (.if_icmp .ge 177, 3) := by decide +kernel
theorem dX14_putIn_175 : decode cX14_putIn 175 = .ok (.aload_n 0, 1) := by decide +kernel
theorem dX14_putIn_176 : decode cX14_putIn 176 = .ok (.getfield 16, 3) := by decide +kernel
theorem dX14_putIn_179 : decode cX14_putIn 179 = .ok (.getfield 338, 3) := by decide +kernel
theorem dX14_putIn_182 : decode cX14_putIn 182 = .ok (.bipush 6, 2) := by decide +kernel
theorem dX14_putIn_184 : decode cX14_putIn 184 = .ok (.iload_n 1, 1) := by decide +kernel
theorem dX14_putIn_185 : decode cX14_putIn 185 = .ok (.imul, 1) := by decide +kernel
theorem dX14_putIn_186 : decode cX14_putIn 186 = .ok (.iload 10, 2) := by decide +kernel
theorem dX14_putIn_188 : decode cX14_putIn 188 = .ok (.iadd, 1) := by decide +kernel
theorem dX14_putIn_189 : decode cX14_putIn 189 = .ok (.iaload, 1) := by decide +kernel
theorem dX14_putIn_190 : decode cX14_putIn 190 = .ok (.istore 11, 2) := by decide +kernel
theorem dX14_putIn_192 : decode cX14_putIn 192 = .ok (.bipush 60, 2) := by decide +kernel
theorem dX14_putIn_194 : decode cX14_putIn 194 = .ok (.iload_n 1, 1) := by decide +kernel
theorem dX14_putIn_195 : decode cX14_putIn 195 = .ok (.imul, 1) := by decide +kernel
theorem dX14_putIn_196 : decode cX14_putIn 196 = .ok (.iload 8, 2) := by decide +kernel
theorem dX14_putIn_198 : decode cX14_putIn 198 = .ok (.iadd, 1) := by decide +kernel
theorem dX14_putIn_199 : decode cX14_putIn 199 = .ok (.bipush 6, 2) := by decide +kernel
theorem dX14_putIn_201 : decode cX14_putIn 201 = .ok (.imul, 1) := by decide +kernel
theorem dX14_putIn_202 : decode cX14_putIn 202 = .ok (.iload 10, 2) := by decide +kernel
theorem dX14_putIn_204 : decode cX14_putIn 204 = .ok (.iadd, 1) := by decide +kernel
theorem dX14_putIn_205 : decode cX14_putIn 205 = .ok (.istore 12, 2) := by decide +kernel
theorem dX14_putIn_207 : decode cX14_putIn 207 = .ok (.iload 11, 2) := by decide +kernel
theorem dX14_putIn_209 : decode cX14_putIn 209 = .ok (.bipush 23, 2) := by decide +kernel
theorem dX14_putIn_211 : decode cX14_putIn 211 = .ok (.if_icmp .ne 7, 3) := by decide +kernel
theorem dX14_putIn_214 : decode cX14_putIn 214 = .ok (.lconst 1, 1) := by decide +kernel
theorem dX14_putIn_215 : decode cX14_putIn 215 = .ok (.goto 24, 3) := by decide +kernel
theorem dX14_putIn_218 : decode cX14_putIn 218 = .ok (.aload_n 0, 1) := by decide +kernel
theorem dX14_putIn_219 : decode cX14_putIn 219 = .ok (.aload_n 0, 1) := by decide +kernel
theorem dX14_putIn_220 : decode cX14_putIn 220 = .ok (.getfield 16, 3) := by decide +kernel
theorem dX14_putIn_223 : decode cX14_putIn 223 = .ok (.getfield 335, 3) := by decide +kernel
theorem dX14_putIn_226 : decode cX14_putIn 226 = .ok (.bipush 6, 2) := by decide +kernel
theorem dX14_putIn_228 : decode cX14_putIn 228 = .ok (.iload_n 1, 1) := by decide +kernel
theorem dX14_putIn_229 : decode cX14_putIn 229 = .ok (.imul, 1) := by decide +kernel
theorem dX14_putIn_230 : decode cX14_putIn 230 = .ok (.iload 10, 2) := by decide +kernel
theorem dX14_putIn_232 : decode cX14_putIn 232 = .ok (.iadd, 1) := by decide +kernel
theorem dX14_putIn_233 : decode cX14_putIn 233 = .ok (.iaload, 1) := by decide +kernel
theorem dX14_putIn_234 : decode cX14_putIn 234 = .ok (.aload_n 2, 1) := by decide +kernel
theorem dX14_putIn_235 : decode cX14_putIn 235 = .ok (.iload_n 3, 1) := by decide +kernel
theorem dX14_putIn_236 : decode cX14_putIn 236 = .ok (.invokevirtual 481, 3) := by decide +kernel
theorem dX14_putIn_239 : decode cX14_putIn 239 = .ok (.lstore 13, 2) := by decide +kernel
theorem dX14_putIn_241 : decode cX14_putIn 241 = .ok (.iload 9, 2) := by decide +kernel
theorem dX14_putIn_243 : decode cX14_putIn 243 = .ok (.ifCond .eq 7, 3) := by decide +kernel
theorem dX14_putIn_246 : decode cX14_putIn 246 = .ok (.lconst 0, 1) := by decide +kernel
theorem dX14_putIn_247 : decode cX14_putIn 247 = .ok (.goto 10, 3) := by decide +kernel
theorem dX14_putIn_250 : decode cX14_putIn 250 = .ok (.aload_n 0, 1) := by decide +kernel
theorem dX14_putIn_251 : decode cX14_putIn 251 = .ok (.getfield 98, 3) := by decide +kernel
theorem dX14_putIn_254 : decode cX14_putIn 254 = .ok (.iload 12, 2) := by decide +kernel
theorem dX14_putIn_256 : decode cX14_putIn 256 = .ok (.laload, 1) := by decide +kernel
theorem dX14_putIn_257 : decode cX14_putIn 257 = .ok (.lstore 15, 2) := by decide +kernel
theorem dX14_putIn_259 : decode cX14_putIn 259 = .ok (.iload 11, 2) := by decide +kernel
theorem dX14_putIn_261 : decode cX14_putIn 261 = .ok (.bipush 23, 2) := by decide +kernel
theorem dX14_putIn_263 : decode cX14_putIn 263 = .ok (.if_icmp .eq 10, 3) := by decide +kernel
theorem dX14_putIn_266 : decode cX14_putIn 266 = .ok (.iload 11, 2) := by decide +kernel
theorem dX14_putIn_268 : decode cX14_putIn 268 = .ok (.bipush 22, 2) := by decide +kernel
theorem dX14_putIn_270 : decode cX14_putIn 270 = .ok (.if_icmp .ne 18, 3) := by decide +kernel
theorem dX14_putIn_273 : decode cX14_putIn 273 = .ok (.aload_n 0, 1) := by decide +kernel
theorem dX14_putIn_274 : decode cX14_putIn 274 = .ok (.getfield 98, 3) := by decide +kernel
theorem dX14_putIn_277 : decode cX14_putIn 277 = .ok (.iload 12, 2) := by decide +kernel
theorem dX14_putIn_279 : decode cX14_putIn 279 = .ok (.lload 15, 2) := by decide +kernel
theorem dX14_putIn_281 : decode cX14_putIn 281 = .ok (.lload 13, 2) := by decide +kernel
theorem dX14_putIn_283 : decode cX14_putIn 283 = .ok (.ladd, 1) := by decide +kernel
theorem dX14_putIn_284 : decode cX14_putIn 284 = .ok (.lastore, 1) := by decide +kernel
theorem dX14_putIn_285 : decode cX14_putIn 285 = .ok (.goto 58, 3) := by decide +kernel
theorem dX14_putIn_288 : decode cX14_putIn 288 = .ok (.iload 9, 2) := by decide +kernel
theorem dX14_putIn_290 : decode cX14_putIn 290 = .ok (.ifCond .ne 10, 3) := by decide +kernel
theorem dX14_putIn_293 : decode cX14_putIn 293 = .ok (.iload 11, 2) := by decide +kernel
theorem dX14_putIn_295 : decode cX14_putIn 295 = .ok (.bipush 26, 2) := by decide +kernel
theorem dX14_putIn_297 : decode cX14_putIn 297 = .ok (.if_icmp .ne 15, 3) := by decide +kernel
theorem dX14_putIn_300 : decode cX14_putIn 300 = .ok (.aload_n 0, 1) := by decide +kernel
theorem dX14_putIn_301 : decode cX14_putIn 301 = .ok (.getfield 98, 3) := by decide +kernel
theorem dX14_putIn_304 : decode cX14_putIn 304 = .ok (.iload 12, 2) := by decide +kernel
theorem dX14_putIn_306 : decode cX14_putIn 306 = .ok (.lload 13, 2) := by decide +kernel
theorem dX14_putIn_308 : decode cX14_putIn 308 = .ok (.lastore, 1) := by decide +kernel
theorem dX14_putIn_309 : decode cX14_putIn 309 = .ok (.goto 34, 3) := by decide +kernel
theorem dX14_putIn_312 : decode cX14_putIn 312 = .ok (.aload_n 0, 1) := by decide +kernel
theorem dX14_putIn_313 : decode cX14_putIn 313 = .ok (.getfield 98, 3) := by decide +kernel
theorem dX14_putIn_316 : decode cX14_putIn 316 = .ok (.iload 12, 2) := by decide +kernel
theorem dX14_putIn_318 : decode cX14_putIn 318 = .ok (.iload 11, 2) := by decide +kernel
theorem dX14_putIn_320 : decode cX14_putIn 320 = .ok (.bipush 24, 2) := by decide +kernel
theorem dX14_putIn_322 : decode cX14_putIn 322 = .ok (.if_icmp .ne 13, 3) := by decide +kernel
theorem dX14_putIn_325 : decode cX14_putIn 325 = .ok (.lload 15, 2) := by decide +kernel
theorem dX14_putIn_327 : decode cX14_putIn 327 = .ok (.lload 13, 2) := by decide +kernel
theorem dX14_putIn_329 : decode cX14_putIn 329 = .ok (.invokestatic 307, 3) := by decide +kernel
theorem dX14_putIn_332 : decode cX14_putIn 332 = .ok (.goto 10, 3) := by decide +kernel
theorem dX14_putIn_335 : decode cX14_putIn 335 = .ok (.lload 15, 2) := by decide +kernel
theorem dX14_putIn_337 : decode cX14_putIn 337 = .ok (.lload 13, 2) := by decide +kernel
theorem dX14_putIn_339 : decode cX14_putIn 339 = .ok (.invokestatic 466, 3) := by decide +kernel
theorem dX14_putIn_342 : decode cX14_putIn 342 = .ok (.lastore, 1) := by decide +kernel
theorem dX14_putIn_343 : decode cX14_putIn 343 = .ok (.iinc 10 1, 3) := by decide +kernel
theorem dX14_putIn_346 : decode cX14_putIn 346 = .ok (.goto (-185), 3) := by decide +kernel
theorem dX14_putIn_349 : decode cX14_putIn 349 = .ok (.iload 8, 2) := by decide +kernel
theorem dX14_putIn_351 : decode cX14_putIn 351 = .ok (.ireturn, 1) := by decide +kernel
theorem dX14_offerWindow_0 : decode cX14_offerWindow 0 = .ok (.aload_n 0, 1) := by decide +kernel
theorem dX14_offerWindow_1 : decode cX14_offerWindow 1 = .ok (.getfield 82, 3) := by decide +kernel
theorem dX14_offerWindow_4 : decode cX14_offerWindow 4 = .ok (.iconst 0, 1) := by decide +kernel
theorem dX14_offerWindow_5 : decode cX14_offerWindow 5 = .ok (.aload_n 0, 1) := by decide +kernel
theorem dX14_offerWindow_6 : decode cX14_offerWindow 6 = .ok (.iload_n 1, 1) := by decide +kernel
theorem dX14_offerWindow_7 : decode cX14_offerWindow 7 = .ok (.iload_n 2, 1) := by decide +kernel
theorem dX14_offerWindow_8 : decode cX14_offerWindow 8 = .ok (.invokevirtual 495, 3) := by decide +kernel
theorem dX14_offerWindow_11 : decode cX14_offerWindow 11 = .ok (.i2l, 1) := by decide +kernel
theorem dX14_offerWindow_12 : decode cX14_offerWindow 12 = .ok (.lastore, 1) := by decide +kernel
theorem dX14_offerWindow_13 : decode cX14_offerWindow 13 = .ok (.aload_n 0, 1) := by decide +kernel
theorem dX14_offerWindow_14 : decode cX14_offerWindow 14 = .ok (.getfield 82, 3) := by decide +kernel
theorem dX14_offerWindow_17 : decode cX14_offerWindow 17 = .ok (.iconst 1, 1) := by decide +kernel
theorem dX14_offerWindow_18 : decode cX14_offerWindow 18 = .ok (.aload_n 0, 1) := by decide +kernel
theorem dX14_offerWindow_19 : decode cX14_offerWindow 19 = .ok (.getfield 88, 3) := by decide +kernel
theorem dX14_offerWindow_22 : decode cX14_offerWindow 22 = .ok (.bipush 60, 2) := by decide +kernel
theorem dX14_offerWindow_24 : decode cX14_offerWindow 24 = .ok (.iload_n 1, 1) := by decide +kernel
theorem dX14_offerWindow_25 : decode cX14_offerWindow 25 = .ok (.imul, 1) := by decide +kernel
theorem dX14_offerWindow_26 : decode cX14_offerWindow 26 = .ok (.iload_n 2, 1) := by decide +kernel
theorem dX14_offerWindow_27 : decode cX14_offerWindow 27 = .ok (.iadd, 1) := by decide +kernel
theorem dX14_offerWindow_28 : decode cX14_offerWindow 28 = .ok (.laload, 1) := by decide +kernel
theorem dX14_offerWindow_29 : decode cX14_offerWindow 29 = .ok (.lastore, 1) := by decide +kernel
theorem dX14_offerWindow_30 : decode cX14_offerWindow 30 = .ok (.aload_n 0, 1) := by decide +kernel
theorem dX14_offerWindow_31 : decode cX14_offerWindow 31 = .ok (.getfield 82, 3) := by decide +kernel
theorem dX14_offerWindow_34 : decode cX14_offerWindow 34 = .ok (.iconst 2, 1) := by decide +kernel
theorem dX14_offerWindow_35 : decode cX14_offerWindow 35 = .ok (.aload_n 0, 1) := by decide +kernel
theorem dX14_offerWindow_36 : decode cX14_offerWindow 36 = .ok (.getfield 91, 3) := by decide +kernel
theorem dX14_offerWindow_39 : decode cX14_offerWindow 39 = .ok (.bipush 60, 2) := by decide +kernel
theorem dX14_offerWindow_41 : decode cX14_offerWindow 41 = .ok (.iload_n 1, 1) := by decide +kernel
theorem dX14_offerWindow_42 : decode cX14_offerWindow 42 = .ok (.imul, 1) := by decide +kernel
theorem dX14_offerWindow_43 : decode cX14_offerWindow 43 = .ok (.iload_n 2, 1) := by decide +kernel
theorem dX14_offerWindow_44 : decode cX14_offerWindow 44 = .ok (.iadd, 1) := by decide +kernel
theorem dX14_offerWindow_45 : decode cX14_offerWindow 45 = .ok (.iaload, 1) := by decide +kernel
theorem dX14_offerWindow_46 : decode cX14_offerWindow 46 = .ok (.i2l, 1) := by decide +kernel
theorem dX14_offerWindow_47 : decode cX14_offerWindow 47 = .ok (.lastore, 1) := by decide +kernel
theorem dX14_offerWindow_48 : decode cX14_offerWindow 48 = .ok (.iconst 2, 1) := by decide +kernel
theorem dX14_offerWindow_49 : decode cX14_offerWindow 49 = .ok (.istore_n 3, 1) := by decide +kernel
theorem dX14_offerWindow_50 : decode cX14_offerWindow 50 = .ok (.iload_n 3, 1) := by decide +kernel
theorem dX14_offerWindow_51 : decode cX14_offerWindow 51 = .ok (.aload_n 0, 1) := by decide +kernel
theorem dX14_offerWindow_52 : decode cX14_offerWindow 52 = .ok (.getfield 16, 3) := by decide +kernel
theorem dX14_offerWindow_55 : decode cX14_offerWindow 55 = .ok (.getfield 292, 3) := by decide +kernel
theorem dX14_offerWindow_58 : decode cX14_offerWindow 58 = .ok (.iload_n 1, 1) := by decide +kernel
theorem dX14_offerWindow_59 : decode cX14_offerWindow 59 = .ok (.iaload, 1) := by decide +kernel
theorem dX14_offerWindow_60 : decode cX14_offerWindow 60 = .ok (.if_icmp .ge 33, 3) := by decide +kernel
theorem dX14_offerWindow_63 : decode cX14_offerWindow 63 = .ok (.aload_n 0, 1) := by decide +kernel
theorem dX14_offerWindow_64 : decode cX14_offerWindow 64 = .ok (.getfield 82, 3) := by decide +kernel
theorem dX14_offerWindow_67 : decode cX14_offerWindow 67 = .ok (.iconst 1, 1) := by decide +kernel
theorem dX14_offerWindow_68 : decode cX14_offerWindow 68 = .ok (.iload_n 3, 1) := by decide +kernel
theorem dX14_offerWindow_69 : decode cX14_offerWindow 69 = .ok (.iadd, 1) := by decide +kernel
theorem dX14_offerWindow_70 : decode cX14_offerWindow 70 = .ok (.aload_n 0, 1) := by decide +kernel
theorem dX14_offerWindow_71 : decode cX14_offerWindow 71 = .ok (.getfield 98, 3) := by decide +kernel
theorem dX14_offerWindow_74 : decode cX14_offerWindow 74 = .ok (.bipush 60, 2) := by decide +kernel
theorem dX14_offerWindow_76 : decode cX14_offerWindow 76 = .ok (.iload_n 1, 1) := by decide +kernel
theorem dX14_offerWindow_77 : decode cX14_offerWindow 77 = .ok (.imul, 1) := by decide +kernel
theorem dX14_offerWindow_78 : decode cX14_offerWindow 78 = .ok (.iload_n 2, 1) := by decide +kernel
theorem dX14_offerWindow_79 : decode cX14_offerWindow 79 = .ok (.iadd, 1) := by decide +kernel
theorem dX14_offerWindow_80 : decode cX14_offerWindow 80 = .ok (.bipush 6, 2) := by decide +kernel
theorem dX14_offerWindow_82 : decode cX14_offerWindow 82 = .ok (.imul, 1) := by decide +kernel
theorem dX14_offerWindow_83 : decode cX14_offerWindow 83 = .ok (.iload_n 3, 1) := by decide +kernel
theorem dX14_offerWindow_84 : decode cX14_offerWindow 84 = .ok (.iadd, 1) := by decide +kernel
theorem dX14_offerWindow_85 : decode cX14_offerWindow 85 = .ok (.laload, 1) := by decide +kernel
theorem dX14_offerWindow_86 : decode cX14_offerWindow 86 = .ok (.lastore, 1) := by decide +kernel
theorem dX14_offerWindow_87 : decode cX14_offerWindow 87 = .ok (.iinc 3 1, 3) := by decide +kernel
theorem dX14_offerWindow_90 : decode cX14_offerWindow 90 = .ok (.goto (-40), 3) := by decide +kernel
theorem dX14_offerWindow_93 : decode cX14_offerWindow 93 = .ok (.aload_n 0, 1) := by decide +kernel
theorem dX14_offerWindow_94 : decode cX14_offerWindow 94 = .ok (.iload_n 1, 1) := by decide +kernel
theorem dX14_offerWindow_95 : decode cX14_offerWindow 95 = .ok (.invokevirtual 498, 3) := by decide +kernel
theorem dX14_offerWindow_98 : decode cX14_offerWindow 98 = .ok (.return_, 1) := by decide +kernel
theorem dX14_beginOf_0 : decode cX14_beginOf 0 = .ok (.lload_n 2, 1) := by decide +kernel
theorem dX14_beginOf_1 : decode cX14_beginOf 1 = .ok (.aload_n 0, 1) := by decide +kernel
theorem dX14_beginOf_2 : decode cX14_beginOf 2 = .ok (.getfield 16, 3) := by decide +kernel
theorem dX14_beginOf_5 : decode cX14_beginOf 5 = .ok (.getfield 369, 3) := by decide +kernel
theorem dX14_beginOf_8 : decode cX14_beginOf 8 = .ok (.iload_n 1, 1) := by decide +kernel
theorem dX14_beginOf_9 : decode cX14_beginOf 9 = .ok (.iaload, 1) := by decide +kernel
theorem dX14_beginOf_10 : decode cX14_beginOf 10 = .ok (.i2l, 1) := by decide +kernel
theorem dX14_beginOf_11 : decode cX14_beginOf 11 = .ok (.ldiv, 1) := by decide +kernel
theorem dX14_beginOf_12 : decode cX14_beginOf 12 = .ok (.aload_n 0, 1) := by decide +kernel
theorem dX14_beginOf_13 : decode cX14_beginOf 13 = .ok (.getfield 16, 3) := by decide +kernel
theorem dX14_beginOf_16 : decode cX14_beginOf 16 = .ok (.getfield 369, 3) := by decide +kernel
theorem dX14_beginOf_19 : decode cX14_beginOf 19 = .ok (.iload_n 1, 1) := by decide +kernel
theorem dX14_beginOf_20 : decode cX14_beginOf 20 = .ok (.iaload, 1) := by decide +kernel
theorem dX14_beginOf_21 : decode cX14_beginOf 21 = .ok (.i2l, 1) := by decide +kernel
theorem dX14_beginOf_22 : decode cX14_beginOf 22 = .ok (.lmul, 1) := by decide +kernel
theorem dX14_beginOf_23 : decode cX14_beginOf 23 = .ok (.l2i, 1) := by decide +kernel
theorem dX14_beginOf_24 : decode cX14_beginOf 24 = .ok (.ireturn, 1) := by decide +kernel
theorem dX14_windowRow_0 : decode cX14_windowRow 0 = .ok (.aload_n 0, 1) := by decide +kernel
theorem dX14_windowRow_1 : decode cX14_windowRow 1 = .ok (.iload_n 1, 1) := by decide +kernel
theorem dX14_windowRow_2 : decode cX14_windowRow 2 = .ok (.aload_n 2, 1) := by decide +kernel
theorem dX14_windowRow_3 : decode cX14_windowRow 3 = .ok (.iload_n 3, 1) := by decide +kernel
theorem dX14_windowRow_4 : decode cX14_windowRow 4 = .ok (.laload, 1) := by decide +kernel
theorem dX14_windowRow_5 : decode cX14_windowRow 5 = .ok (.invokevirtual 501, 3) := by decide +kernel
theorem dX14_windowRow_8 : decode cX14_windowRow 8 = .ok (.istore 4, 2) := by decide +kernel
theorem dX14_windowRow_10 : decode cX14_windowRow 10 = .ok (.iload 4, 2) := by decide +kernel
theorem dX14_windowRow_12 : decode cX14_windowRow 12 = .ok (.aload_n 0, 1) := by decide +kernel
theorem dX14_windowRow_13 : decode cX14_windowRow 13 = .ok (.getfield 16, 3) := by decide +kernel
theorem dX14_windowRow_16 : decode cX14_windowRow 16 = .ok (.getfield 369, 3) := by decide +kernel
theorem dX14_windowRow_19 : decode cX14_windowRow 19 = .ok (.iload_n 1, 1) := by decide +kernel
theorem dX14_windowRow_20 : decode cX14_windowRow 20 = .ok (.iaload, 1) := by decide +kernel
theorem dX14_windowRow_21 : decode cX14_windowRow 21 = .ok (.iadd, 1) := by decide +kernel
theorem dX14_windowRow_22 : decode cX14_windowRow 22 = .ok (.istore 5, 2) := by decide +kernel
theorem dX14_windowRow_24 : decode cX14_windowRow 24 = .ok (.aload_n 0, 1) := by decide +kernel
theorem dX14_windowRow_25 : decode cX14_windowRow 25 = .ok (.getfield 52, 3) := by decide +kernel
theorem dX14_windowRow_28 : decode cX14_windowRow 28 = .ok (.iload_n 1, 1) := by decide +kernel
theorem dX14_windowRow_29 : decode cX14_windowRow 29 = .ok (.iaload, 1) := by decide +kernel
theorem dX14_windowRow_30 : decode cX14_windowRow 30 = .ok (.iload 5, 2) := by decide +kernel
theorem dX14_windowRow_32 : decode cX14_windowRow 32 = .ok (.if_icmp .ge 7, 3) := by decide +kernel
theorem dX14_windowRow_35 : decode cX14_windowRow 35 = .ok (.iconst 1, 1) := by decide +kernel
theorem dX14_windowRow_36 : decode cX14_windowRow 36 = .ok (.goto 4, 3) := by decide +kernel
theorem dX14_windowRow_39 : decode cX14_windowRow 39 = .ok (.iconst 0, 1) := by decide +kernel
theorem dX14_windowRow_40 : decode cX14_windowRow 40 = .ok (.istore 6, 2) := by decide +kernel
theorem dX14_windowRow_42 : decode cX14_windowRow 42 = .ok (.iload 6, 2) := by decide +kernel
theorem dX14_windowRow_44 : decode cX14_windowRow 44 = .ok (.ifCond .ne 37, 3) := by decide +kernel
theorem dX14_windowRow_47 : decode cX14_windowRow 47 = .ok (.aload_n 0, 1) := by decide +kernel
theorem dX14_windowRow_48 : decode cX14_windowRow 48 = .ok (.getfield 52, 3) := by decide +kernel
theorem dX14_windowRow_51 : decode cX14_windowRow 51 = .ok (.iload_n 1, 1) := by decide +kernel
theorem dX14_windowRow_52 : decode cX14_windowRow 52 = .ok (.iaload, 1) := by decide +kernel
theorem dX14_windowRow_53 : decode cX14_windowRow 53 = .ok (.iload 5, 2) := by decide +kernel
theorem dX14_windowRow_55 : decode cX14_windowRow 55 = .ok (.aload_n 0, 1) := by decide +kernel
theorem dX14_windowRow_56 : decode cX14_windowRow 56 = .ok (.getfield 16, 3) := by decide +kernel
theorem dX14_windowRow_59 : decode cX14_windowRow 59 = .ok (.getfield 401, 3) := by decide +kernel
theorem dX14_windowRow_62 : decode cX14_windowRow 62 = .ok (.iload_n 1, 1) := by decide +kernel
theorem dX14_windowRow_63 : decode cX14_windowRow 63 = .ok (.iaload, 1) := by decide +kernel
theorem dX14_windowRow_64 : decode cX14_windowRow 64 = .ok (.iadd, 1) := by decide +kernel
theorem dX14_windowRow_65 : decode cX14_windowRow 65 = .ok (.if_icmp .lt 16, 3) := by decide +kernel
theorem dX14_windowRow_68 : decode cX14_windowRow 68 = .ok (.aload_n 0, 1) := by decide +kernel
theorem dX14_windowRow_69 : decode cX14_windowRow 69 = .ok (.aload_n 2, 1) := by decide +kernel
theorem dX14_windowRow_70 : decode cX14_windowRow 70 = .ok (.iload_n 3, 1) := by decide +kernel
theorem dX14_windowRow_71 : decode cX14_windowRow 71 = .ok (.invokevirtual 504, 3) := by decide +kernel
theorem dX14_windowRow_74 : decode cX14_windowRow 74 = .ok (.aload_n 0, 1) := by decide +kernel
theorem dX14_windowRow_75 : decode cX14_windowRow 75 = .ok (.iload_n 1, 1) := by decide +kernel
theorem dX14_windowRow_76 : decode cX14_windowRow 76 = .ok (.iconst (-1), 1) := by decide +kernel
theorem dX14_windowRow_77 : decode cX14_windowRow 77 = .ok (.invokevirtual 485, 3) := by decide +kernel
theorem dX14_windowRow_80 : decode cX14_windowRow 80 = .ok (.return_, 1) := by decide +kernel
theorem dX14_windowRow_81 : decode cX14_windowRow 81 = .ok (.aload_n 0, 1) := by decide +kernel
theorem dX14_windowRow_82 : decode cX14_windowRow 82 = .ok (.iload_n 1, 1) := by decide +kernel
theorem dX14_windowRow_83 : decode cX14_windowRow 83 = .ok (.aload_n 2, 1) := by decide +kernel
theorem dX14_windowRow_84 : decode cX14_windowRow 84 = .ok (.iload_n 3, 1) := by decide +kernel
theorem dX14_windowRow_85 : decode cX14_windowRow 85 = .ok (.iload 4, 2) := by decide +kernel
theorem dX14_windowRow_87 : decode cX14_windowRow 87 = .ok (.iload 6, 2) := by decide +kernel
theorem dX14_windowRow_89 : decode cX14_windowRow 89 = .ok (.ifCond .ne 7, 3) := by decide +kernel
theorem dX14_windowRow_92 : decode cX14_windowRow 92 = .ok (.iconst 1, 1) := by decide +kernel
theorem dX14_windowRow_93 : decode cX14_windowRow 93 = .ok (.goto 4, 3) := by decide +kernel
theorem dX14_windowRow_96 : decode cX14_windowRow 96 = .ok (.iconst 0, 1) := by decide +kernel
theorem dX14_windowRow_97 : decode cX14_windowRow 97 = .ok (.invokevirtual 508, 3) := by decide +kernel
theorem dX14_windowRow_100 : decode cX14_windowRow 100 = .ok (.istore 7, 2) := by decide +kernel
theorem dX14_windowRow_102 : decode cX14_windowRow 102 = .ok (.iload 7, 2) := by decide +kernel
theorem dX14_windowRow_104 : decode cX14_windowRow 104 = .ok (.iconst (-1), 1) := by decide +kernel
theorem dX14_windowRow_105 : decode cX14_windowRow 105 = .ok (.if_icmp .ne 16, 3) := by decide +kernel
theorem dX14_windowRow_108 : decode cX14_windowRow 108 = .ok (.aload_n 0, 1) := by decide +kernel
theorem dX14_windowRow_109 : decode cX14_windowRow 109 = .ok (.dup, 1) := by decide +kernel
theorem dX14_windowRow_110 : decode cX14_windowRow 110 = .ok (.getfield 453, 3) := by decide +kernel
theorem dX14_windowRow_113 : decode cX14_windowRow 113 = .ok (.iconst 1, 1) := by decide +kernel
theorem dX14_windowRow_114 : decode cX14_windowRow 114 = .ok (.iadd, 1) := by decide +kernel
theorem dX14_windowRow_115 : decode cX14_windowRow 115 = .ok (.putfield 453, 3) := by decide +kernel
theorem dX14_windowRow_118 : decode cX14_windowRow 118 = .ok (.goto 15, 3) := by decide +kernel
theorem dX14_windowRow_121 : decode cX14_windowRow 121 = .ok (.iload 6, 2) := by decide +kernel
theorem dX14_windowRow_123 : decode cX14_windowRow 123 = .ok (.ifCond .ne 10, 3) := by decide +kernel
theorem dX14_windowRow_126 : decode cX14_windowRow 126 = .ok (.aload_n 0, 1) := by decide +kernel
theorem dX14_windowRow_127 : decode cX14_windowRow 127 = .ok (.iload_n 1, 1) := by decide +kernel
theorem dX14_windowRow_128 : decode cX14_windowRow 128 = .ok (.iload 7, 2) := by decide +kernel
theorem dX14_windowRow_130 : decode cX14_windowRow 130 = .ok (.invokevirtual 512, 3) := by decide +kernel
theorem dX14_windowRow_133 : decode cX14_windowRow 133 = .ok (.return_, 1) := by decide +kernel
theorem dX14_copyWindow_0 : decode cX14_copyWindow 0 = .ok (.bipush 60, 2) := by decide +kernel
theorem dX14_copyWindow_2 : decode cX14_copyWindow 2 = .ok (.iload_n 1, 1) := by decide +kernel
theorem dX14_copyWindow_3 : decode cX14_copyWindow 3 = .ok (.imul, 1) := by decide +kernel
theorem dX14_copyWindow_4 : decode cX14_copyWindow 4 = .ok (.iload_n 2, 1) := by decide +kernel
theorem dX14_copyWindow_5 : decode cX14_copyWindow 5 = .ok (.iadd, 1) := by decide +kernel
theorem dX14_copyWindow_6 : decode cX14_copyWindow 6 = .ok (.istore 4, 2) := by decide +kernel
theorem dX14_copyWindow_8 : decode cX14_copyWindow 8 = .ok (.bipush 60, 2) := by decide +kernel
theorem dX14_copyWindow_10 : decode cX14_copyWindow 10 = .ok (.iload_n 1, 1) := by decide +kernel
theorem dX14_copyWindow_11 : decode cX14_copyWindow 11 = .ok (.imul, 1) := by decide +kernel
theorem dX14_copyWindow_12 : decode cX14_copyWindow 12 = .ok (.iload_n 3, 1) := by decide +kernel
theorem dX14_copyWindow_13 : decode cX14_copyWindow 13 = .ok (.iadd, 1) := by decide +kernel
theorem dX14_copyWindow_14 : decode cX14_copyWindow 14 = .ok (.istore 5, 2) := by decide +kernel
theorem dX14_copyWindow_16 : decode cX14_copyWindow 16 = .ok (.aload_n 0, 1) := by decide +kernel
theorem dX14_copyWindow_17 : decode cX14_copyWindow 17 = .ok (.getfield 88, 3) := by decide +kernel
theorem dX14_copyWindow_20 : decode cX14_copyWindow 20 = .ok (.iload 5, 2) := by decide +kernel
theorem dX14_copyWindow_22 : decode cX14_copyWindow 22 = .ok (.aload_n 0, 1) := by decide +kernel
theorem dX14_copyWindow_23 : decode cX14_copyWindow 23 = .ok (.getfield 88, 3) := by decide +kernel
theorem dX14_copyWindow_26 : decode cX14_copyWindow 26 = .ok (.iload 4, 2) := by decide +kernel
theorem dX14_copyWindow_28 : decode cX14_copyWindow 28 = .ok (.laload, 1) := by decide +kernel
theorem dX14_copyWindow_29 : decode cX14_copyWindow 29 = .ok (.lastore, 1) := by decide +kernel
theorem dX14_copyWindow_30 : decode cX14_copyWindow 30 = .ok (.aload_n 0, 1) := by decide +kernel
theorem dX14_copyWindow_31 : decode cX14_copyWindow 31 = .ok (.getfield 91, 3) := by decide +kernel
theorem dX14_copyWindow_34 : decode cX14_copyWindow 34 = .ok (.iload 5, 2) := by decide +kernel
theorem dX14_copyWindow_36 : decode cX14_copyWindow 36 = .ok (.aload_n 0, 1) := by decide +kernel
theorem dX14_copyWindow_37 : decode cX14_copyWindow 37 = .ok (.getfield 91, 3) := by decide +kernel
theorem dX14_copyWindow_40 : decode cX14_copyWindow 40 = .ok (.iload 4, 2) := by decide +kernel
theorem dX14_copyWindow_42 : decode cX14_copyWindow 42 = .ok (.iaload, 1) := by decide +kernel
theorem dX14_copyWindow_43 : decode cX14_copyWindow 43 = .ok (.iastore, 1) := by decide +kernel
theorem dX14_copyWindow_44 : decode cX14_copyWindow 44 = .ok (.aload_n 0, 1) := by decide +kernel
theorem dX14_copyWindow_45 : decode cX14_copyWindow 45 = .ok (.getfield 94, 3) := by decide +kernel
theorem dX14_copyWindow_48 : decode cX14_copyWindow 48 = .ok (.iload 5, 2) := by decide +kernel
theorem dX14_copyWindow_50 : decode cX14_copyWindow 50 = .ok (.aload_n 0, 1) := by decide +kernel
theorem dX14_copyWindow_51 : decode cX14_copyWindow 51 = .ok (.getfield 94, 3) := by decide +kernel
theorem dX14_copyWindow_54 : decode cX14_copyWindow 54 = .ok (.iload 4, 2) := by decide +kernel
theorem dX14_copyWindow_56 : decode cX14_copyWindow 56 = .ok (.baload, 1) := by decide +kernel
theorem dX14_copyWindow_57 : decode cX14_copyWindow 57 = .ok (.bastore, 1) := by decide +kernel
theorem dX14_copyWindow_58 : decode cX14_copyWindow 58 = .ok (.aload_n 0, 1) := by decide +kernel
theorem dX14_copyWindow_59 : decode cX14_copyWindow 59 = .ok (.getfield 101, 3) := by decide +kernel
theorem dX14_copyWindow_62 : decode cX14_copyWindow 62 = .ok (.iload 5, 2) := by decide +kernel
theorem dX14_copyWindow_64 : decode cX14_copyWindow 64 = .ok (.aload_n 0, 1) := by decide +kernel
theorem dX14_copyWindow_65 : decode cX14_copyWindow 65 = .ok (.getfield 101, 3) := by decide +kernel
theorem dX14_copyWindow_68 : decode cX14_copyWindow 68 = .ok (.iload 4, 2) := by decide +kernel
theorem dX14_copyWindow_70 : decode cX14_copyWindow 70 = .ok (.iaload, 1) := by decide +kernel
theorem dX14_copyWindow_71 : decode cX14_copyWindow 71 = .ok (.iastore, 1) := by decide +kernel
theorem dX14_copyWindow_72 : decode cX14_copyWindow 72 = .ok (.aload_n 0, 1) := by decide +kernel
theorem dX14_copyWindow_73 : decode cX14_copyWindow 73 = .ok (.getfield 98, 3) := by decide +kernel
theorem dX14_copyWindow_76 : decode cX14_copyWindow 76 = .ok (.bipush 6, 2) := by decide +kernel
theorem dX14_copyWindow_78 : decode cX14_copyWindow 78 = .ok (.iload 4, 2) := by decide +kernel
theorem dX14_copyWindow_80 : decode cX14_copyWindow 80 = .ok (.imul, 1) := by decide +kernel
theorem dX14_copyWindow_81 : decode cX14_copyWindow 81 = .ok (.aload_n 0, 1) := by decide +kernel
theorem dX14_copyWindow_82 : decode cX14_copyWindow 82 = .ok (.getfield 98, 3) := by decide +kernel
theorem dX14_copyWindow_85 : decode cX14_copyWindow 85 = .ok (.bipush 6, 2) := by decide +kernel
theorem dX14_copyWindow_87 : decode cX14_copyWindow 87 = .ok (.iload 5, 2) := by decide +kernel
theorem dX14_copyWindow_89 : decode cX14_copyWindow 89 = .ok (.imul, 1) := by decide +kernel
theorem dX14_copyWindow_90 : decode cX14_copyWindow 90 = .ok (.bipush 6, 2) := by decide +kernel
theorem dX14_copyWindow_92 : decode cX14_copyWindow 92 = .ok (.invokestatic 469, 3) := by decide +kernel
theorem dX14_copyWindow_95 : decode cX14_copyWindow 95 = .ok (.return_, 1) := by decide +kernel
theorem dX14_closeWindows_0 : decode cX14_closeWindows 0 = .ok (.iconst 1, 1) := by decide +kernel
theorem dX14_closeWindows_1 : decode cX14_closeWindows 1 = .ok (.istore_n 2, 1) := by decide +kernel
theorem dX14_closeWindows_2 : decode cX14_closeWindows 2 = .ok (.iload_n 2, 1) := by decide +kernel
theorem dX14_closeWindows_3 : decode cX14_closeWindows 3 = .ok (.ifCond .eq 165, 3) := by decide +kernel
theorem dX14_closeWindows_6 : decode cX14_closeWindows 6 = .ok (.iconst (-1), 1) := by decide +kernel
theorem dX14_closeWindows_7 : decode cX14_closeWindows 7 = .ok (.istore_n 3, 1) := by decide +kernel
theorem dX14_closeWindows_8 : decode cX14_closeWindows 8 = .ok (.iconst 0, 1) := by decide +kernel
theorem dX14_closeWindows_9 : decode cX14_closeWindows 9 = .ok (.istore 4, 2) := by decide +kernel
theorem dX14_closeWindows_11 : decode cX14_closeWindows 11 = .ok (.iload 4, 2) := by decide +kernel
theorem dX14_closeWindows_13 : decode cX14_closeWindows 13 = .ok (.aload_n 0, 1) := by decide +kernel
theorem dX14_closeWindows_14 : decode cX14_closeWindows 14 = .ok (.getfield 85, 3) := by decide +kernel
theorem dX14_closeWindows_17 : decode cX14_closeWindows 17 = .ok (.iload_n 1, 1) := by decide +kernel
theorem dX14_closeWindows_18 : decode cX14_closeWindows 18 = .ok (.iaload, 1) := by decide +kernel
theorem dX14_closeWindows_19 : decode cX14_closeWindows 19 = .ok (.if_icmp .ge 110, 3) := by decide +kernel
theorem dX14_closeWindows_22 : decode cX14_closeWindows 22 = .ok (.aload_n 0, 1) := by decide +kernel
theorem dX14_closeWindows_23 : decode cX14_closeWindows 23 = .ok (.getfield 94, 3) := by decide +kernel
theorem dX14_closeWindows_26 : decode cX14_closeWindows 26 = .ok (.bipush 60, 2) := by decide +kernel
theorem dX14_closeWindows_28 : decode cX14_closeWindows 28 = .ok (.iload_n 1, 1) := by decide +kernel
theorem dX14_closeWindows_29 : decode cX14_closeWindows 29 = .ok (.imul, 1) := by decide +kernel
theorem dX14_closeWindows_30 : decode cX14_closeWindows 30 = .ok (.iload 4, 2) := by decide +kernel
theorem dX14_closeWindows_32 : decode cX14_closeWindows 32 = .ok (.iadd, 1) := by decide +kernel
theorem dX14_closeWindows_33 : decode cX14_closeWindows 33 = .ok (.baload, 1) := by decide +kernel
theorem dX14_closeWindows_34 : decode cX14_closeWindows 34 = .ok (.ifCond .ne 89, 3) := by decide +kernel
theorem dX14_closeWindows_37 : decode cX14_closeWindows 37 = .ok (.aload_n 0, 1) := by decide +kernel
theorem dX14_closeWindows_38 : decode cX14_closeWindows 38 = .ok (.iload_n 1, 1) := by decide +kernel
theorem dX14_closeWindows_39 : decode cX14_closeWindows 39 = .ok (.iload 4, 2) := by decide +kernel
theorem dX14_closeWindows_41 : decode cX14_closeWindows 41 = .ok (.invokevirtual 495, 3) := by decide +kernel
theorem dX14_closeWindows_44 : decode cX14_closeWindows 44 = .ok (.aload_n 0, 1) := by decide +kernel
theorem dX14_closeWindows_45 : decode cX14_closeWindows 45 = .ok (.getfield 52, 3) := by decide +kernel
theorem dX14_closeWindows_48 : decode cX14_closeWindows 48 = .ok (.iload_n 1, 1) := by decide +kernel
theorem dX14_closeWindows_49 : decode cX14_closeWindows 49 = .ok (.iaload, 1) := by decide +kernel
theorem dX14_closeWindows_50 : decode cX14_closeWindows 50 = .ok (.if_icmp .le 6, 3) := by decide +kernel
theorem dX14_closeWindows_53 : decode cX14_closeWindows 53 = .ok (.goto 70, 3) := by decide +kernel
theorem dX14_closeWindows_56 : decode cX14_closeWindows 56 = .ok (.iload_n 3, 1) := by decide +kernel
theorem dX14_closeWindows_57 : decode cX14_closeWindows 57 = .ok (.iconst (-1), 1) := by decide +kernel
theorem dX14_closeWindows_58 : decode cX14_closeWindows 58 = .ok (.if_icmp .eq 62, 3) := by decide +kernel
theorem dX14_closeWindows_61 : decode cX14_closeWindows 61 = .ok (.aload_n 0, 1) := by decide +kernel
theorem dX14_closeWindows_62 : decode cX14_closeWindows 62 = .ok (.iload_n 1, 1) := by decide +kernel
theorem dX14_closeWindows_63 : decode cX14_closeWindows 63 = .ok (.iload 4, 2) := by decide +kernel
theorem dX14_closeWindows_65 : decode cX14_closeWindows 65 = .ok (.invokevirtual 495, 3) := by decide +kernel
theorem dX14_closeWindows_68 : decode cX14_closeWindows 68 = .ok (.aload_n 0, 1) := by decide +kernel
theorem dX14_closeWindows_69 : decode cX14_closeWindows 69 = .ok (.iload_n 1, 1) := by decide +kernel
theorem dX14_closeWindows_70 : decode cX14_closeWindows 70 = .ok (.iload_n 3, 1) := by decide +kernel
theorem dX14_closeWindows_71 : decode cX14_closeWindows 71 = .ok (.invokevirtual 495, 3) := by decide +kernel
theorem dX14_closeWindows_74 : decode cX14_closeWindows 74 = .ok (.if_icmp .lt 46, 3) := by decide +kernel
theorem dX14_closeWindows_77 : decode cX14_closeWindows 77 = .ok (.aload_n 0, 1) := by decide +kernel
theorem dX14_closeWindows_78 : decode cX14_closeWindows 78 = .ok (.iload_n 1, 1) := by decide +kernel
theorem dX14_closeWindows_79 : decode cX14_closeWindows 79 = .ok (.iload 4, 2) := by decide +kernel
theorem dX14_closeWindows_81 : decode cX14_closeWindows 81 = .ok (.invokevirtual 495, 3) := by decide +kernel
theorem dX14_closeWindows_84 : decode cX14_closeWindows 84 = .ok (.aload_n 0, 1) := by decide +kernel
theorem dX14_closeWindows_85 : decode cX14_closeWindows 85 = .ok (.iload_n 1, 1) := by decide +kernel
theorem dX14_closeWindows_86 : decode cX14_closeWindows 86 = .ok (.iload_n 3, 1) := by decide +kernel
theorem dX14_closeWindows_87 : decode cX14_closeWindows 87 = .ok (.invokevirtual 495, 3) := by decide +kernel
theorem dX14_closeWindows_90 : decode cX14_closeWindows 90 = .ok (.if_icmp .ne 33, 3) := by decide +kernel
theorem dX14_closeWindows_93 : decode cX14_closeWindows 93 = .ok (.aload_n 0, 1) := by decide +kernel
theorem dX14_closeWindows_94 : decode cX14_closeWindows 94 = .ok (.getfield 88, 3) := by decide +kernel
theorem dX14_closeWindows_97 : decode cX14_closeWindows 97 = .ok (.bipush 60, 2) := by decide +kernel
theorem dX14_closeWindows_99 : decode cX14_closeWindows 99 = .ok (.iload_n 1, 1) := by decide +kernel
theorem dX14_closeWindows_100 : decode cX14_closeWindows 100 = .ok (.imul, 1) := by decide +kernel
theorem dX14_closeWindows_101 : decode cX14_closeWindows 101 = .ok (.iload 4, 2) := by decide +kernel
theorem dX14_closeWindows_103 : decode cX14_closeWindows 103 = .ok (.iadd, 1) := by decide +kernel
theorem dX14_closeWindows_104 : decode cX14_closeWindows 104 = .ok (.laload, 1) := by decide +kernel
theorem dX14_closeWindows_105 : decode cX14_closeWindows 105 = .ok (.aload_n 0, 1) := by decide +kernel
theorem dX14_closeWindows_106 : decode cX14_closeWindows 106 = .ok (.getfield 88, 3) := by decide +kernel
theorem dX14_closeWindows_109 : decode cX14_closeWindows 109 = .ok (.bipush 60, 2) := by decide +kernel
theorem dX14_closeWindows_111 : decode cX14_closeWindows 111 = .ok (.iload_n 1, 1) := by decide +kernel
theorem dX14_closeWindows_112 : decode cX14_closeWindows 112 = .ok (.imul, 1) := by decide +kernel
theorem dX14_closeWindows_113 : decode cX14_closeWindows 113 = .ok (.iload_n 3, 1) := by decide +kernel
theorem dX14_closeWindows_114 : decode cX14_closeWindows 114 = .ok (.iadd, 1) := by decide +kernel
theorem dX14_closeWindows_115 : decode cX14_closeWindows 115 = .ok (.laload, 1) := by decide +kernel
theorem dX14_closeWindows_116 : decode cX14_closeWindows 116 = .ok (.lcmp, 1) := by decide +kernel
theorem dX14_closeWindows_117 : decode cX14_closeWindows 117 = .ok (.ifCond .ge 6, 3) := by decide +kernel
theorem dX14_closeWindows_120 : decode cX14_closeWindows 120 = .ok (.iload 4, 2) := by decide +kernel
theorem dX14_closeWindows_122 : decode cX14_closeWindows 122 = .ok (.istore_n 3, 1) := by decide +kernel
theorem dX14_closeWindows_123 : decode cX14_closeWindows 123 = .ok (.iinc 4 1, 3) := by decide +kernel
theorem dX14_closeWindows_126 : decode cX14_closeWindows 126 = .ok (.goto (-115), 3) := by decide +kernel
theorem dX14_closeWindows_129 : decode cX14_closeWindows 129 = .ok (.iload_n 3, 1) := by decide +kernel
theorem dX14_closeWindows_130 : decode cX14_closeWindows 130 = .ok (.iconst (-1), 1) := by decide +kernel
theorem dX14_closeWindows_131 : decode cX14_closeWindows 131 = .ok (.if_icmp .eq 7, 3) := by decide +kernel
theorem dX14_closeWindows_134 : decode cX14_closeWindows 134 = .ok (.iconst 1, 1) := by decide +kernel
theorem dX14_closeWindows_135 : decode cX14_closeWindows 135 = .ok (.goto 4, 3) := by decide +kernel
theorem dX14_closeWindows_138 : decode cX14_closeWindows 138 = .ok (.iconst 0, 1) := by decide +kernel
theorem dX14_closeWindows_139 : decode cX14_closeWindows 139 = .ok (.istore_n 2, 1) := by decide +kernel
theorem dX14_closeWindows_140 : decode cX14_closeWindows 140 = .ok (.iload_n 2, 1) := by decide +kernel
theorem dX14_closeWindows_141 : decode cX14_closeWindows 141 = .ok (.ifCond .ne 6, 3) := by decide +kernel
theorem dX14_closeWindows_144 : decode cX14_closeWindows 144 = .ok (.goto (-142), 3) := by decide +kernel
theorem dX14_closeWindows_147 : decode cX14_closeWindows 147 = .ok (.aload_n 0, 1) := by decide +kernel
theorem dX14_closeWindows_148 : decode cX14_closeWindows 148 = .ok (.getfield 94, 3) := by decide +kernel
theorem dX14_closeWindows_151 : decode cX14_closeWindows 151 = .ok (.bipush 60, 2) := by decide +kernel
theorem dX14_closeWindows_153 : decode cX14_closeWindows 153 = .ok (.iload_n 1, 1) := by decide +kernel
theorem dX14_closeWindows_154 : decode cX14_closeWindows 154 = .ok (.imul, 1) := by decide +kernel
theorem dX14_closeWindows_155 : decode cX14_closeWindows 155 = .ok (.iload_n 3, 1) := by decide +kernel
theorem dX14_closeWindows_156 : decode cX14_closeWindows 156 = .ok (.iadd, 1) := by decide +kernel
theorem dX14_closeWindows_157 : decode cX14_closeWindows 157 = .ok (.iconst 1, 1) := by decide +kernel
theorem dX14_closeWindows_158 : decode cX14_closeWindows 158 = .ok (.bastore, 1) := by decide +kernel
theorem dX14_closeWindows_159 : decode cX14_closeWindows 159 = .ok (.aload_n 0, 1) := by decide +kernel
theorem dX14_closeWindows_160 : decode cX14_closeWindows 160 = .ok (.iload_n 1, 1) := by decide +kernel
theorem dX14_closeWindows_161 : decode cX14_closeWindows 161 = .ok (.iload_n 3, 1) := by decide +kernel
theorem dX14_closeWindows_162 : decode cX14_closeWindows 162 = .ok (.invokevirtual 512, 3) := by decide +kernel
theorem dX14_closeWindows_165 : decode cX14_closeWindows 165 = .ok (.goto (-163), 3) := by decide +kernel
theorem dX14_closeWindows_168 : decode cX14_closeWindows 168 = .ok (.iconst 0, 1) := by decide +kernel
theorem dX14_closeWindows_169 : decode cX14_closeWindows 169 = .ok (.istore_n 3, 1) := by decide +kernel
theorem dX14_closeWindows_170 : decode cX14_closeWindows 170 = .ok (.iconst 0, 1) := by decide +kernel
theorem dX14_closeWindows_171 : decode cX14_closeWindows 171 = .ok (.istore 4, 2) := by decide +kernel
theorem dX14_closeWindows_173 : decode cX14_closeWindows 173 = .ok (.iload 4, 2) := by decide +kernel
theorem dX14_closeWindows_175 : decode cX14_closeWindows 175 = .ok (.aload_n 0, 1) := by decide +kernel
theorem dX14_closeWindows_176 : decode cX14_closeWindows 176 = .ok (.getfield 85, 3) := by decide +kernel
theorem dX14_closeWindows_179 : decode cX14_closeWindows 179 = .ok (.iload_n 1, 1) := by decide +kernel
theorem dX14_closeWindows_180 : decode cX14_closeWindows 180 = .ok (.iaload, 1) := by decide +kernel
theorem dX14_closeWindows_181 : decode cX14_closeWindows 181 = .ok (.if_icmp .ge 49, 3) := by decide +kernel
theorem dX14_closeWindows_184 : decode cX14_closeWindows 184 = .ok (.aload_n 0, 1) := by decide +kernel
theorem dX14_closeWindows_185 : decode cX14_closeWindows 185 = .ok (.iload_n 1, 1) := by decide +kernel
theorem dX14_closeWindows_186 : decode cX14_closeWindows 186 = .ok (.iload 4, 2) := by decide +kernel
theorem dX14_closeWindows_188 : decode cX14_closeWindows 188 = .ok (.invokevirtual 495, 3) := by decide +kernel
theorem dX14_closeWindows_191 : decode cX14_closeWindows 191 = .ok (.aload_n 0, 1) := by decide +kernel
theorem dX14_closeWindows_192 : decode cX14_closeWindows 192 = .ok (.getfield 16, 3) := by decide +kernel
theorem dX14_closeWindows_195 : decode cX14_closeWindows 195 = .ok (.getfield 401, 3) := by decide +kernel
theorem dX14_closeWindows_198 : decode cX14_closeWindows 198 = .ok (.iload_n 1, 1) := by decide +kernel
theorem dX14_closeWindows_199 : decode cX14_closeWindows 199 = .ok (.iaload, 1) := by decide +kernel
theorem dX14_closeWindows_200 : decode cX14_closeWindows 200 = .ok (.iadd, 1) := by decide +kernel
theorem dX14_closeWindows_201 : decode cX14_closeWindows 201 = .ok (.aload_n 0, 1) := by decide +kernel
theorem dX14_closeWindows_202 : decode cX14_closeWindows 202 = .ok (.getfield 52, 3) := by decide +kernel
theorem dX14_closeWindows_205 : decode cX14_closeWindows 205 = .ok (.iload_n 1, 1) := by decide +kernel
theorem dX14_closeWindows_206 : decode cX14_closeWindows 206 = .ok (.iaload, 1) := by decide +kernel
theorem dX14_closeWindows_207 : decode cX14_closeWindows 207 = .ok (.if_icmp .gt 6, 3) := by decide +kernel
theorem dX14_closeWindows_210 : decode cX14_closeWindows 210 = .ok (.goto 14, 3) := by decide +kernel
theorem dX14_closeWindows_213 : decode cX14_closeWindows 213 = .ok (.aload_n 0, 1) := by decide +kernel
theorem dX14_closeWindows_214 : decode cX14_closeWindows 214 = .ok (.iload_n 1, 1) := by decide +kernel
theorem dX14_closeWindows_215 : decode cX14_closeWindows 215 = .ok (.iload 4, 2) := by decide +kernel
theorem dX14_closeWindows_217 : decode cX14_closeWindows 217 = .ok (.iload_n 3, 1) := by decide +kernel
theorem dX14_closeWindows_218 : decode cX14_closeWindows 218 = .ok (.invokevirtual 515, 3) := by decide +kernel
theorem dX14_closeWindows_221 : decode cX14_closeWindows 221 = .ok (.iinc 3 1, 3) := by decide +kernel
theorem dX14_closeWindows_224 : decode cX14_closeWindows 224 = .ok (.iinc 4 1, 3) := by decide +kernel
theorem dX14_closeWindows_227 : decode cX14_closeWindows 227 = .ok (.goto (-54), 3) := by decide +kernel
theorem dX14_closeWindows_230 : decode cX14_closeWindows 230 = .ok (.aload_n 0, 1) := by decide +kernel
theorem dX14_closeWindows_231 : decode cX14_closeWindows 231 = .ok (.getfield 85, 3) := by decide +kernel
theorem dX14_closeWindows_234 : decode cX14_closeWindows 234 = .ok (.iload_n 1, 1) := by decide +kernel
theorem dX14_closeWindows_235 : decode cX14_closeWindows 235 = .ok (.iload_n 3, 1) := by decide +kernel
theorem dX14_closeWindows_236 : decode cX14_closeWindows 236 = .ok (.iastore, 1) := by decide +kernel
theorem dX14_closeWindows_237 : decode cX14_closeWindows 237 = .ok (.return_, 1) := by decide +kernel
theorem dX14_passOn_0 : decode cX14_passOn 0 = .ok (.aload_n 0, 1) := by decide +kernel
theorem dX14_passOn_1 : decode cX14_passOn 1 = .ok (.getfield 16, 3) := by decide +kernel
theorem dX14_passOn_4 : decode cX14_passOn 4 = .ok (.getfield 323, 3) := by decide +kernel
theorem dX14_passOn_7 : decode cX14_passOn 7 = .ok (.iload_n 1, 1) := by decide +kernel
theorem dX14_passOn_8 : decode cX14_passOn 8 = .ok (.iaload, 1) := by decide +kernel
theorem dX14_passOn_9 : decode cX14_passOn 9 = .ok (.istore_n 3, 1) := by decide +kernel
theorem dX14_passOn_10 : decode cX14_passOn 10 = .ok (.aload_n 0, 1) := by decide +kernel
theorem dX14_passOn_11 : decode cX14_passOn 11 = .ok (.aload_n 0, 1) := by decide +kernel
theorem dX14_passOn_12 : decode cX14_passOn 12 = .ok (.getfield 46, 3) := by decide +kernel
theorem dX14_passOn_15 : decode cX14_passOn 15 = .ok (.iload_n 2, 1) := by decide +kernel
theorem dX14_passOn_16 : decode cX14_passOn 16 = .ok (.invokevirtual 504, 3) := by decide +kernel
theorem dX14_passOn_19 : decode cX14_passOn 19 = .ok (.aload_n 0, 1) := by decide +kernel
theorem dX14_passOn_20 : decode cX14_passOn 20 = .ok (.getfield 16, 3) := by decide +kernel
theorem dX14_passOn_23 : decode cX14_passOn 23 = .ok (.getfield 368, 3) := by decide +kernel
theorem dX14_passOn_26 : decode cX14_passOn 26 = .ok (.iload_n 1, 1) := by decide +kernel
theorem dX14_passOn_27 : decode cX14_passOn 27 = .ok (.iaload, 1) := by decide +kernel
theorem dX14_passOn_28 : decode cX14_passOn 28 = .ok (.istore 4, 2) := by decide +kernel
theorem dX14_passOn_30 : decode cX14_passOn 30 = .ok (.iload 4, 2) := by decide +kernel
theorem dX14_passOn_32 : decode cX14_passOn 32 = .ok (.iconst 1, 1) := by decide +kernel
theorem dX14_passOn_33 : decode cX14_passOn 33 = .ok (.if_icmp .ne 34, 3) := by decide +kernel
theorem dX14_passOn_36 : decode cX14_passOn 36 = .ok (.aload_n 0, 1) := by decide +kernel
theorem dX14_passOn_37 : decode cX14_passOn 37 = .ok (.aload_n 0, 1) := by decide +kernel
theorem dX14_passOn_38 : decode cX14_passOn 38 = .ok (.getfield 16, 3) := by decide +kernel
theorem dX14_passOn_41 : decode cX14_passOn 41 = .ok (.getfield 369, 3) := by decide +kernel
theorem dX14_passOn_44 : decode cX14_passOn 44 = .ok (.iload_n 1, 1) := by decide +kernel
theorem dX14_passOn_45 : decode cX14_passOn 45 = .ok (.iaload, 1) := by decide +kernel
theorem dX14_passOn_46 : decode cX14_passOn 46 = .ok (.aload_n 0, 1) := by decide +kernel
theorem dX14_passOn_47 : decode cX14_passOn 47 = .ok (.getfield 46, 3) := by decide +kernel
theorem dX14_passOn_50 : decode cX14_passOn 50 = .ok (.iload_n 2, 1) := by decide +kernel
theorem dX14_passOn_51 : decode cX14_passOn 51 = .ok (.invokevirtual 481, 3) := by decide +kernel
theorem dX14_passOn_54 : decode cX14_passOn 54 = .ok (.lconst 0, 1) := by decide +kernel
theorem dX14_passOn_55 : decode cX14_passOn 55 = .ok (.lcmp, 1) := by decide +kernel
theorem dX14_passOn_56 : decode cX14_passOn 56 = .ok (.ifCond .eq 199, 3) := by decide +kernel
theorem dX14_passOn_59 : decode cX14_passOn 59 = .ok (.aload_n 0, 1) := by decide +kernel
theorem dX14_passOn_60 : decode cX14_passOn 60 = .ok (.iload_n 1, 1) := by decide +kernel
theorem dX14_passOn_61 : decode cX14_passOn 61 = .ok (.invokevirtual 498, 3) := by decide +kernel
theorem dX14_passOn_64 : decode cX14_passOn 64 = .ok (.goto 191, 3) := by decide +kernel
theorem dX14_passOn_67 : decode cX14_passOn 67 = .ok (.iload 4, 2) := by decide +kernel
theorem dX14_passOn_69 : decode cX14_passOn 69 = .ok (.iconst 2, 1) := by decide +kernel
theorem dX14_passOn_70 : decode cX14_passOn 70 = .ok (.if_icmp .ne 75, 3) := by decide +kernel
theorem dX14_passOn_73 : decode cX14_passOn 73 = .ok (.aload_n 0, 1) := by decide +kernel
theorem dX14_passOn_74 : decode cX14_passOn 74 = .ok (.getfield 16, 3) := by decide +kernel
theorem dX14_passOn_77 : decode cX14_passOn 77 = .ok (.getfield 292, 3) := by decide +kernel
theorem dX14_passOn_80 : decode cX14_passOn 80 = .ok (.iload_n 3, 1) := by decide +kernel
theorem dX14_passOn_81 : decode cX14_passOn 81 = .ok (.iaload, 1) := by decide +kernel
theorem dX14_passOn_82 : decode cX14_passOn 82 = .ok (.istore 5, 2) := by decide +kernel
theorem dX14_passOn_84 : decode cX14_passOn 84 = .ok (.iload 5, 2) := by decide +kernel
theorem dX14_passOn_86 : decode cX14_passOn 86 = .ok (.aload_n 0, 1) := by decide +kernel
theorem dX14_passOn_87 : decode cX14_passOn 87 = .ok (.getfield 16, 3) := by decide +kernel
theorem dX14_passOn_90 : decode cX14_passOn 90 = .ok (.getfield 292, 3) := by decide +kernel
theorem dX14_passOn_93 : decode cX14_passOn 93 = .ok (.iload_n 1, 1) := by decide +kernel
theorem dX14_passOn_94 : decode cX14_passOn 94 = .ok (.iaload, 1) := by decide +kernel
theorem dX14_passOn_95 : decode cX14_passOn 95 = .ok (.if_icmp .ge 42, 3) := by decide +kernel
theorem dX14_passOn_98 : decode cX14_passOn 98 = .ok (.aload_n 0, 1) := by decide +kernel
theorem dX14_passOn_99 : decode cX14_passOn 99 = .ok (.getfield 82, 3) := by decide +kernel
theorem dX14_passOn_102 : decode cX14_passOn 102 = .ok (.iconst 1, 1) := by decide +kernel
theorem dX14_passOn_103 : decode cX14_passOn 103 = .ok (.iload 5, 2) := by decide +kernel
theorem dX14_passOn_105 : decode cX14_passOn 105 = .ok (.iadd, 1) := by decide +kernel
theorem dX14_passOn_106 : decode cX14_passOn 106 = .ok (.aload_n 0, 1) := by decide +kernel
theorem dX14_passOn_107 : decode cX14_passOn 107 = .ok (.aload_n 0, 1) := by decide +kernel
theorem dX14_passOn_108 : decode cX14_passOn 108 = .ok (.getfield 16, 3) := by decide +kernel
theorem dX14_passOn_111 : decode cX14_passOn 111 = .ok (.getfield 335, 3) := by decide +kernel
theorem dX14_passOn_114 : decode cX14_passOn 114 = .ok (.bipush 6, 2) := by decide +kernel
theorem dX14_passOn_116 : decode cX14_passOn 116 = .ok (.iload_n 1, 1) := by decide +kernel
theorem dX14_passOn_117 : decode cX14_passOn 117 = .ok (.imul, 1) := by decide +kernel
theorem dX14_passOn_118 : decode cX14_passOn 118 = .ok (.iload 5, 2) := by decide +kernel
theorem dX14_passOn_120 : decode cX14_passOn 120 = .ok (.iadd, 1) := by decide +kernel
theorem dX14_passOn_121 : decode cX14_passOn 121 = .ok (.iaload, 1) := by decide +kernel
theorem dX14_passOn_122 : decode cX14_passOn 122 = .ok (.aload_n 0, 1) := by decide +kernel
theorem dX14_passOn_123 : decode cX14_passOn 123 = .ok (.getfield 46, 3) := by decide +kernel
theorem dX14_passOn_126 : decode cX14_passOn 126 = .ok (.iload_n 2, 1) := by decide +kernel
theorem dX14_passOn_127 : decode cX14_passOn 127 = .ok (.invokevirtual 481, 3) := by decide +kernel
theorem dX14_passOn_130 : decode cX14_passOn 130 = .ok (.lastore, 1) := by decide +kernel
theorem dX14_passOn_131 : decode cX14_passOn 131 = .ok (.iinc 5 1, 3) := by decide +kernel
theorem dX14_passOn_134 : decode cX14_passOn 134 = .ok (.goto (-50), 3) := by decide +kernel
theorem dX14_passOn_137 : decode cX14_passOn 137 = .ok (.aload_n 0, 1) := by decide +kernel
theorem dX14_passOn_138 : decode cX14_passOn 138 = .ok (.iload_n 1, 1) := by decide +kernel
theorem dX14_passOn_139 : decode cX14_passOn 139 = .ok (.invokevirtual 498, 3) := by decide +kernel
theorem dX14_passOn_142 : decode cX14_passOn 142 = .ok (.goto 113, 3) := by decide +kernel
theorem dX14_passOn_145 : decode cX14_passOn 145 = .ok (.iload 4, 2) := by decide +kernel
theorem dX14_passOn_147 : decode cX14_passOn 147 = .ok (.iconst 3, 1) := by decide +kernel
theorem dX14_passOn_148 : decode cX14_passOn 148 = .ok (.if_icmp .ne 67, 3) := by decide +kernel
theorem dX14_passOn_151 : decode cX14_passOn 151 = .ok (.iconst 0, 1) := by decide +kernel
theorem dX14_passOn_152 : decode cX14_passOn 152 = .ok (.istore 5, 2) := by decide +kernel
theorem dX14_passOn_154 : decode cX14_passOn 154 = .ok (.iload 5, 2) := by decide +kernel
theorem dX14_passOn_156 : decode cX14_passOn 156 = .ok (.aload_n 0, 1) := by decide +kernel
theorem dX14_passOn_157 : decode cX14_passOn 157 = .ok (.getfield 16, 3) := by decide +kernel
theorem dX14_passOn_160 : decode cX14_passOn 160 = .ok (.getfield 292, 3) := by decide +kernel
theorem dX14_passOn_163 : decode cX14_passOn 163 = .ok (.iload_n 1, 1) := by decide +kernel
theorem dX14_passOn_164 : decode cX14_passOn 164 = .ok (.iaload, 1) := by decide +kernel
theorem dX14_passOn_165 : decode cX14_passOn 165 = .ok (.if_icmp .ge 42, 3) := by decide +kernel
theorem dX14_passOn_168 : decode cX14_passOn 168 = .ok (.aload_n 0, 1) := by decide +kernel
theorem dX14_passOn_169 : decode cX14_passOn 169 = .ok (.getfield 82, 3) := by decide +kernel
theorem dX14_passOn_172 : decode cX14_passOn 172 = .ok (.iconst 1, 1) := by decide +kernel
theorem dX14_passOn_173 : decode cX14_passOn 173 = .ok (.iload 5, 2) := by decide +kernel
theorem dX14_passOn_175 : decode cX14_passOn 175 = .ok (.iadd, 1) := by decide +kernel
theorem dX14_passOn_176 : decode cX14_passOn 176 = .ok (.aload_n 0, 1) := by decide +kernel
theorem dX14_passOn_177 : decode cX14_passOn 177 = .ok (.getfield 46, 3) := by decide +kernel
theorem dX14_passOn_180 : decode cX14_passOn 180 = .ok (.iload_n 2, 1) := by decide +kernel
theorem dX14_passOn_181 : decode cX14_passOn 181 = .ok (.iconst 1, 1) := by decide +kernel
theorem dX14_passOn_182 : decode cX14_passOn 182 = .ok (.iadd, 1) := by decide +kernel
theorem dX14_passOn_183 : decode cX14_passOn 183 = .ok (.aload_n 0, 1) := by decide +kernel
theorem dX14_passOn_184 : decode cX14_passOn 184 = .ok (.getfield 16, 3) := by decide +kernel
theorem dX14_passOn_187 : decode cX14_passOn 187 = .ok (.getfield 335, 3) := by decide +kernel
theorem dX14_passOn_190 : decode cX14_passOn 190 = .ok (.bipush 6, 2) := by decide +kernel
theorem dX14_passOn_192 : decode cX14_passOn 192 = .ok (.iload_n 1, 1) := by decide +kernel
theorem dX14_passOn_193 : decode cX14_passOn 193 = .ok (.imul, 1) := by decide +kernel
theorem dX14_passOn_194 : decode cX14_passOn 194 = .ok (.iload 5, 2) := by decide +kernel
theorem dX14_passOn_196 : decode cX14_passOn 196 = .ok (.iadd, 1) := by decide +kernel
theorem dX14_passOn_197 : decode cX14_passOn 197 = .ok (.iaload, 1) := by decide +kernel
theorem dX14_passOn_198 : decode cX14_passOn 198 = .ok (.iadd, 1) := by decide +kernel
theorem dX14_passOn_199 : decode cX14_passOn 199 = .ok (.laload, 1) := by decide +kernel
theorem dX14_passOn_200 : decode cX14_passOn 200 = .ok (.lastore, 1) := by decide +kernel
theorem dX14_passOn_201 : decode cX14_passOn 201 = .ok (.iinc 5 1, 3) := by decide +kernel
theorem dX14_passOn_204 : decode cX14_passOn 204 = .ok (.goto (-50), 3) := by decide +kernel
theorem dX14_passOn_207 : decode cX14_passOn 207 = .ok (.aload_n 0, 1) := by decide +kernel
theorem dX14_passOn_208 : decode cX14_passOn 208 = .ok (.iload_n 1, 1) := by decide +kernel
theorem dX14_passOn_209 : decode cX14_passOn 209 = .ok (.invokevirtual 498, 3) := by decide +kernel
theorem dX14_passOn_212 : decode cX14_passOn 212 = .ok (.goto 43, 3) := by decide +kernel
theorem dX14_passOn_215 : decode cX14_passOn 215 = .ok (.iload 4, 2) := by decide +kernel
theorem dX14_passOn_217 : decode cX14_passOn 217 = .ok (.iconst 4, 1) := by decide +kernel
theorem dX14_passOn_218 : decode cX14_passOn 218 = .ok (.if_icmp .ne 11, 3) := by decide +kernel
theorem dX14_passOn_221 : decode cX14_passOn 221 = .ok (.aload_n 0, 1) := by decide +kernel
theorem dX14_passOn_222 : decode cX14_passOn 222 = .ok (.iload_n 1, 1) := by decide +kernel
theorem dX14_passOn_223 : decode cX14_passOn 223 = .ok (.invokevirtual 498, 3) := by decide +kernel
theorem dX14_passOn_226 : decode cX14_passOn 226 = .ok (.goto 29, 3) := by decide +kernel
theorem dX14_passOn_229 : decode cX14_passOn 229 = .ok (.iload 4, 2) := by decide +kernel
theorem dX14_passOn_231 : decode cX14_passOn 231 = .ok (.bipush 6, 2) := by decide +kernel
theorem dX14_passOn_233 : decode cX14_passOn 233 = .ok (.if_icmp .ne 12, 3) := by decide +kernel
theorem dX14_passOn_236 : decode cX14_passOn 236 = .ok (.aload_n 0, 1) := by decide +kernel
theorem dX14_passOn_237 : decode cX14_passOn 237 = .ok (.iload_n 1, 1) := by decide +kernel
theorem dX14_passOn_238 : decode cX14_passOn 238 = .ok (.iload_n 2, 1) := by decide +kernel
theorem dX14_passOn_239 : decode cX14_passOn 239 = .ok (.invokevirtual 519, 3) := by decide +kernel
theorem dX14_passOn_242 : decode cX14_passOn 242 = .ok (.goto 13, 3) := by decide +kernel
theorem dX14_passOn_245 : decode cX14_passOn 245 = .ok (.aload_n 0, 1) := by decide +kernel
theorem dX14_passOn_246 : decode cX14_passOn 246 = .ok (.iload_n 1, 1) := by decide +kernel
theorem dX14_passOn_247 : decode cX14_passOn 247 = .ok (.aload_n 0, 1) := by decide +kernel
theorem dX14_passOn_248 : decode cX14_passOn 248 = .ok (.getfield 46, 3) := by decide +kernel
theorem dX14_passOn_251 : decode cX14_passOn 251 = .ok (.iload_n 2, 1) := by decide +kernel
theorem dX14_passOn_252 : decode cX14_passOn 252 = .ok (.invokevirtual 522, 3) := by decide +kernel
theorem dX14_passOn_255 : decode cX14_passOn 255 = .ok (.return_, 1) := by decide +kernel
theorem dX14_firstOnly_0 : decode cX14_firstOnly 0 = .ok (.aload_n 0, 1) := by decide +kernel
theorem dX14_firstOnly_1 : decode cX14_firstOnly 1 = .ok (.getfield 46, 3) := by decide +kernel
theorem dX14_firstOnly_4 : decode cX14_firstOnly 4 = .ok (.iload_n 2, 1) := by decide +kernel
theorem dX14_firstOnly_5 : decode cX14_firstOnly 5 = .ok (.iconst 1, 1) := by decide +kernel
theorem dX14_firstOnly_6 : decode cX14_firstOnly 6 = .ok (.iadd, 1) := by decide +kernel
theorem dX14_firstOnly_7 : decode cX14_firstOnly 7 = .ok (.aload_n 0, 1) := by decide +kernel
theorem dX14_firstOnly_8 : decode cX14_firstOnly 8 = .ok (.getfield 16, 3) := by decide +kernel
theorem dX14_firstOnly_11 : decode cX14_firstOnly 11 = .ok (.getfield 387, 3) := by decide +kernel
theorem dX14_firstOnly_14 : decode cX14_firstOnly 14 = .ok (.iload_n 1, 1) := by decide +kernel
theorem dX14_firstOnly_15 : decode cX14_firstOnly 15 = .ok (.iaload, 1) := by decide +kernel
theorem dX14_firstOnly_16 : decode cX14_firstOnly 16 = .ok (.iadd, 1) := by decide +kernel
theorem dX14_firstOnly_17 : decode cX14_firstOnly 17 = .ok (.laload, 1) := by decide +kernel
theorem dX14_firstOnly_18 : decode cX14_firstOnly 18 = .ok (.lstore_n 3, 1) := by decide +kernel
theorem dX14_firstOnly_19 : decode cX14_firstOnly 19 = .ok (.iconst 0, 1) := by decide +kernel
theorem dX14_firstOnly_20 : decode cX14_firstOnly 20 = .ok (.istore 5, 2) := by decide +kernel
theorem dX14_firstOnly_22 : decode cX14_firstOnly 22 = .ok (.iload 5, 2) := by decide +kernel
theorem dX14_firstOnly_24 : decode cX14_firstOnly 24 = .ok (.aload_n 0, 1) := by decide +kernel
theorem dX14_firstOnly_25 : decode cX14_firstOnly 25 = .ok (.getfield 64, 3) := by decide +kernel
theorem dX14_firstOnly_28 : decode cX14_firstOnly 28 = .ok (.iload_n 1, 1) := by decide +kernel
theorem dX14_firstOnly_29 : decode cX14_firstOnly 29 = .ok (.iaload, 1) := by decide +kernel
theorem dX14_firstOnly_30 : decode cX14_firstOnly 30 = .ok (.if_icmp .ge 67, 3) := by decide +kernel
theorem dX14_firstOnly_33 : decode cX14_firstOnly 33 = .ok (.iconst 2, 1) := by decide +kernel
theorem dX14_firstOnly_34 : decode cX14_firstOnly 34 = .ok (.sipush 200, 3) := by decide +kernel
theorem dX14_firstOnly_37 : decode cX14_firstOnly 37 = .ok (.iload_n 1, 1) := by decide +kernel
theorem dX14_firstOnly_38 : decode cX14_firstOnly 38 = .ok (.imul, 1) := by decide +kernel
theorem dX14_firstOnly_39 : decode cX14_firstOnly 39 = .ok (.iload 5, 2) := by decide +kernel
theorem dX14_firstOnly_41 : decode cX14_firstOnly 41 = .ok (.iadd, 1) := by decide +kernel
theorem dX14_firstOnly_42 : decode cX14_firstOnly 42 = .ok (.imul, 1) := by decide +kernel
theorem dX14_firstOnly_43 : decode cX14_firstOnly 43 = .ok (.istore 6, 2) := by decide +kernel
theorem dX14_firstOnly_45 : decode cX14_firstOnly 45 = .ok (.aload_n 0, 1) := by decide +kernel
theorem dX14_firstOnly_46 : decode cX14_firstOnly 46 = .ok (.getfield 61, 3) := by decide +kernel
theorem dX14_firstOnly_49 : decode cX14_firstOnly 49 = .ok (.iload 6, 2) := by decide +kernel
theorem dX14_firstOnly_51 : decode cX14_firstOnly 51 = .ok (.laload, 1) := by decide +kernel
theorem dX14_firstOnly_52 : decode cX14_firstOnly 52 = .ok (.lload_n 3, 1) := by decide +kernel
theorem dX14_firstOnly_53 : decode cX14_firstOnly 53 = .ok (.lcmp, 1) := by decide +kernel
theorem dX14_firstOnly_54 : decode cX14_firstOnly 54 = .ok (.ifCond .ne 37, 3) := by decide +kernel
theorem dX14_firstOnly_57 : decode cX14_firstOnly 57 = .ok (.aload_n 0, 1) := by decide +kernel
theorem dX14_firstOnly_58 : decode cX14_firstOnly 58 = .ok (.getfield 61, 3) := by decide +kernel
theorem dX14_firstOnly_61 : decode cX14_firstOnly 61 = .ok (.iload 6, 2) := by decide +kernel
theorem dX14_firstOnly_63 : decode cX14_firstOnly 63 = .ok (.iconst 1, 1) := by decide +kernel
theorem dX14_firstOnly_64 : decode cX14_firstOnly 64 = .ok (.iadd, 1) := by decide +kernel
theorem dX14_firstOnly_65 : decode cX14_firstOnly 65 = .ok (.laload, 1) := by decide +kernel
theorem dX14_firstOnly_66 : decode cX14_firstOnly 66 = .ok (.aload_n 0, 1) := by decide +kernel
theorem dX14_firstOnly_67 : decode cX14_firstOnly 67 = .ok (.getfield 46, 3) := by decide +kernel
theorem dX14_firstOnly_70 : decode cX14_firstOnly 70 = .ok (.iload_n 2, 1) := by decide +kernel
theorem dX14_firstOnly_71 : decode cX14_firstOnly 71 = .ok (.laload, 1) := by decide +kernel
theorem dX14_firstOnly_72 : decode cX14_firstOnly 72 = .ok (.lsub, 1) := by decide +kernel
theorem dX14_firstOnly_73 : decode cX14_firstOnly 73 = .ok (.invokestatic 526, 3) := by decide +kernel
theorem dX14_firstOnly_76 : decode cX14_firstOnly 76 = .ok (.aload_n 0, 1) := by decide +kernel
theorem dX14_firstOnly_77 : decode cX14_firstOnly 77 = .ok (.getfield 16, 3) := by decide +kernel
theorem dX14_firstOnly_80 : decode cX14_firstOnly 80 = .ok (.getfield 369, 3) := by decide +kernel
theorem dX14_firstOnly_83 : decode cX14_firstOnly 83 = .ok (.iload_n 1, 1) := by decide +kernel
theorem dX14_firstOnly_84 : decode cX14_firstOnly 84 = .ok (.iaload, 1) := by decide +kernel
theorem dX14_firstOnly_85 : decode cX14_firstOnly 85 = .ok (.i2l, 1) := by decide +kernel
theorem dX14_firstOnly_86 : decode cX14_firstOnly 86 = .ok (.lcmp, 1) := by decide +kernel
theorem dX14_firstOnly_87 : decode cX14_firstOnly 87 = .ok (.ifCond .gt 4, 3) := by decide +kernel
theorem dX14_firstOnly_90 : decode cX14_firstOnly 90 = .ok (.return_, 1) := by decide +kernel
theorem dX14_firstOnly_91 : decode cX14_firstOnly 91 = .ok (.iinc 5 1, 3) := by decide +kernel
theorem dX14_firstOnly_94 : decode cX14_firstOnly 94 = .ok (.goto (-72), 3) := by decide +kernel
theorem dX14_firstOnly_97 : decode cX14_firstOnly 97 = .ok (.aload_n 0, 1) := by decide +kernel
theorem dX14_firstOnly_98 : decode cX14_firstOnly 98 = .ok (.getfield 61, 3) := by decide +kernel
theorem dX14_firstOnly_101 : decode cX14_firstOnly 101 = .ok (.iconst 2, 1) := by decide +kernel
theorem dX14_firstOnly_102 : decode cX14_firstOnly 102 = .ok (.sipush 200, 3) := by decide +kernel
theorem dX14_firstOnly_105 : decode cX14_firstOnly 105 = .ok (.iload_n 1, 1) := by decide +kernel
theorem dX14_firstOnly_106 : decode cX14_firstOnly 106 = .ok (.imul, 1) := by decide +kernel
theorem dX14_firstOnly_107 : decode cX14_firstOnly 107 = .ok (.aload_n 0, 1) := by decide +kernel
theorem dX14_firstOnly_108 : decode cX14_firstOnly 108 = .ok (.getfield 64, 3) := by decide +kernel
theorem dX14_firstOnly_111 : decode cX14_firstOnly 111 = .ok (.iload_n 1, 1) := by decide +kernel
theorem dX14_firstOnly_112 : decode cX14_firstOnly 112 = .ok (.iaload, 1) := by decide +kernel
theorem dX14_firstOnly_113 : decode cX14_firstOnly 113 = .ok (.iadd, 1) := by decide +kernel
theorem dX14_firstOnly_114 : decode cX14_firstOnly 114 = .ok (.imul, 1) := by decide +kernel
theorem dX14_firstOnly_115 : decode cX14_firstOnly 115 = .ok (.lload_n 3, 1) := by decide +kernel
theorem dX14_firstOnly_116 : decode cX14_firstOnly 116 = .ok (.lastore, 1) := by decide +kernel
theorem dX14_firstOnly_117 : decode cX14_firstOnly 117 = .ok (.aload_n 0, 1) := by decide +kernel
theorem dX14_firstOnly_118 : decode cX14_firstOnly 118 = .ok (.getfield 61, 3) := by decide +kernel
theorem dX14_firstOnly_121 : decode cX14_firstOnly 121 = .ok (.iconst 2, 1) := by decide +kernel
theorem dX14_firstOnly_122 : decode cX14_firstOnly 122 = .ok (.sipush 200, 3) := by decide +kernel
theorem dX14_firstOnly_125 : decode cX14_firstOnly 125 = .ok (.iload_n 1, 1) := by decide +kernel
theorem dX14_firstOnly_126 : decode cX14_firstOnly 126 = .ok (.imul, 1) := by decide +kernel
theorem dX14_firstOnly_127 : decode cX14_firstOnly 127 = .ok (.aload_n 0, 1) := by decide +kernel
theorem dX14_firstOnly_128 : decode cX14_firstOnly 128 = .ok (.getfield 64, 3) := by decide +kernel
theorem dX14_firstOnly_131 : decode cX14_firstOnly 131 = .ok (.iload_n 1, 1) := by decide +kernel
theorem dX14_firstOnly_132 : decode cX14_firstOnly 132 = .ok (.iaload, 1) := by decide +kernel
theorem dX14_firstOnly_133 : decode cX14_firstOnly 133 = .ok (.iadd, 1) := by decide +kernel
theorem dX14_firstOnly_134 : decode cX14_firstOnly 134 = .ok (.imul, 1) := by decide +kernel
theorem dX14_firstOnly_135 : decode cX14_firstOnly 135 = .ok (.iconst 1, 1) := by decide +kernel
theorem dX14_firstOnly_136 : decode cX14_firstOnly 136 = .ok (.iadd, 1) := by decide +kernel
theorem dX14_firstOnly_137 : decode cX14_firstOnly 137 = .ok (.aload_n 0, 1) := by decide +kernel
theorem dX14_firstOnly_138 : decode cX14_firstOnly 138 = .ok (.getfield 46, 3) := by decide +kernel
theorem dX14_firstOnly_141 : decode cX14_firstOnly 141 = .ok (.iload_n 2, 1) := by decide +kernel
theorem dX14_firstOnly_142 : decode cX14_firstOnly 142 = .ok (.laload, 1) := by decide +kernel
theorem dX14_firstOnly_143 : decode cX14_firstOnly 143 = .ok (.lastore, 1) := by decide +kernel
theorem dX14_firstOnly_144 : decode cX14_firstOnly 144 = .ok (.aload_n 0, 1) := by decide +kernel
theorem dX14_firstOnly_145 : decode cX14_firstOnly 145 = .ok (.getfield 64, 3) := by decide +kernel
theorem dX14_firstOnly_148 : decode cX14_firstOnly 148 = .ok (.iload_n 1, 1) := by decide +kernel
theorem dX14_firstOnly_149 : decode cX14_firstOnly 149 = .ok (.dup2, 1) := by decide +kernel
theorem dX14_firstOnly_150 : decode cX14_firstOnly 150 = .ok (.iaload, 1) := by decide +kernel
theorem dX14_firstOnly_151 : decode cX14_firstOnly 151 = .ok (.iconst 1, 1) := by decide +kernel
theorem dX14_firstOnly_152 : decode cX14_firstOnly 152 = .ok (.iadd, 1) := by decide +kernel
theorem dX14_firstOnly_153 : decode cX14_firstOnly 153 = .ok (.iastore, 1) := by decide +kernel
theorem dX14_firstOnly_154 : decode cX14_firstOnly 154 = .ok (.aload_n 0, 1) := by decide +kernel
theorem dX14_firstOnly_155 : decode cX14_firstOnly 155 = .ok (.iload_n 1, 1) := by decide +kernel
theorem dX14_firstOnly_156 : decode cX14_firstOnly 156 = .ok (.invokevirtual 498, 3) := by decide +kernel
theorem dX14_firstOnly_159 : decode cX14_firstOnly 159 = .ok (.return_, 1) := by decide +kernel
theorem dX14_pair_0 : decode cX14_pair 0 = .ok (.aload_n 0, 1) := by decide +kernel
theorem dX14_pair_1 : decode cX14_pair 1 = .ok (.getfield 46, 3) := by decide +kernel
theorem dX14_pair_4 : decode cX14_pair 4 = .ok (.iload_n 2, 1) := by decide +kernel
theorem dX14_pair_5 : decode cX14_pair 5 = .ok (.iconst 1, 1) := by decide +kernel
theorem dX14_pair_6 : decode cX14_pair 6 = .ok (.iadd, 1) := by decide +kernel
theorem dX14_pair_7 : decode cX14_pair 7 = .ok (.aload_n 0, 1) := by decide +kernel
theorem dX14_pair_8 : decode cX14_pair 8 = .ok (.getfield 16, 3) := by decide +kernel
theorem dX14_pair_11 : decode cX14_pair 11 = .ok (.getfield 387, 3) := by decide +kernel
theorem dX14_pair_14 : decode cX14_pair 14 = .ok (.iload_n 1, 1) := by decide +kernel
theorem dX14_pair_15 : decode cX14_pair 15 = .ok (.iaload, 1) := by decide +kernel
theorem dX14_pair_16 : decode cX14_pair 16 = .ok (.iadd, 1) := by decide +kernel
theorem dX14_pair_17 : decode cX14_pair 17 = .ok (.laload, 1) := by decide +kernel
theorem dX14_pair_18 : decode cX14_pair 18 = .ok (.aload_n 0, 1) := by decide +kernel
theorem dX14_pair_19 : decode cX14_pair 19 = .ok (.getfield 46, 3) := by decide +kernel
theorem dX14_pair_22 : decode cX14_pair 22 = .ok (.iload_n 3, 1) := by decide +kernel
theorem dX14_pair_23 : decode cX14_pair 23 = .ok (.iconst 1, 1) := by decide +kernel
theorem dX14_pair_24 : decode cX14_pair 24 = .ok (.iadd, 1) := by decide +kernel
theorem dX14_pair_25 : decode cX14_pair 25 = .ok (.aload_n 0, 1) := by decide +kernel
theorem dX14_pair_26 : decode cX14_pair 26 = .ok (.getfield 16, 3) := by decide +kernel
theorem dX14_pair_29 : decode cX14_pair 29 = .ok (.getfield 396, 3) := by decide +kernel
theorem dX14_pair_32 : decode cX14_pair 32 = .ok (.iload_n 1, 1) := by decide +kernel
theorem dX14_pair_33 : decode cX14_pair 33 = .ok (.iaload, 1) := by decide +kernel
theorem dX14_pair_34 : decode cX14_pair 34 = .ok (.iadd, 1) := by decide +kernel
theorem dX14_pair_35 : decode cX14_pair 35 = .ok (.laload, 1) := by decide +kernel
theorem dX14_pair_36 : decode cX14_pair 36 = .ok (.lcmp, 1) := by decide +kernel
theorem dX14_pair_37 : decode cX14_pair 37 = .ok (.ifCond .ne 33, 3) := by decide +kernel
theorem dX14_pair_40 : decode cX14_pair 40 = .ok (.aload_n 0, 1) := by decide +kernel
theorem dX14_pair_41 : decode cX14_pair 41 = .ok (.getfield 46, 3) := by decide +kernel
theorem dX14_pair_44 : decode cX14_pair 44 = .ok (.iload_n 2, 1) := by decide +kernel
theorem dX14_pair_45 : decode cX14_pair 45 = .ok (.laload, 1) := by decide +kernel
theorem dX14_pair_46 : decode cX14_pair 46 = .ok (.aload_n 0, 1) := by decide +kernel
theorem dX14_pair_47 : decode cX14_pair 47 = .ok (.getfield 46, 3) := by decide +kernel
theorem dX14_pair_50 : decode cX14_pair 50 = .ok (.iload_n 3, 1) := by decide +kernel
theorem dX14_pair_51 : decode cX14_pair 51 = .ok (.laload, 1) := by decide +kernel
theorem dX14_pair_52 : decode cX14_pair 52 = .ok (.lsub, 1) := by decide +kernel
theorem dX14_pair_53 : decode cX14_pair 53 = .ok (.invokestatic 526, 3) := by decide +kernel
theorem dX14_pair_56 : decode cX14_pair 56 = .ok (.aload_n 0, 1) := by decide +kernel
theorem dX14_pair_57 : decode cX14_pair 57 = .ok (.getfield 16, 3) := by decide +kernel
theorem dX14_pair_60 : decode cX14_pair 60 = .ok (.getfield 369, 3) := by decide +kernel
theorem dX14_pair_63 : decode cX14_pair 63 = .ok (.iload_n 1, 1) := by decide +kernel
theorem dX14_pair_64 : decode cX14_pair 64 = .ok (.iaload, 1) := by decide +kernel
theorem dX14_pair_65 : decode cX14_pair 65 = .ok (.i2l, 1) := by decide +kernel
theorem dX14_pair_66 : decode cX14_pair 66 = .ok (.lcmp, 1) := by decide +kernel
theorem dX14_pair_67 : decode cX14_pair 67 = .ok (.ifCond .le 4, 3) := by decide +kernel
theorem dX14_pair_70 : decode cX14_pair 70 = .ok (.return_, 1) := by decide +kernel
theorem dX14_pair_71 : decode cX14_pair 71 = .ok (.aload_n 0, 1) := by decide +kernel
theorem dX14_pair_72 : decode cX14_pair 72 = .ok (.aload_n 0, 1) := by decide +kernel
theorem dX14_pair_73 : decode cX14_pair 73 = .ok (.getfield 46, 3) := by decide +kernel
theorem dX14_pair_76 : decode cX14_pair 76 = .ok (.iload_n 2, 1) := by decide +kernel
theorem dX14_pair_77 : decode cX14_pair 77 = .ok (.invokevirtual 504, 3) := by decide +kernel
theorem dX14_pair_80 : decode cX14_pair 80 = .ok (.aload_n 0, 1) := by decide +kernel
theorem dX14_pair_81 : decode cX14_pair 81 = .ok (.getfield 82, 3) := by decide +kernel
theorem dX14_pair_84 : decode cX14_pair 84 = .ok (.iconst 0, 1) := by decide +kernel
theorem dX14_pair_85 : decode cX14_pair 85 = .ok (.aload_n 0, 1) := by decide +kernel
theorem dX14_pair_86 : decode cX14_pair 86 = .ok (.getfield 46, 3) := by decide +kernel
theorem dX14_pair_89 : decode cX14_pair 89 = .ok (.iload_n 2, 1) := by decide +kernel
theorem dX14_pair_90 : decode cX14_pair 90 = .ok (.laload, 1) := by decide +kernel
theorem dX14_pair_91 : decode cX14_pair 91 = .ok (.aload_n 0, 1) := by decide +kernel
theorem dX14_pair_92 : decode cX14_pair 92 = .ok (.getfield 46, 3) := by decide +kernel
theorem dX14_pair_95 : decode cX14_pair 95 = .ok (.iload_n 3, 1) := by decide +kernel
theorem dX14_pair_96 : decode cX14_pair 96 = .ok (.laload, 1) := by decide +kernel
theorem dX14_pair_97 : decode cX14_pair 97 = .ok (.invokestatic 466, 3) := by decide +kernel
theorem dX14_pair_100 : decode cX14_pair 100 = .ok (.lastore, 1) := by decide +kernel
theorem dX14_pair_101 : decode cX14_pair 101 = .ok (.aload_n 0, 1) := by decide +kernel
theorem dX14_pair_102 : decode cX14_pair 102 = .ok (.getfield 16, 3) := by decide +kernel
theorem dX14_pair_105 : decode cX14_pair 105 = .ok (.getfield 292, 3) := by decide +kernel
theorem dX14_pair_108 : decode cX14_pair 108 = .ok (.aload_n 0, 1) := by decide +kernel
theorem dX14_pair_109 : decode cX14_pair 109 = .ok (.getfield 16, 3) := by decide +kernel
theorem dX14_pair_112 : decode cX14_pair 112 = .ok (.getfield 323, 3) := by decide +kernel
theorem dX14_pair_115 : decode cX14_pair 115 = .ok (.iload_n 1, 1) := by decide +kernel
theorem dX14_pair_116 : decode cX14_pair 116 = .ok (.iaload, 1) := by decide +kernel
theorem dX14_pair_117 : decode cX14_pair 117 = .ok (.iaload, 1) := by decide +kernel
theorem dX14_pair_118 : decode cX14_pair 118 = .ok (.istore 4, 2) := by decide +kernel
theorem dX14_pair_120 : decode cX14_pair 120 = .ok (.iconst 0, 1) := by decide +kernel
theorem dX14_pair_121 : decode cX14_pair 121 = .ok (.istore 5, 2) := by decide +kernel
theorem dX14_pair_123 : decode cX14_pair 123 = .ok (.iload 5, 2) := by decide +kernel
theorem dX14_pair_125 : decode cX14_pair 125 = .ok (.aload_n 0, 1) := by decide +kernel
theorem dX14_pair_126 : decode cX14_pair 126 = .ok (.getfield 16, 3) := by decide +kernel
theorem dX14_pair_129 : decode cX14_pair 129 = .ok (.getfield 292, 3) := by decide +kernel
theorem dX14_pair_132 : decode cX14_pair 132 = .ok (.aload_n 0, 1) := by decide +kernel
theorem dX14_pair_133 : decode cX14_pair 133 = .ok (.getfield 16, 3) := by decide +kernel
theorem dX14_pair_136 : decode cX14_pair 136 = .ok (.getfield 326, 3) := by decide +kernel
theorem dX14_pair_139 : decode cX14_pair 139 = .ok (.iload_n 1, 1) := by decide +kernel
theorem dX14_pair_140 : decode cX14_pair 140 = .ok (.iaload, 1) := by decide +kernel
theorem dX14_pair_141 : decode cX14_pair 141 = .ok (.iaload, 1) := by decide +kernel
theorem dX14_pair_142 : decode cX14_pair 142 = .ok (.if_icmp .ge 49, 3) := by decide +kernel
theorem dX14_pair_145 : decode cX14_pair 145 = .ok (.iload 5, 2) := by decide +kernel
theorem dX14_pair_147 : decode cX14_pair 147 = .ok (.aload_n 0, 1) := by decide +kernel
theorem dX14_pair_148 : decode cX14_pair 148 = .ok (.getfield 16, 3) := by decide +kernel
theorem dX14_pair_151 : decode cX14_pair 151 = .ok (.getfield 396, 3) := by decide +kernel
theorem dX14_pair_154 : decode cX14_pair 154 = .ok (.iload_n 1, 1) := by decide +kernel
theorem dX14_pair_155 : decode cX14_pair 155 = .ok (.iaload, 1) := by decide +kernel
theorem dX14_pair_156 : decode cX14_pair 156 = .ok (.if_icmp .ne 6, 3) := by decide +kernel
theorem dX14_pair_159 : decode cX14_pair 159 = .ok (.goto 26, 3) := by decide +kernel
theorem dX14_pair_162 : decode cX14_pair 162 = .ok (.aload_n 0, 1) := by decide +kernel
theorem dX14_pair_163 : decode cX14_pair 163 = .ok (.getfield 82, 3) := by decide +kernel
theorem dX14_pair_166 : decode cX14_pair 166 = .ok (.iconst 1, 1) := by decide +kernel
theorem dX14_pair_167 : decode cX14_pair 167 = .ok (.iload 4, 2) := by decide +kernel
theorem dX14_pair_169 : decode cX14_pair 169 = .ok (.iadd, 1) := by decide +kernel
theorem dX14_pair_170 : decode cX14_pair 170 = .ok (.aload_n 0, 1) := by decide +kernel
theorem dX14_pair_171 : decode cX14_pair 171 = .ok (.getfield 46, 3) := by decide +kernel
theorem dX14_pair_174 : decode cX14_pair 174 = .ok (.iload_n 3, 1) := by decide +kernel
theorem dX14_pair_175 : decode cX14_pair 175 = .ok (.iconst 1, 1) := by decide +kernel
theorem dX14_pair_176 : decode cX14_pair 176 = .ok (.iadd, 1) := by decide +kernel
theorem dX14_pair_177 : decode cX14_pair 177 = .ok (.iload 5, 2) := by decide +kernel
theorem dX14_pair_179 : decode cX14_pair 179 = .ok (.iadd, 1) := by decide +kernel
theorem dX14_pair_180 : decode cX14_pair 180 = .ok (.laload, 1) := by decide +kernel
theorem dX14_pair_181 : decode cX14_pair 181 = .ok (.lastore, 1) := by decide +kernel
theorem dX14_pair_182 : decode cX14_pair 182 = .ok (.iinc 4 1, 3) := by decide +kernel
theorem dX14_pair_185 : decode cX14_pair 185 = .ok (.iinc 5 1, 3) := by decide +kernel
theorem dX14_pair_188 : decode cX14_pair 188 = .ok (.goto (-65), 3) := by decide +kernel
theorem dX14_pair_191 : decode cX14_pair 191 = .ok (.aload_n 0, 1) := by decide +kernel
theorem dX14_pair_192 : decode cX14_pair 192 = .ok (.iload_n 1, 1) := by decide +kernel
theorem dX14_pair_193 : decode cX14_pair 193 = .ok (.invokevirtual 498, 3) := by decide +kernel
theorem dX14_pair_196 : decode cX14_pair 196 = .ok (.return_, 1) := by decide +kernel
theorem dX14_doJoin_0 : decode cX14_doJoin 0 = .ok (.aload_n 0, 1) := by decide +kernel
theorem dX14_doJoin_1 : decode cX14_doJoin 1 = .ok (.getfield 16, 3) := by decide +kernel
theorem dX14_doJoin_4 : decode cX14_doJoin 4 = .ok (.getfield 323, 3) := by decide +kernel
theorem dX14_doJoin_7 : decode cX14_doJoin 7 = .ok (.iload_n 1, 1) := by decide +kernel
theorem dX14_doJoin_8 : decode cX14_doJoin 8 = .ok (.iaload, 1) := by decide +kernel
theorem dX14_doJoin_9 : decode cX14_doJoin 9 = .ok (.istore_n 2, 1) := by decide +kernel
theorem dX14_doJoin_10 : decode cX14_doJoin 10 = .ok (.aload_n 0, 1) := by decide +kernel
theorem dX14_doJoin_11 : decode cX14_doJoin 11 = .ok (.getfield 16, 3) := by decide +kernel
