theorem dX14_doJoin_14 : decode cX14_doJoin 14 = .ok (.getfield 326, 3) := by decide +kernel
theorem dX14_doJoin_17 : decode cX14_doJoin 17 = .ok (.iload_n 1, 1) := by decide +kernel
theorem dX14_doJoin_18 : decode cX14_doJoin 18 = .ok (.iaload, 1) := by decide +kernel
theorem dX14_doJoin_19 : decode cX14_doJoin 19 = .ok (.istore_n 3, 1) := by decide +kernel
theorem dX14_doJoin_20 : decode cX14_doJoin 20 = .ok (.aload_n 0, 1) := by decide +kernel
theorem dX14_doJoin_21 : decode cX14_doJoin 21 = .ok (.getfield 55, 3) := by decide +kernel
theorem dX14_doJoin_24 : decode cX14_doJoin 24 = .ok (.iload_n 1, 1) := by decide +kernel
theorem dX14_doJoin_25 : decode cX14_doJoin 25 = .ok (.iaload, 1) := by decide +kernel
theorem dX14_doJoin_26 : decode cX14_doJoin 26 = .ok (.aload_n 0, 1) := by decide +kernel
theorem dX14_doJoin_27 : decode cX14_doJoin 27 = .ok (.getfield 49, 3) := by decide +kernel
theorem dX14_doJoin_30 : decode cX14_doJoin 30 = .ok (.iload_n 2, 1) := by decide +kernel
theorem dX14_doJoin_31 : decode cX14_doJoin 31 = .ok (.iaload, 1) := by decide +kernel
theorem dX14_doJoin_32 : decode cX14_doJoin 32 = .ok (.if_icmp .ge 57, 3) := by decide +kernel
theorem dX14_doJoin_35 : decode cX14_doJoin 35 = .ok (.iconst 0, 1) := by decide +kernel
theorem dX14_doJoin_36 : decode cX14_doJoin 36 = .ok (.istore 4, 2) := by decide +kernel
theorem dX14_doJoin_38 : decode cX14_doJoin 38 = .ok (.iload 4, 2) := by decide +kernel
theorem dX14_doJoin_40 : decode cX14_doJoin 40 = .ok (.aload_n 0, 1) := by decide +kernel
theorem dX14_doJoin_41 : decode cX14_doJoin 41 = .ok (.getfield 58, 3) := by decide +kernel
theorem dX14_doJoin_44 : decode cX14_doJoin 44 = .ok (.iload_n 1, 1) := by decide +kernel
theorem dX14_doJoin_45 : decode cX14_doJoin 45 = .ok (.iaload, 1) := by decide +kernel
theorem dX14_doJoin_46 : decode cX14_doJoin 46 = .ok (.if_icmp .ge 30, 3) := by decide +kernel
theorem dX14_doJoin_49 : decode cX14_doJoin 49 = .ok (.aload_n 0, 1) := by decide +kernel
theorem dX14_doJoin_50 : decode cX14_doJoin 50 = .ok (.iload_n 1, 1) := by decide +kernel
theorem dX14_doJoin_51 : decode cX14_doJoin 51 = .ok (.iload_n 2, 1) := by decide +kernel
theorem dX14_doJoin_52 : decode cX14_doJoin 52 = .ok (.aload_n 0, 1) := by decide +kernel
theorem dX14_doJoin_53 : decode cX14_doJoin 53 = .ok (.getfield 55, 3) := by decide +kernel
theorem dX14_doJoin_56 : decode cX14_doJoin 56 = .ok (.iload_n 1, 1) := by decide +kernel
theorem dX14_doJoin_57 : decode cX14_doJoin 57 = .ok (.iaload, 1) := by decide +kernel
theorem dX14_doJoin_58 : decode cX14_doJoin 58 = .ok (.invokestatic 475, 3) := by decide +kernel
theorem dX14_doJoin_61 : decode cX14_doJoin 61 = .ok (.iload_n 3, 1) := by decide +kernel
theorem dX14_doJoin_62 : decode cX14_doJoin 62 = .ok (.iload 4, 2) := by decide +kernel
theorem dX14_doJoin_64 : decode cX14_doJoin 64 = .ok (.invokestatic 475, 3) := by decide +kernel
theorem dX14_doJoin_67 : decode cX14_doJoin 67 = .ok (.invokevirtual 530, 3) := by decide +kernel
theorem dX14_doJoin_70 : decode cX14_doJoin 70 = .ok (.iinc 4 1, 3) := by decide +kernel
theorem dX14_doJoin_73 : decode cX14_doJoin 73 = .ok (.goto (-35), 3) := by decide +kernel
theorem dX14_doJoin_76 : decode cX14_doJoin 76 = .ok (.aload_n 0, 1) := by decide +kernel
theorem dX14_doJoin_77 : decode cX14_doJoin 77 = .ok (.getfield 55, 3) := by decide +kernel
theorem dX14_doJoin_80 : decode cX14_doJoin 80 = .ok (.iload_n 1, 1) := by decide +kernel
theorem dX14_doJoin_81 : decode cX14_doJoin 81 = .ok (.dup2, 1) := by decide +kernel
theorem dX14_doJoin_82 : decode cX14_doJoin 82 = .ok (.iaload, 1) := by decide +kernel
theorem dX14_doJoin_83 : decode cX14_doJoin 83 = .ok (.iconst 1, 1) := by decide +kernel
theorem dX14_doJoin_84 : decode cX14_doJoin 84 = .ok (.iadd, 1) := by decide +kernel
theorem dX14_doJoin_85 : decode cX14_doJoin 85 = .ok (.iastore, 1) := by decide +kernel
theorem dX14_doJoin_86 : decode cX14_doJoin 86 = .ok (.goto (-66), 3) := by decide +kernel
theorem dX14_doJoin_89 : decode cX14_doJoin 89 = .ok (.aload_n 0, 1) := by decide +kernel
theorem dX14_doJoin_90 : decode cX14_doJoin 90 = .ok (.getfield 58, 3) := by decide +kernel
theorem dX14_doJoin_93 : decode cX14_doJoin 93 = .ok (.iload_n 1, 1) := by decide +kernel
theorem dX14_doJoin_94 : decode cX14_doJoin 94 = .ok (.iaload, 1) := by decide +kernel
theorem dX14_doJoin_95 : decode cX14_doJoin 95 = .ok (.aload_n 0, 1) := by decide +kernel
theorem dX14_doJoin_96 : decode cX14_doJoin 96 = .ok (.getfield 49, 3) := by decide +kernel
theorem dX14_doJoin_99 : decode cX14_doJoin 99 = .ok (.iload_n 3, 1) := by decide +kernel
theorem dX14_doJoin_100 : decode cX14_doJoin 100 = .ok (.iaload, 1) := by decide +kernel
theorem dX14_doJoin_101 : decode cX14_doJoin 101 = .ok (.if_icmp .ge 57, 3) := by decide +kernel
theorem dX14_doJoin_104 : decode cX14_doJoin 104 = .ok (.iconst 0, 1) := by decide +kernel
theorem dX14_doJoin_105 : decode cX14_doJoin 105 = .ok (.istore 4, 2) := by decide +kernel
theorem dX14_doJoin_107 : decode cX14_doJoin 107 = .ok (.iload 4, 2) := by decide +kernel
theorem dX14_doJoin_109 : decode cX14_doJoin 109 = .ok (.aload_n 0, 1) := by decide +kernel
theorem dX14_doJoin_110 : decode cX14_doJoin 110 = .ok (.getfield 49, 3) := by decide +kernel
theorem dX14_doJoin_113 : decode cX14_doJoin 113 = .ok (.iload_n 2, 1) := by decide +kernel
theorem dX14_doJoin_114 : decode cX14_doJoin 114 = .ok (.iaload, 1) := by decide +kernel
theorem dX14_doJoin_115 : decode cX14_doJoin 115 = .ok (.if_icmp .ge 30, 3) := by decide +kernel
theorem dX14_doJoin_118 : decode cX14_doJoin 118 = .ok (.aload_n 0, 1) := by decide +kernel
theorem dX14_doJoin_119 : decode cX14_doJoin 119 = .ok (.iload_n 1, 1) := by decide +kernel
theorem dX14_doJoin_120 : decode cX14_doJoin 120 = .ok (.iload_n 2, 1) := by decide +kernel
theorem dX14_doJoin_121 : decode cX14_doJoin 121 = .ok (.iload 4, 2) := by decide +kernel
theorem dX14_doJoin_123 : decode cX14_doJoin 123 = .ok (.invokestatic 475, 3) := by decide +kernel
theorem dX14_doJoin_126 : decode cX14_doJoin 126 = .ok (.iload_n 3, 1) := by decide +kernel
theorem dX14_doJoin_127 : decode cX14_doJoin 127 = .ok (.aload_n 0, 1) := by decide +kernel
theorem dX14_doJoin_128 : decode cX14_doJoin 128 = .ok (.getfield 58, 3) := by decide +kernel
theorem dX14_doJoin_131 : decode cX14_doJoin 131 = .ok (.iload_n 1, 1) := by decide +kernel
theorem dX14_doJoin_132 : decode cX14_doJoin 132 = .ok (.iaload, 1) := by decide +kernel
theorem dX14_doJoin_133 : decode cX14_doJoin 133 = .ok (.invokestatic 475, 3) := by decide +kernel
theorem dX14_doJoin_136 : decode cX14_doJoin 136 = .ok (.invokevirtual 530, 3) := by decide +kernel
theorem dX14_doJoin_139 : decode cX14_doJoin 139 = .ok (.iinc 4 1, 3) := by decide +kernel
theorem dX14_doJoin_142 : decode cX14_doJoin 142 = .ok (.goto (-35), 3) := by decide +kernel
theorem dX14_doJoin_145 : decode cX14_doJoin 145 = .ok (.aload_n 0, 1) := by decide +kernel
theorem dX14_doJoin_146 : decode cX14_doJoin 146 = .ok (.getfield 58, 3) := by decide +kernel
theorem dX14_doJoin_149 : decode cX14_doJoin 149 = .ok (.iload_n 1, 1) := by decide +kernel
theorem dX14_doJoin_150 : decode cX14_doJoin 150 = .ok (.dup2, 1) := by decide +kernel
theorem dX14_doJoin_151 : decode cX14_doJoin 151 = .ok (.iaload, 1) := by decide +kernel
theorem dX14_doJoin_152 : decode cX14_doJoin 152 = .ok (.iconst 1, 1) := by decide +kernel
theorem dX14_doJoin_153 : decode cX14_doJoin 153 = .ok (.iadd, 1) := by decide +kernel
theorem dX14_doJoin_154 : decode cX14_doJoin 154 = .ok (.iastore, 1) := by decide +kernel
theorem dX14_doJoin_155 : decode cX14_doJoin 155 = .ok (.goto (-66), 3) := by decide +kernel
theorem dX14_doJoin_158 : decode cX14_doJoin 158 = .ok (.return_, 1) := by decide +kernel
theorem dX14_doStep_0 : decode cX14_doStep 0 = .ok (.aload_n 0, 1) := by decide +kernel
theorem dX14_doStep_1 : decode cX14_doStep 1 = .ok (.getfield 16, 3) := by decide +kernel
theorem dX14_doStep_4 : decode cX14_doStep 4 = .ok (.getfield 323, 3) := by decide +kernel
theorem dX14_doStep_7 : decode cX14_doStep 7 = .ok (.iload_n 1, 1) := by decide +kernel
theorem dX14_doStep_8 : decode cX14_doStep 8 = .ok (.iaload, 1) := by decide +kernel
theorem dX14_doStep_9 : decode cX14_doStep 9 = .ok (.istore_n 2, 1) := by decide +kernel
theorem dX14_doStep_10 : decode cX14_doStep 10 = .ok (.aload_n 0, 1) := by decide +kernel
theorem dX14_doStep_11 : decode cX14_doStep 11 = .ok (.getfield 16, 3) := by decide +kernel
theorem dX14_doStep_14 : decode cX14_doStep 14 = .ok (.getfield 326, 3) := by decide +kernel
theorem dX14_doStep_17 : decode cX14_doStep 17 = .ok (.iload_n 1, 1) := by decide +kernel
theorem dX14_doStep_18 : decode cX14_doStep 18 = .ok (.iaload, 1) := by decide +kernel
theorem dX14_doStep_19 : decode cX14_doStep 19 = .ok (.istore_n 3, 1) := by decide +kernel
theorem dX14_doStep_20 : decode cX14_doStep 20 = .ok (.aload_n 0, 1) := by decide +kernel
theorem dX14_doStep_21 : decode cX14_doStep 21 = .ok (.getfield 16, 3) := by decide +kernel
theorem dX14_doStep_24 : decode cX14_doStep 24 = .ok (.getfield 368, 3) := by decide +kernel
theorem dX14_doStep_27 : decode cX14_doStep 27 = .ok (.iload_n 1, 1) := by decide +kernel
theorem dX14_doStep_28 : decode cX14_doStep 28 = .ok (.iaload, 1) := by decide +kernel
theorem dX14_doStep_29 : decode cX14_doStep 29 = .ok (.iconst 5, 1) := by decide +kernel
theorem dX14_doStep_30 : decode cX14_doStep 30 = .ok (.if_icmp .ne 11, 3) := by decide +kernel
theorem dX14_doStep_33 : decode cX14_doStep 33 = .ok (.aload_n 0, 1) := by decide +kernel
theorem dX14_doStep_34 : decode cX14_doStep 34 = .ok (.iload_n 1, 1) := by decide +kernel
theorem dX14_doStep_35 : decode cX14_doStep 35 = .ok (.invokevirtual 533, 3) := by decide +kernel
theorem dX14_doStep_38 : decode cX14_doStep 38 = .ok (.goto 94, 3) := by decide +kernel
theorem dX14_doStep_41 : decode cX14_doStep 41 = .ok (.aload_n 0, 1) := by decide +kernel
theorem dX14_doStep_42 : decode cX14_doStep 42 = .ok (.getfield 55, 3) := by decide +kernel
theorem dX14_doStep_45 : decode cX14_doStep 45 = .ok (.iload_n 1, 1) := by decide +kernel
theorem dX14_doStep_46 : decode cX14_doStep 46 = .ok (.iaload, 1) := by decide +kernel
theorem dX14_doStep_47 : decode cX14_doStep 47 = .ok (.aload_n 0, 1) := by decide +kernel
theorem dX14_doStep_48 : decode cX14_doStep 48 = .ok (.getfield 49, 3) := by decide +kernel
theorem dX14_doStep_51 : decode cX14_doStep 51 = .ok (.iload_n 2, 1) := by decide +kernel
theorem dX14_doStep_52 : decode cX14_doStep 52 = .ok (.iaload, 1) := by decide +kernel
theorem dX14_doStep_53 : decode cX14_doStep 53 = .ok (.if_icmp .ge 31, 3) := by decide +kernel
theorem dX14_doStep_56 : decode cX14_doStep 56 = .ok (.aload_n 0, 1) := by decide +kernel
theorem dX14_doStep_57 : decode cX14_doStep 57 = .ok (.iload_n 1, 1) := by decide +kernel
theorem dX14_doStep_58 : decode cX14_doStep 58 = .ok (.iload_n 2, 1) := by decide +kernel
theorem dX14_doStep_59 : decode cX14_doStep 59 = .ok (.aload_n 0, 1) := by decide +kernel
theorem dX14_doStep_60 : decode cX14_doStep 60 = .ok (.getfield 55, 3) := by decide +kernel
theorem dX14_doStep_63 : decode cX14_doStep 63 = .ok (.iload_n 1, 1) := by decide +kernel
theorem dX14_doStep_64 : decode cX14_doStep 64 = .ok (.iaload, 1) := by decide +kernel
theorem dX14_doStep_65 : decode cX14_doStep 65 = .ok (.invokestatic 475, 3) := by decide +kernel
theorem dX14_doStep_68 : decode cX14_doStep 68 = .ok (.invokevirtual 536, 3) := by decide +kernel
theorem dX14_doStep_71 : decode cX14_doStep 71 = .ok (.aload_n 0, 1) := by decide +kernel
theorem dX14_doStep_72 : decode cX14_doStep 72 = .ok (.getfield 55, 3) := by decide +kernel
theorem dX14_doStep_75 : decode cX14_doStep 75 = .ok (.iload_n 1, 1) := by decide +kernel
theorem dX14_doStep_76 : decode cX14_doStep 76 = .ok (.dup2, 1) := by decide +kernel
theorem dX14_doStep_77 : decode cX14_doStep 77 = .ok (.iaload, 1) := by decide +kernel
theorem dX14_doStep_78 : decode cX14_doStep 78 = .ok (.iconst 1, 1) := by decide +kernel
theorem dX14_doStep_79 : decode cX14_doStep 79 = .ok (.iadd, 1) := by decide +kernel
theorem dX14_doStep_80 : decode cX14_doStep 80 = .ok (.iastore, 1) := by decide +kernel
theorem dX14_doStep_81 : decode cX14_doStep 81 = .ok (.goto (-40), 3) := by decide +kernel
theorem dX14_doStep_84 : decode cX14_doStep 84 = .ok (.iload_n 3, 1) := by decide +kernel
theorem dX14_doStep_85 : decode cX14_doStep 85 = .ok (.iconst (-1), 1) := by decide +kernel
theorem dX14_doStep_86 : decode cX14_doStep 86 = .ok (.if_icmp .eq 46, 3) := by decide +kernel
theorem dX14_doStep_89 : decode cX14_doStep 89 = .ok (.aload_n 0, 1) := by decide +kernel
theorem dX14_doStep_90 : decode cX14_doStep 90 = .ok (.getfield 58, 3) := by decide +kernel
theorem dX14_doStep_93 : decode cX14_doStep 93 = .ok (.iload_n 1, 1) := by decide +kernel
theorem dX14_doStep_94 : decode cX14_doStep 94 = .ok (.iaload, 1) := by decide +kernel
theorem dX14_doStep_95 : decode cX14_doStep 95 = .ok (.aload_n 0, 1) := by decide +kernel
theorem dX14_doStep_96 : decode cX14_doStep 96 = .ok (.getfield 49, 3) := by decide +kernel
theorem dX14_doStep_99 : decode cX14_doStep 99 = .ok (.iload_n 3, 1) := by decide +kernel
theorem dX14_doStep_100 : decode cX14_doStep 100 = .ok (.iaload, 1) := by decide +kernel
theorem dX14_doStep_101 : decode cX14_doStep 101 = .ok (.if_icmp .ge 31, 3) := by decide +kernel
theorem dX14_doStep_104 : decode cX14_doStep 104 = .ok (.aload_n 0, 1) := by decide +kernel
theorem dX14_doStep_105 : decode cX14_doStep 105 = .ok (.iload_n 1, 1) := by decide +kernel
theorem dX14_doStep_106 : decode cX14_doStep 106 = .ok (.iload_n 3, 1) := by decide +kernel
theorem dX14_doStep_107 : decode cX14_doStep 107 = .ok (.aload_n 0, 1) := by decide +kernel
theorem dX14_doStep_108 : decode cX14_doStep 108 = .ok (.getfield 58, 3) := by decide +kernel
theorem dX14_doStep_111 : decode cX14_doStep 111 = .ok (.iload_n 1, 1) := by decide +kernel
theorem dX14_doStep_112 : decode cX14_doStep 112 = .ok (.iaload, 1) := by decide +kernel
theorem dX14_doStep_113 : decode cX14_doStep 113 = .ok (.invokestatic 475, 3) := by decide +kernel
theorem dX14_doStep_116 : decode cX14_doStep 116 = .ok (.invokevirtual 536, 3) := by decide +kernel
theorem dX14_doStep_119 : decode cX14_doStep 119 = .ok (.aload_n 0, 1) := by decide +kernel
theorem dX14_doStep_120 : decode cX14_doStep 120 = .ok (.getfield 58, 3) := by decide +kernel
theorem dX14_doStep_123 : decode cX14_doStep 123 = .ok (.iload_n 1, 1) := by decide +kernel
theorem dX14_doStep_124 : decode cX14_doStep 124 = .ok (.dup2, 1) := by decide +kernel
theorem dX14_doStep_125 : decode cX14_doStep 125 = .ok (.iaload, 1) := by decide +kernel
theorem dX14_doStep_126 : decode cX14_doStep 126 = .ok (.iconst 1, 1) := by decide +kernel
theorem dX14_doStep_127 : decode cX14_doStep 127 = .ok (.iadd, 1) := by decide +kernel
theorem dX14_doStep_128 : decode cX14_doStep 128 = .ok (.iastore, 1) := by decide +kernel
theorem dX14_doStep_129 : decode cX14_doStep 129 = .ok (.goto (-45), 3) := by decide +kernel
theorem dX14_doStep_132 : decode cX14_doStep 132 = .ok (.aload_n 0, 1) := by decide +kernel
theorem dX14_doStep_133 : decode cX14_doStep 133 = .ok (.getfield 52, 3) := by decide +kernel
theorem dX14_doStep_136 : decode cX14_doStep 136 = .ok (.iload_n 1, 1) := by decide +kernel
theorem dX14_doStep_137 : decode cX14_doStep 137 = .ok (.iload_n 3, 1) := by decide +kernel
theorem dX14_doStep_138 : decode cX14_doStep 138 = .ok (.iconst (-1), 1) := by decide +kernel
theorem dX14_doStep_139 : decode cX14_doStep 139 = .ok (.if_icmp .ne 12, 3) := by decide +kernel
theorem dX14_doStep_142 : decode cX14_doStep 142 = .ok (.aload_n 0, 1) := by decide +kernel
theorem dX14_doStep_143 : decode cX14_doStep 143 = .ok (.getfield 52, 3) := by decide +kernel
theorem dX14_doStep_146 : decode cX14_doStep 146 = .ok (.iload_n 2, 1) := by decide +kernel
theorem dX14_doStep_147 : decode cX14_doStep 147 = .ok (.iaload, 1) := by decide +kernel
theorem dX14_doStep_148 : decode cX14_doStep 148 = .ok (.goto 18, 3) := by decide +kernel
theorem dX14_doStep_151 : decode cX14_doStep 151 = .ok (.aload_n 0, 1) := by decide +kernel
theorem dX14_doStep_152 : decode cX14_doStep 152 = .ok (.getfield 52, 3) := by decide +kernel
theorem dX14_doStep_155 : decode cX14_doStep 155 = .ok (.iload_n 2, 1) := by decide +kernel
theorem dX14_doStep_156 : decode cX14_doStep 156 = .ok (.iaload, 1) := by decide +kernel
theorem dX14_doStep_157 : decode cX14_doStep 157 = .ok (.aload_n 0, 1) := by decide +kernel
theorem dX14_doStep_158 : decode cX14_doStep 158 = .ok (.getfield 52, 3) := by decide +kernel
theorem dX14_doStep_161 : decode cX14_doStep 161 = .ok (.iload_n 3, 1) := by decide +kernel
theorem dX14_doStep_162 : decode cX14_doStep 162 = .ok (.iaload, 1) := by decide +kernel
theorem dX14_doStep_163 : decode cX14_doStep 163 = .ok (.invokestatic 539, 3) := by decide +kernel
theorem dX14_doStep_166 : decode cX14_doStep 166 = .ok (.iastore, 1) := by decide +kernel
theorem dX14_doStep_167 : decode cX14_doStep 167 = .ok (.aload_n 0, 1) := by decide +kernel
theorem dX14_doStep_168 : decode cX14_doStep 168 = .ok (.getfield 16, 3) := by decide +kernel
theorem dX14_doStep_171 : decode cX14_doStep 171 = .ok (.getfield 368, 3) := by decide +kernel
theorem dX14_doStep_174 : decode cX14_doStep 174 = .ok (.iload_n 1, 1) := by decide +kernel
theorem dX14_doStep_175 : decode cX14_doStep 175 = .ok (.iaload, 1) := by decide +kernel
theorem dX14_doStep_176 : decode cX14_doStep 176 = .ok (.bipush 7, 2) := by decide +kernel
theorem dX14_doStep_178 : decode cX14_doStep 178 = .ok (.if_icmp .ne 8, 3) := by decide +kernel
theorem dX14_doStep_181 : decode cX14_doStep 181 = .ok (.aload_n 0, 1) := by decide +kernel
theorem dX14_doStep_182 : decode cX14_doStep 182 = .ok (.iload_n 1, 1) := by decide +kernel
theorem dX14_doStep_183 : decode cX14_doStep 183 = .ok (.invokevirtual 541, 3) := by decide +kernel
theorem dX14_doStep_186 : decode cX14_doStep 186 = .ok (.return_, 1) := by decide +kernel
theorem dX14_doSteps_0 : decode cX14_doSteps 0 = .ok (.iconst 0, 1) := by decide +kernel
theorem dX14_doSteps_1 : decode cX14_doSteps 1 = .ok (.istore_n 1, 1) := by decide +kernel
theorem dX14_doSteps_2 : decode cX14_doSteps 2 = .ok (.iload_n 1, 1) := by decide +kernel
theorem dX14_doSteps_3 : decode cX14_doSteps 3 = .ok (.aload_n 0, 1) := by decide +kernel
theorem dX14_doSteps_4 : decode cX14_doSteps 4 = .ok (.getfield 16, 3) := by decide +kernel
theorem dX14_doSteps_7 : decode cX14_doSteps 7 = .ok (.getfield 298, 3) := by decide +kernel
theorem dX14_doSteps_10 : decode cX14_doSteps 10 = .ok (.if_icmp .ge 26, 3) := by decide +kernel
theorem dX14_doSteps_13 : decode cX14_doSteps 13 = .ok (.aload_n 0, 1) := by decide +kernel
theorem dX14_doSteps_14 : decode cX14_doSteps 14 = .ok (.getfield 16, 3) := by decide +kernel
theorem dX14_doSteps_17 : decode cX14_doSteps 17 = .ok (.getfield 368, 3) := by decide +kernel
theorem dX14_doSteps_20 : decode cX14_doSteps 20 = .ok (.iload_n 1, 1) := by decide +kernel
theorem dX14_doSteps_21 : decode cX14_doSteps 21 = .ok (.iaload, 1) := by decide +kernel
theorem dX14_doSteps_22 : decode cX14_doSteps 22 = .ok (.ifCond .eq 8, 3) := by decide +kernel
theorem dX14_doSteps_25 : decode cX14_doSteps 25 = .ok (.aload_n 0, 1) := by decide +kernel
theorem dX14_doSteps_26 : decode cX14_doSteps 26 = .ok (.iload_n 1, 1) := by decide +kernel
theorem dX14_doSteps_27 : decode cX14_doSteps 27 = .ok (.invokevirtual 544, 3) := by decide +kernel
theorem dX14_doSteps_30 : decode cX14_doSteps 30 = .ok (.iinc 1 1, 3) := by decide +kernel
theorem dX14_doSteps_33 : decode cX14_doSteps 33 = .ok (.goto (-31), 3) := by decide +kernel
theorem dX14_doSteps_36 : decode cX14_doSteps 36 = .ok (.return_, 1) := by decide +kernel
theorem dX14_write_0 : decode cX14_write 0 = .ok (.aload_n 0, 1) := by decide +kernel
theorem dX14_write_1 : decode cX14_write 1 = .ok (.getfield 104, 3) := by decide +kernel
theorem dX14_write_4 : decode cX14_write 4 = .ok (.aload_n 0, 1) := by decide +kernel
theorem dX14_write_5 : decode cX14_write 5 = .ok (.getfield 437, 3) := by decide +kernel
theorem dX14_write_8 : decode cX14_write 8 = .ok (.iload_n 1, 1) := by decide +kernel
theorem dX14_write_9 : decode cX14_write 9 = .ok (.iastore, 1) := by decide +kernel
theorem dX14_write_10 : decode cX14_write 10 = .ok (.aload_n 0, 1) := by decide +kernel
theorem dX14_write_11 : decode cX14_write 11 = .ok (.getfield 107, 3) := by decide +kernel
theorem dX14_write_14 : decode cX14_write 14 = .ok (.aload_n 0, 1) := by decide +kernel
theorem dX14_write_15 : decode cX14_write 15 = .ok (.getfield 437, 3) := by decide +kernel
theorem dX14_write_18 : decode cX14_write 18 = .ok (.iload_n 2, 1) := by decide +kernel
theorem dX14_write_19 : decode cX14_write 19 = .ok (.iastore, 1) := by decide +kernel
theorem dX14_write_20 : decode cX14_write 20 = .ok (.aload_n 0, 1) := by decide +kernel
theorem dX14_write_21 : decode cX14_write 21 = .ok (.dup, 1) := by decide +kernel
theorem dX14_write_22 : decode cX14_write 22 = .ok (.getfield 437, 3) := by decide +kernel
theorem dX14_write_25 : decode cX14_write 25 = .ok (.iconst 1, 1) := by decide +kernel
theorem dX14_write_26 : decode cX14_write 26 = .ok (.iadd, 1) := by decide +kernel
theorem dX14_write_27 : decode cX14_write 27 = .ok (.putfield 437, 3) := by decide +kernel
theorem dX14_write_30 : decode cX14_write 30 = .ok (.return_, 1) := by decide +kernel
theorem dX14_value_0 : decode cX14_value 0 = .ok (.aload_n 0, 1) := by decide +kernel
theorem dX14_value_1 : decode cX14_value 1 = .ok (.iconst 0, 1) := by decide +kernel
theorem dX14_value_2 : decode cX14_value 2 = .ok (.putfield 149, 3) := by decide +kernel
theorem dX14_value_5 : decode cX14_value 5 = .ok (.aload_n 0, 1) := by decide +kernel
theorem dX14_value_6 : decode cX14_value 6 = .ok (.getfield 547, 3) := by decide +kernel
theorem dX14_value_9 : decode cX14_value 9 = .ok (.bipush 6, 2) := by decide +kernel
theorem dX14_value_11 : decode cX14_value 11 = .ok (.if_icmp .ne 9, 3) := by decide +kernel
theorem dX14_value_14 : decode cX14_value 14 = .ok (.aload_n 0, 1) := by decide +kernel
theorem dX14_value_15 : decode cX14_value 15 = .ok (.iconst 1, 1) := by decide +kernel
theorem dX14_value_16 : decode cX14_value 16 = .ok (.invokevirtual 155, 3) := by decide +kernel
theorem dX14_value_19 : decode cX14_value 19 = .ok (.ireturn, 1) := by decide +kernel
theorem dX14_value_20 : decode cX14_value 20 = .ok (.aload_n 0, 1) := by decide +kernel
theorem dX14_value_21 : decode cX14_value 21 = .ok (.getfield 122, 3) := by decide +kernel
theorem dX14_value_24 : decode cX14_value 24 = .ok (.aload_n 0, 1) := by decide +kernel
theorem dX14_value_25 : decode cX14_value 25 = .ok (.getfield 547, 3) := by decide +kernel
theorem dX14_value_28 : decode cX14_value 28 = .ok (.lload_n 1, 1) := by decide +kernel
theorem dX14_value_29 : decode cX14_value 29 = .ok (.lastore, 1) := by decide +kernel
theorem dX14_value_30 : decode cX14_value 30 = .ok (.aload_n 0, 1) := by decide +kernel
theorem dX14_value_31 : decode cX14_value 31 = .ok (.dup, 1) := by decide +kernel
theorem dX14_value_32 : decode cX14_value 32 = .ok (.getfield 547, 3) := by decide +kernel
theorem dX14_value_35 : decode cX14_value 35 = .ok (.iconst 1, 1) := by decide +kernel
theorem dX14_value_36 : decode cX14_value 36 = .ok (.iadd, 1) := by decide +kernel
theorem dX14_value_37 : decode cX14_value 37 = .ok (.putfield 547, 3) := by decide +kernel
theorem dX14_value_40 : decode cX14_value 40 = .ok (.aload_n 0, 1) := by decide +kernel
theorem dX14_value_41 : decode cX14_value 41 = .ok (.getfield 547, 3) := by decide +kernel
theorem dX14_value_44 : decode cX14_value 44 = .ok (.ireturn, 1) := by decide +kernel
theorem dX14_forget_0 : decode cX14_forget 0 = .ok (.aload_n 0, 1) := by decide +kernel
theorem dX14_forget_1 : decode cX14_forget 1 = .ok (.iconst 0, 1) := by decide +kernel
theorem dX14_forget_2 : decode cX14_forget 2 = .ok (.putfield 149, 3) := by decide +kernel
theorem dX14_forget_5 : decode cX14_forget 5 = .ok (.aload_n 0, 1) := by decide +kernel
theorem dX14_forget_6 : decode cX14_forget 6 = .ok (.getfield 547, 3) := by decide +kernel
theorem dX14_forget_9 : decode cX14_forget 9 = .ok (.istore_n 1, 1) := by decide +kernel
theorem dX14_forget_10 : decode cX14_forget 10 = .ok (.aload_n 0, 1) := by decide +kernel
theorem dX14_forget_11 : decode cX14_forget 11 = .ok (.iconst 0, 1) := by decide +kernel
theorem dX14_forget_12 : decode cX14_forget 12 = .ok (.putfield 547, 3) := by decide +kernel
theorem dX14_forget_15 : decode cX14_forget 15 = .ok (.iload_n 1, 1) := by decide +kernel
theorem dX14_forget_16 : decode cX14_forget 16 = .ok (.ireturn, 1) := by decide +kernel
theorem dX14_doPush_0 : decode cX14_doPush 0 = .ok (.aload_n 0, 1) := by decide +kernel
theorem dX14_doPush_1 : decode cX14_doPush 1 = .ok (.getfield 82, 3) := by decide +kernel
theorem dX14_doPush_4 : decode cX14_doPush 4 = .ok (.iconst 0, 1) := by decide +kernel
theorem dX14_doPush_5 : decode cX14_doPush 5 = .ok (.iload_n 2, 1) := by decide +kernel
theorem dX14_doPush_6 : decode cX14_doPush 6 = .ok (.i2l, 1) := by decide +kernel
theorem dX14_doPush_7 : decode cX14_doPush 7 = .ok (.lastore, 1) := by decide +kernel
theorem dX14_doPush_8 : decode cX14_doPush 8 = .ok (.iconst 0, 1) := by decide +kernel
theorem dX14_doPush_9 : decode cX14_doPush 9 = .ok (.istore 5, 2) := by decide +kernel
theorem dX14_doPush_11 : decode cX14_doPush 11 = .ok (.iload 5, 2) := by decide +kernel
theorem dX14_doPush_13 : decode cX14_doPush 13 = .ok (.bipush 6, 2) := by decide +kernel
theorem dX14_doPush_15 : decode cX14_doPush 15 = .ok (.if_icmp .ge 43, 3) := by decide +kernel
theorem dX14_doPush_18 : decode cX14_doPush 18 = .ok (.aload_n 0, 1) := by decide +kernel
theorem dX14_doPush_19 : decode cX14_doPush 19 = .ok (.getfield 82, 3) := by decide +kernel
theorem dX14_doPush_22 : decode cX14_doPush 22 = .ok (.iconst 1, 1) := by decide +kernel
theorem dX14_doPush_23 : decode cX14_doPush 23 = .ok (.iload 5, 2) := by decide +kernel
theorem dX14_doPush_25 : decode cX14_doPush 25 = .ok (.iadd, 1) := by decide +kernel
theorem dX14_doPush_26 : decode cX14_doPush 26 = .ok (.iload 5, 2) := by decide +kernel
theorem dX14_doPush_28 : decode cX14_doPush 28 = .ok (.aload_n 0, 1) := by decide +kernel
theorem dX14_doPush_29 : decode cX14_doPush 29 = .ok (.getfield 16, 3) := by decide +kernel
theorem dX14_doPush_32 : decode cX14_doPush 32 = .ok (.getfield 292, 3) := by decide +kernel
theorem dX14_doPush_35 : decode cX14_doPush 35 = .ok (.iload_n 1, 1) := by decide +kernel
theorem dX14_doPush_36 : decode cX14_doPush 36 = .ok (.iaload, 1) := by decide +kernel
theorem dX14_doPush_37 : decode cX14_doPush 37 = .ok (.if_icmp .ge 13, 3) := by decide +kernel
theorem dX14_doPush_40 : decode cX14_doPush 40 = .ok (.aload_n 3, 1) := by decide +kernel
theorem dX14_doPush_41 : decode cX14_doPush 41 = .ok (.iload 4, 2) := by decide +kernel
theorem dX14_doPush_43 : decode cX14_doPush 43 = .ok (.iload 5, 2) := by decide +kernel
theorem dX14_doPush_45 : decode cX14_doPush 45 = .ok (.iadd, 1) := by decide +kernel
theorem dX14_doPush_46 : decode cX14_doPush 46 = .ok (.laload, 1) := by decide +kernel
theorem dX14_doPush_47 : decode cX14_doPush 47 = .ok (.goto 4, 3) := by decide +kernel
theorem dX14_doPush_50 : decode cX14_doPush 50 = .ok (.lconst 0, 1) := by decide +kernel
theorem dX14_doPush_51 : decode cX14_doPush 51 = .ok (.lastore, 1) := by decide +kernel
theorem dX14_doPush_52 : decode cX14_doPush 52 = .ok (.iinc 5 1, 3) := by decide +kernel
theorem dX14_doPush_55 : decode cX14_doPush 55 = .ok (.goto (-44), 3) := by decide +kernel
theorem dX14_doPush_58 : decode cX14_doPush 58 = .ok (.aload_n 0, 1) := by decide +kernel
theorem dX14_doPush_59 : decode cX14_doPush 59 = .ok (.iconst 0, 1) := by decide +kernel
theorem dX14_doPush_60 : decode cX14_doPush 60 = .ok (.putfield 478, 3) := by decide +kernel
theorem dX14_doPush_63 : decode cX14_doPush 63 = .ok (.aload_n 0, 1) := by decide +kernel
theorem dX14_doPush_64 : decode cX14_doPush 64 = .ok (.dup, 1) := by decide +kernel
theorem dX14_doPush_65 : decode cX14_doPush 65 = .ok (.getfield 459, 3) := by decide +kernel
theorem dX14_doPush_68 : decode cX14_doPush 68 = .ok (.iconst 1, 1) := by decide +kernel
theorem dX14_doPush_69 : decode cX14_doPush 69 = .ok (.iadd, 1) := by decide +kernel
theorem dX14_doPush_70 : decode cX14_doPush 70 = .ok (.putfield 459, 3) := by decide +kernel
theorem dX14_doPush_73 : decode cX14_doPush 73 = .ok (.aload_n 0, 1) := by decide +kernel
theorem dX14_doPush_74 : decode cX14_doPush 74 = .ok (.getfield 52, 3) := by decide +kernel
theorem dX14_doPush_77 : decode cX14_doPush 77 = .ok (.iload_n 1, 1) := by decide +kernel
theorem dX14_doPush_78 : decode cX14_doPush 78 = .ok (.aload_n 0, 1) := by decide +kernel
theorem dX14_doPush_79 : decode cX14_doPush 79 = .ok (.getfield 52, 3) := by decide +kernel
theorem dX14_doPush_82 : decode cX14_doPush 82 = .ok (.iload_n 1, 1) := by decide +kernel
theorem dX14_doPush_83 : decode cX14_doPush 83 = .ok (.iaload, 1) := by decide +kernel
theorem dX14_doPush_84 : decode cX14_doPush 84 = .ok (.iconst (-1), 1) := by decide +kernel
theorem dX14_doPush_85 : decode cX14_doPush 85 = .ok (.iload_n 2, 1) := by decide +kernel
theorem dX14_doPush_86 : decode cX14_doPush 86 = .ok (.aload_n 0, 1) := by decide +kernel
theorem dX14_doPush_87 : decode cX14_doPush 87 = .ok (.getfield 16, 3) := by decide +kernel
theorem dX14_doPush_90 : decode cX14_doPush 90 = .ok (.getfield 369, 3) := by decide +kernel
theorem dX14_doPush_93 : decode cX14_doPush 93 = .ok (.iload_n 1, 1) := by decide +kernel
theorem dX14_doPush_94 : decode cX14_doPush 94 = .ok (.iaload, 1) := by decide +kernel
theorem dX14_doPush_95 : decode cX14_doPush 95 = .ok (.isub, 1) := by decide +kernel
theorem dX14_doPush_96 : decode cX14_doPush 96 = .ok (.invokestatic 550, 3) := by decide +kernel
theorem dX14_doPush_99 : decode cX14_doPush 99 = .ok (.invokestatic 550, 3) := by decide +kernel
theorem dX14_doPush_102 : decode cX14_doPush 102 = .ok (.iastore, 1) := by decide +kernel
theorem dX14_doPush_103 : decode cX14_doPush 103 = .ok (.aload_n 0, 1) := by decide +kernel
theorem dX14_doPush_104 : decode cX14_doPush 104 = .ok (.iload_n 1, 1) := by decide +kernel
theorem dX14_doPush_105 : decode cX14_doPush 105 = .ok (.invokevirtual 498, 3) := by decide +kernel
theorem dX14_doPush_108 : decode cX14_doPush 108 = .ok (.aload_n 0, 1) := by decide +kernel
theorem dX14_doPush_109 : decode cX14_doPush 109 = .ok (.invokevirtual 552, 3) := by decide +kernel
theorem dX14_doPush_112 : decode cX14_doPush 112 = .ok (.aload_n 0, 1) := by decide +kernel
theorem dX14_doPush_113 : decode cX14_doPush 113 = .ok (.getfield 478, 3) := by decide +kernel
theorem dX14_doPush_116 : decode cX14_doPush 116 = .ok (.ireturn, 1) := by decide +kernel
theorem dX14_push_0 : decode cX14_push 0 = .ok (.aload_n 0, 1) := by decide +kernel
theorem dX14_push_1 : decode cX14_push 1 = .ok (.iconst 0, 1) := by decide +kernel
theorem dX14_push_2 : decode cX14_push 2 = .ok (.putfield 149, 3) := by decide +kernel
theorem dX14_push_5 : decode cX14_push 5 = .ok (.aload_n 0, 1) := by decide +kernel
theorem dX14_push_6 : decode cX14_push 6 = .ok (.iload_n 1, 1) := by decide +kernel
theorem dX14_push_7 : decode cX14_push 7 = .ok (.invokevirtual 448, 3) := by decide +kernel
theorem dX14_push_10 : decode cX14_push 10 = .ok (.ifCond .ne 9, 3) := by decide +kernel
theorem dX14_push_13 : decode cX14_push 13 = .ok (.aload_n 0, 1) := by decide +kernel
theorem dX14_push_14 : decode cX14_push 14 = .ok (.iconst 1, 1) := by decide +kernel
theorem dX14_push_15 : decode cX14_push 15 = .ok (.invokevirtual 155, 3) := by decide +kernel
theorem dX14_push_18 : decode cX14_push 18 = .ok (.ireturn, 1) := by decide +kernel
theorem dX14_push_19 : decode cX14_push 19 = .ok (.aload_n 0, 1) := by decide +kernel
theorem dX14_push_20 : decode cX14_push 20 = .ok (.getfield 16, 3) := by decide +kernel
theorem dX14_push_23 : decode cX14_push 23 = .ok (.getfield 368, 3) := by decide +kernel
theorem dX14_push_26 : decode cX14_push 26 = .ok (.iload_n 1, 1) := by decide +kernel
theorem dX14_push_27 : decode cX14_push 27 = .ok (.iaload, 1) := by decide +kernel
theorem dX14_push_28 : decode cX14_push 28 = .ok (.ifCond .ne 31, 3) := by decide +kernel
theorem dX14_push_31 : decode cX14_push 31 = .ok (.iload_n 2, 1) := by decide +kernel
theorem dX14_push_32 : decode cX14_push 32 = .ok (.i2l, 1) := by decide +kernel
theorem dX14_push_33 : decode cX14_push 33 = .ok (.lconst 0, 1) := by decide +kernel
theorem dX14_push_34 : decode cX14_push 34 = .ok (.ldc2_w 555, 3) := by decide +kernel
theorem dX14_push_37 : decode cX14_push 37 = .ok (.invokestatic 163, 3) := by decide +kernel
theorem dX14_push_40 : decode cX14_push 40 = .ok (.ifCond .eq 19, 3) := by decide +kernel
theorem dX14_push_43 : decode cX14_push 43 = .ok (.aload_n 0, 1) := by decide +kernel
theorem dX14_push_44 : decode cX14_push 44 = .ok (.getfield 547, 3) := by decide +kernel
theorem dX14_push_47 : decode cX14_push 47 = .ok (.aload_n 0, 1) := by decide +kernel
theorem dX14_push_48 : decode cX14_push 48 = .ok (.getfield 16, 3) := by decide +kernel
theorem dX14_push_51 : decode cX14_push 51 = .ok (.getfield 292, 3) := by decide +kernel
theorem dX14_push_54 : decode cX14_push 54 = .ok (.iload_n 1, 1) := by decide +kernel
theorem dX14_push_55 : decode cX14_push 55 = .ok (.iaload, 1) := by decide +kernel
theorem dX14_push_56 : decode cX14_push 56 = .ok (.if_icmp .eq 9, 3) := by decide +kernel
theorem dX14_push_59 : decode cX14_push 59 = .ok (.aload_n 0, 1) := by decide +kernel
theorem dX14_push_60 : decode cX14_push 60 = .ok (.iconst 2, 1) := by decide +kernel
theorem dX14_push_61 : decode cX14_push 61 = .ok (.invokevirtual 155, 3) := by decide +kernel
theorem dX14_push_64 : decode cX14_push 64 = .ok (.ireturn, 1) := by decide +kernel
theorem dX14_push_65 : decode cX14_push 65 = .ok (.aload_n 0, 1) := by decide +kernel
theorem dX14_push_66 : decode cX14_push 66 = .ok (.getfield 456, 3) := by decide +kernel
theorem dX14_push_69 : decode cX14_push 69 = .ok (.ifCond .ne 13, 3) := by decide +kernel
theorem dX14_push_72 : decode cX14_push 72 = .ok (.aload_n 0, 1) := by decide +kernel
theorem dX14_push_73 : decode cX14_push 73 = .ok (.getfield 437, 3) := by decide +kernel
theorem dX14_push_76 : decode cX14_push 76 = .ok (.sipush 200, 3) := by decide +kernel
theorem dX14_push_79 : decode cX14_push 79 = .ok (.if_icmp .ne 9, 3) := by decide +kernel
theorem dX14_push_82 : decode cX14_push 82 = .ok (.aload_n 0, 1) := by decide +kernel
theorem dX14_push_83 : decode cX14_push 83 = .ok (.iconst 3, 1) := by decide +kernel
theorem dX14_push_84 : decode cX14_push 84 = .ok (.invokevirtual 155, 3) := by decide +kernel
theorem dX14_push_87 : decode cX14_push 87 = .ok (.ireturn, 1) := by decide +kernel
theorem dX14_push_88 : decode cX14_push 88 = .ok (.aload_n 0, 1) := by decide +kernel
theorem dX14_push_89 : decode cX14_push 89 = .ok (.getfield 113, 3) := by decide +kernel
theorem dX14_push_92 : decode cX14_push 92 = .ok (.aload_n 0, 1) := by decide +kernel
theorem dX14_push_93 : decode cX14_push 93 = .ok (.getfield 437, 3) := by decide +kernel
theorem dX14_push_96 : decode cX14_push 96 = .ok (.aload_n 0, 1) := by decide +kernel
theorem dX14_push_97 : decode cX14_push 97 = .ok (.getfield 16, 3) := by decide +kernel
theorem dX14_push_100 : decode cX14_push 100 = .ok (.getfield 295, 3) := by decide +kernel
theorem dX14_push_103 : decode cX14_push 103 = .ok (.iload_n 1, 1) := by decide +kernel
theorem dX14_push_104 : decode cX14_push 104 = .ok (.laload, 1) := by decide +kernel
theorem dX14_push_105 : decode cX14_push 105 = .ok (.lastore, 1) := by decide +kernel
theorem dX14_push_106 : decode cX14_push 106 = .ok (.aload_n 0, 1) := by decide +kernel
theorem dX14_push_107 : decode cX14_push 107 = .ok (.getfield 110, 3) := by decide +kernel
theorem dX14_push_110 : decode cX14_push 110 = .ok (.aload_n 0, 1) := by decide +kernel
theorem dX14_push_111 : decode cX14_push 111 = .ok (.getfield 437, 3) := by decide +kernel
theorem dX14_push_114 : decode cX14_push 114 = .ok (.aload_n 0, 1) := by decide +kernel
theorem dX14_push_115 : decode cX14_push 115 = .ok (.getfield 547, 3) := by decide +kernel
theorem dX14_push_118 : decode cX14_push 118 = .ok (.iastore, 1) := by decide +kernel
theorem dX14_push_119 : decode cX14_push 119 = .ok (.aload_n 0, 1) := by decide +kernel
theorem dX14_push_120 : decode cX14_push 120 = .ok (.getfield 122, 3) := by decide +kernel
theorem dX14_push_123 : decode cX14_push 123 = .ok (.iconst 0, 1) := by decide +kernel
theorem dX14_push_124 : decode cX14_push 124 = .ok (.aload_n 0, 1) := by decide +kernel
theorem dX14_push_125 : decode cX14_push 125 = .ok (.getfield 116, 3) := by decide +kernel
theorem dX14_push_128 : decode cX14_push 128 = .ok (.bipush 6, 2) := by decide +kernel
theorem dX14_push_130 : decode cX14_push 130 = .ok (.aload_n 0, 1) := by decide +kernel
theorem dX14_push_131 : decode cX14_push 131 = .ok (.getfield 437, 3) := by decide +kernel
theorem dX14_push_134 : decode cX14_push 134 = .ok (.imul, 1) := by decide +kernel
theorem dX14_push_135 : decode cX14_push 135 = .ok (.bipush 6, 2) := by decide +kernel
theorem dX14_push_137 : decode cX14_push 137 = .ok (.invokestatic 469, 3) := by decide +kernel
theorem dX14_push_140 : decode cX14_push 140 = .ok (.aload_n 0, 1) := by decide +kernel
theorem dX14_push_141 : decode cX14_push 141 = .ok (.iconst 0, 1) := by decide +kernel
theorem dX14_push_142 : decode cX14_push 142 = .ok (.iload_n 2, 1) := by decide +kernel
theorem dX14_push_143 : decode cX14_push 143 = .ok (.invokevirtual 557, 3) := by decide +kernel
theorem dX14_push_146 : decode cX14_push 146 = .ok (.aload_n 0, 1) := by decide +kernel
theorem dX14_push_147 : decode cX14_push 147 = .ok (.iconst 0, 1) := by decide +kernel
theorem dX14_push_148 : decode cX14_push 148 = .ok (.putfield 547, 3) := by decide +kernel
theorem dX14_push_151 : decode cX14_push 151 = .ok (.aload_n 0, 1) := by decide +kernel
theorem dX14_push_152 : decode cX14_push 152 = .ok (.iload_n 1, 1) := by decide +kernel
theorem dX14_push_153 : decode cX14_push 153 = .ok (.iload_n 2, 1) := by decide +kernel
theorem dX14_push_154 : decode cX14_push 154 = .ok (.aload_n 0, 1) := by decide +kernel
theorem dX14_push_155 : decode cX14_push 155 = .ok (.getfield 116, 3) := by decide +kernel
theorem dX14_push_158 : decode cX14_push 158 = .ok (.bipush 6, 2) := by decide +kernel
theorem dX14_push_160 : decode cX14_push 160 = .ok (.aload_n 0, 1) := by decide +kernel
theorem dX14_push_161 : decode cX14_push 161 = .ok (.getfield 437, 3) := by decide +kernel
theorem dX14_push_164 : decode cX14_push 164 = .ok (.iconst 1, 1) := by decide +kernel
theorem dX14_push_165 : decode cX14_push 165 = .ok (.isub, 1) := by decide +kernel
theorem dX14_push_166 : decode cX14_push 166 = .ok (.imul, 1) := by decide +kernel
theorem dX14_push_167 : decode cX14_push 167 = .ok (.invokevirtual 560, 3) := by decide +kernel
theorem dX14_push_170 : decode cX14_push 170 = .ok (.ireturn, 1) := by decide +kernel
theorem dX14_rows_0 : decode cX14_rows 0 = .ok (.aload_n 0, 1) := by decide +kernel
theorem dX14_rows_1 : decode cX14_rows 1 = .ok (.iconst 0, 1) := by decide +kernel
theorem dX14_rows_2 : decode cX14_rows 2 = .ok (.putfield 149, 3) := by decide +kernel
theorem dX14_rows_5 : decode cX14_rows 5 = .ok (.aload_n 0, 1) := by decide +kernel
theorem dX14_rows_6 : decode cX14_rows 6 = .ok (.iload_n 1, 1) := by decide +kernel
theorem dX14_rows_7 : decode cX14_rows 7 = .ok (.invokevirtual 448, 3) := by decide +kernel
theorem dX14_rows_10 : decode cX14_rows 10 = .ok (.ifCond .eq 12, 3) := by decide +kernel
theorem dX14_rows_13 : decode cX14_rows 13 = .ok (.aload_n 0, 1) := by decide +kernel
theorem dX14_rows_14 : decode cX14_rows 14 = .ok (.getfield 49, 3) := by decide +kernel
theorem dX14_rows_17 : decode cX14_rows 17 = .ok (.iload_n 1, 1) := by decide +kernel
theorem dX14_rows_18 : decode cX14_rows 18 = .ok (.iaload, 1) := by decide +kernel
theorem dX14_rows_19 : decode cX14_rows 19 = .ok (.goto 8, 3) := by decide +kernel
theorem dX14_rows_22 : decode cX14_rows 22 = .ok (.aload_n 0, 1) := by decide +kernel
theorem dX14_rows_23 : decode cX14_rows 23 = .ok (.iconst 1, 1) := by decide +kernel
theorem dX14_rows_24 : decode cX14_rows 24 = .ok (.invokevirtual 155, 3) := by decide +kernel
theorem dX14_rows_27 : decode cX14_rows 27 = .ok (.ireturn, 1) := by decide +kernel
theorem dX14_cell_0 : decode cX14_cell 0 = .ok (.aload_n 0, 1) := by decide +kernel
theorem dX14_cell_1 : decode cX14_cell 1 = .ok (.aload_n 0, 1) := by decide +kernel
theorem dX14_cell_2 : decode cX14_cell 2 = .ok (.iload_n 1, 1) := by decide +kernel
theorem dX14_cell_3 : decode cX14_cell 3 = .ok (.invokevirtual 448, 3) := by decide +kernel
theorem dX14_cell_6 : decode cX14_cell 6 = .ok (.ifCond .eq 48, 3) := by decide +kernel
theorem dX14_cell_9 : decode cX14_cell 9 = .ok (.iload_n 2, 1) := by decide +kernel
theorem dX14_cell_10 : decode cX14_cell 10 = .ok (.i2l, 1) := by decide +kernel
theorem dX14_cell_11 : decode cX14_cell 11 = .ok (.lconst 0, 1) := by decide +kernel
theorem dX14_cell_12 : decode cX14_cell 12 = .ok (.aload_n 0, 1) := by decide +kernel
theorem dX14_cell_13 : decode cX14_cell 13 = .ok (.getfield 49, 3) := by decide +kernel
theorem dX14_cell_16 : decode cX14_cell 16 = .ok (.iload_n 1, 1) := by decide +kernel
theorem dX14_cell_17 : decode cX14_cell 17 = .ok (.iaload, 1) := by decide +kernel
theorem dX14_cell_18 : decode cX14_cell 18 = .ok (.iconst 1, 1) := by decide +kernel
theorem dX14_cell_19 : decode cX14_cell 19 = .ok (.isub, 1) := by decide +kernel
theorem dX14_cell_20 : decode cX14_cell 20 = .ok (.i2l, 1) := by decide +kernel
theorem dX14_cell_21 : decode cX14_cell 21 = .ok (.invokestatic 163, 3) := by decide +kernel
theorem dX14_cell_24 : decode cX14_cell 24 = .ok (.ifCond .eq 30, 3) := by decide +kernel
theorem dX14_cell_27 : decode cX14_cell 27 = .ok (.iload_n 3, 1) := by decide +kernel
theorem dX14_cell_28 : decode cX14_cell 28 = .ok (.i2l, 1) := by decide +kernel
theorem dX14_cell_29 : decode cX14_cell 29 = .ok (.ldc2_w 564, 3) := by decide +kernel
theorem dX14_cell_32 : decode cX14_cell 32 = .ok (.aload_n 0, 1) := by decide +kernel
theorem dX14_cell_33 : decode cX14_cell 33 = .ok (.getfield 16, 3) := by decide +kernel
theorem dX14_cell_36 : decode cX14_cell 36 = .ok (.getfield 292, 3) := by decide +kernel
theorem dX14_cell_39 : decode cX14_cell 39 = .ok (.iload_n 1, 1) := by decide +kernel
theorem dX14_cell_40 : decode cX14_cell 40 = .ok (.iaload, 1) := by decide +kernel
theorem dX14_cell_41 : decode cX14_cell 41 = .ok (.iconst 1, 1) := by decide +kernel
theorem dX14_cell_42 : decode cX14_cell 42 = .ok (.isub, 1) := by decide +kernel
theorem dX14_cell_43 : decode cX14_cell 43 = .ok (.i2l, 1) := by decide +kernel
theorem dX14_cell_44 : decode cX14_cell 44 = .ok (.invokestatic 163, 3) := by decide +kernel
theorem dX14_cell_47 : decode cX14_cell 47 = .ok (.ifCond .eq 7, 3) := by decide +kernel
theorem dX14_cell_50 : decode cX14_cell 50 = .ok (.iconst 0, 1) := by decide +kernel
theorem dX14_cell_51 : decode cX14_cell 51 = .ok (.goto 4, 3) := by decide +kernel
theorem dX14_cell_54 : decode cX14_cell 54 = .ok (.iconst 1, 1) := by decide +kernel
theorem dX14_cell_55 : decode cX14_cell 55 = .ok (.putfield 149, 3) := by decide +kernel
theorem dX14_cell_58 : decode cX14_cell 58 = .ok (.aload_n 0, 1) := by decide +kernel
theorem dX14_cell_59 : decode cX14_cell 59 = .ok (.getfield 149, 3) := by decide +kernel
theorem dX14_cell_62 : decode cX14_cell 62 = .ok (.ifCond .ne 20, 3) := by decide +kernel
theorem dX14_cell_65 : decode cX14_cell 65 = .ok (.aload_n 0, 1) := by decide +kernel
theorem dX14_cell_66 : decode cX14_cell 66 = .ok (.getfield 46, 3) := by decide +kernel
theorem dX14_cell_69 : decode cX14_cell 69 = .ok (.iload_n 1, 1) := by decide +kernel
theorem dX14_cell_70 : decode cX14_cell 70 = .ok (.iload_n 2, 1) := by decide +kernel
theorem dX14_cell_71 : decode cX14_cell 71 = .ok (.invokestatic 475, 3) := by decide +kernel
theorem dX14_cell_74 : decode cX14_cell 74 = .ok (.iconst 1, 1) := by decide +kernel
theorem dX14_cell_75 : decode cX14_cell 75 = .ok (.iadd, 1) := by decide +kernel
theorem dX14_cell_76 : decode cX14_cell 76 = .ok (.iload_n 3, 1) := by decide +kernel
theorem dX14_cell_77 : decode cX14_cell 77 = .ok (.iadd, 1) := by decide +kernel
theorem dX14_cell_78 : decode cX14_cell 78 = .ok (.laload, 1) := by decide +kernel
theorem dX14_cell_79 : decode cX14_cell 79 = .ok (.goto 4, 3) := by decide +kernel
theorem dX14_cell_82 : decode cX14_cell 82 = .ok (.lconst 0, 1) := by decide +kernel
theorem dX14_cell_83 : decode cX14_cell 83 = .ok (.lreturn, 1) := by decide +kernel
theorem dX14_watermark_0 : decode cX14_watermark 0 = .ok (.aload_n 0, 1) := by decide +kernel
theorem dX14_watermark_1 : decode cX14_watermark 1 = .ok (.iconst 0, 1) := by decide +kernel
theorem dX14_watermark_2 : decode cX14_watermark 2 = .ok (.putfield 149, 3) := by decide +kernel
theorem dX14_watermark_5 : decode cX14_watermark 5 = .ok (.aload_n 0, 1) := by decide +kernel
theorem dX14_watermark_6 : decode cX14_watermark 6 = .ok (.iload_n 1, 1) := by decide +kernel
theorem dX14_watermark_7 : decode cX14_watermark 7 = .ok (.invokevirtual 448, 3) := by decide +kernel
theorem dX14_watermark_10 : decode cX14_watermark 10 = .ok (.ifCond .eq 12, 3) := by decide +kernel
theorem dX14_watermark_13 : decode cX14_watermark 13 = .ok (.aload_n 0, 1) := by decide +kernel
theorem dX14_watermark_14 : decode cX14_watermark 14 = .ok (.getfield 52, 3) := by decide +kernel
theorem dX14_watermark_17 : decode cX14_watermark 17 = .ok (.iload_n 1, 1) := by decide +kernel
theorem dX14_watermark_18 : decode cX14_watermark 18 = .ok (.iaload, 1) := by decide +kernel
theorem dX14_watermark_19 : decode cX14_watermark 19 = .ok (.goto 8, 3) := by decide +kernel
theorem dX14_watermark_22 : decode cX14_watermark 22 = .ok (.aload_n 0, 1) := by decide +kernel
theorem dX14_watermark_23 : decode cX14_watermark 23 = .ok (.iconst 1, 1) := by decide +kernel
theorem dX14_watermark_24 : decode cX14_watermark 24 = .ok (.invokevirtual 155, 3) := by decide +kernel
theorem dX14_watermark_27 : decode cX14_watermark 27 = .ok (.ireturn, 1) := by decide +kernel
theorem dX14_windows_0 : decode cX14_windows 0 = .ok (.aload_n 0, 1) := by decide +kernel
theorem dX14_windows_1 : decode cX14_windows 1 = .ok (.iconst 0, 1) := by decide +kernel
theorem dX14_windows_2 : decode cX14_windows 2 = .ok (.putfield 149, 3) := by decide +kernel
theorem dX14_windows_5 : decode cX14_windows 5 = .ok (.aload_n 0, 1) := by decide +kernel
theorem dX14_windows_6 : decode cX14_windows 6 = .ok (.iload_n 1, 1) := by decide +kernel
theorem dX14_windows_7 : decode cX14_windows 7 = .ok (.invokevirtual 448, 3) := by decide +kernel
theorem dX14_windows_10 : decode cX14_windows 10 = .ok (.ifCond .ne 9, 3) := by decide +kernel
theorem dX14_windows_13 : decode cX14_windows 13 = .ok (.aload_n 0, 1) := by decide +kernel
theorem dX14_windows_14 : decode cX14_windows 14 = .ok (.iconst 1, 1) := by decide +kernel
theorem dX14_windows_15 : decode cX14_windows 15 = .ok (.invokevirtual 155, 3) := by decide +kernel
theorem dX14_windows_18 : decode cX14_windows 18 = .ok (.ireturn, 1) := by decide +kernel
theorem dX14_windows_19 : decode cX14_windows 19 = .ok (.iconst 0, 1) := by decide +kernel
theorem dX14_windows_20 : decode cX14_windows 20 = .ok (.istore_n 3, 1) := by decide +kernel
theorem dX14_windows_21 : decode cX14_windows 21 = .ok (.iconst 0, 1) := by decide +kernel
theorem dX14_windows_22 : decode cX14_windows 22 = .ok (.istore 4, 2) := by decide +kernel
theorem dX14_windows_24 : decode cX14_windows 24 = .ok (.iload 4, 2) := by decide +kernel
theorem dX14_windows_26 : decode cX14_windows 26 = .ok (.aload_n 0, 1) := by decide +kernel
theorem dX14_windows_27 : decode cX14_windows 27 = .ok (.getfield 85, 3) := by decide +kernel
theorem dX14_windows_30 : decode cX14_windows 30 = .ok (.iload_n 1, 1) := by decide +kernel
theorem dX14_windows_31 : decode cX14_windows 31 = .ok (.iaload, 1) := by decide +kernel
theorem dX14_windows_32 : decode cX14_windows 32 = .ok (.if_icmp .ge 33, 3) := by decide +kernel
theorem dX14_windows_35 : decode cX14_windows 35 = .ok (.iload_n 3, 1) := by decide +kernel
theorem dX14_windows_36 : decode cX14_windows 36 = .ok (.aload_n 0, 1) := by decide +kernel
theorem dX14_windows_37 : decode cX14_windows 37 = .ok (.getfield 94, 3) := by decide +kernel
theorem dX14_windows_40 : decode cX14_windows 40 = .ok (.bipush 60, 2) := by decide +kernel
theorem dX14_windows_42 : decode cX14_windows 42 = .ok (.iload_n 1, 1) := by decide +kernel
theorem dX14_windows_43 : decode cX14_windows 43 = .ok (.imul, 1) := by decide +kernel
theorem dX14_windows_44 : decode cX14_windows 44 = .ok (.iload 4, 2) := by decide +kernel
theorem dX14_windows_46 : decode cX14_windows 46 = .ok (.iadd, 1) := by decide +kernel
theorem dX14_windows_47 : decode cX14_windows 47 = .ok (.baload, 1) := by decide +kernel
theorem dX14_windows_48 : decode cX14_windows 48 = .ok (.iload_n 2, 1) := by decide +kernel
theorem dX14_windows_49 : decode cX14_windows 49 = .ok (.if_icmp .ne 7, 3) := by decide +kernel
theorem dX14_windows_52 : decode cX14_windows 52 = .ok (.iconst 1, 1) := by decide +kernel
theorem dX14_windows_53 : decode cX14_windows 53 = .ok (.goto 4, 3) := by decide +kernel
theorem dX14_windows_56 : decode cX14_windows 56 = .ok (.iconst 0, 1) := by decide +kernel
theorem dX14_windows_57 : decode cX14_windows 57 = .ok (.iadd, 1) := by decide +kernel
theorem dX14_windows_58 : decode cX14_windows 58 = .ok (.istore_n 3, 1) := by decide +kernel
theorem dX14_windows_59 : decode cX14_windows 59 = .ok (.iinc 4 1, 3) := by decide +kernel
theorem dX14_windows_62 : decode cX14_windows 62 = .ok (.goto (-38), 3) := by decide +kernel
theorem dX14_windows_65 : decode cX14_windows 65 = .ok (.iload_n 3, 1) := by decide +kernel
theorem dX14_windows_66 : decode cX14_windows 66 = .ok (.ireturn, 1) := by decide +kernel
theorem dX14_isHeld_0 : decode cX14_isHeld 0 = .ok (.iload_n 1, 1) := by decide +kernel
theorem dX14_isHeld_1 : decode cX14_isHeld 1 = .ok (.i2l, 1) := by decide +kernel
theorem dX14_isHeld_2 : decode cX14_isHeld 2 = .ok (.lconst 0, 1) := by decide +kernel
theorem dX14_isHeld_3 : decode cX14_isHeld 3 = .ok (.aload_n 0, 1) := by decide +kernel
theorem dX14_isHeld_4 : decode cX14_isHeld 4 = .ok (.getfield 440, 3) := by decide +kernel
theorem dX14_isHeld_7 : decode cX14_isHeld 7 = .ok (.iconst 1, 1) := by decide +kernel
theorem dX14_isHeld_8 : decode cX14_isHeld 8 = .ok (.isub, 1) := by decide +kernel
theorem dX14_isHeld_9 : decode cX14_isHeld 9 = .ok (.i2l, 1) := by decide +kernel
theorem dX14_isHeld_10 : decode cX14_isHeld 10 = .ok (.invokestatic 163, 3) := by decide +kernel
theorem dX14_isHeld_13 : decode cX14_isHeld 13 = .ok (.ireturn, 1) := by decide +kernel
theorem dX14_heldTold_0 : decode cX14_heldTold 0 = .ok (.iload_n 2, 1) := by decide +kernel
theorem dX14_heldTold_1 : decode cX14_heldTold 1 = .ok (.ifCond .ne 12, 3) := by decide +kernel
theorem dX14_heldTold_4 : decode cX14_heldTold 4 = .ok (.aload_n 0, 1) := by decide +kernel
theorem dX14_heldTold_5 : decode cX14_heldTold 5 = .ok (.getfield 67, 3) := by decide +kernel
theorem dX14_heldTold_8 : decode cX14_heldTold 8 = .ok (.iload_n 1, 1) := by decide +kernel
theorem dX14_heldTold_9 : decode cX14_heldTold 9 = .ok (.iaload, 1) := by decide +kernel
theorem dX14_heldTold_10 : decode cX14_heldTold 10 = .ok (.goto 27, 3) := by decide +kernel
theorem dX14_heldTold_13 : decode cX14_heldTold 13 = .ok (.iload_n 2, 1) := by decide +kernel
theorem dX14_heldTold_14 : decode cX14_heldTold 14 = .ok (.iconst 1, 1) := by decide +kernel
theorem dX14_heldTold_15 : decode cX14_heldTold 15 = .ok (.if_icmp .ne 12, 3) := by decide +kernel
theorem dX14_heldTold_18 : decode cX14_heldTold 18 = .ok (.aload_n 0, 1) := by decide +kernel
theorem dX14_heldTold_19 : decode cX14_heldTold 19 = .ok (.getfield 70, 3) := by decide +kernel
theorem dX14_heldTold_22 : decode cX14_heldTold 22 = .ok (.iload_n 1, 1) := by decide +kernel
theorem dX14_heldTold_23 : decode cX14_heldTold 23 = .ok (.iaload, 1) := by decide +kernel
theorem dX14_heldTold_24 : decode cX14_heldTold 24 = .ok (.goto 13, 3) := by decide +kernel
theorem dX14_heldTold_27 : decode cX14_heldTold 27 = .ok (.aload_n 0, 1) := by decide +kernel
theorem dX14_heldTold_28 : decode cX14_heldTold 28 = .ok (.getfield 73, 3) := by decide +kernel
theorem dX14_heldTold_31 : decode cX14_heldTold 31 = .ok (.bipush 7, 2) := by decide +kernel
theorem dX14_heldTold_33 : decode cX14_heldTold 33 = .ok (.iload_n 1, 1) := by decide +kernel
theorem dX14_heldTold_34 : decode cX14_heldTold 34 = .ok (.imul, 1) := by decide +kernel
theorem dX14_heldTold_35 : decode cX14_heldTold 35 = .ok (.laload, 1) := by decide +kernel
theorem dX14_heldTold_36 : decode cX14_heldTold 36 = .ok (.l2i, 1) := by decide +kernel
theorem dX14_heldTold_37 : decode cX14_heldTold 37 = .ok (.ireturn, 1) := by decide +kernel
theorem dX14_held_0 : decode cX14_held 0 = .ok (.aload_n 0, 1) := by decide +kernel
theorem dX14_held_1 : decode cX14_held 1 = .ok (.iconst 0, 1) := by decide +kernel
theorem dX14_held_2 : decode cX14_held 2 = .ok (.putfield 149, 3) := by decide +kernel
theorem dX14_held_5 : decode cX14_held 5 = .ok (.aload_n 0, 1) := by decide +kernel
theorem dX14_held_6 : decode cX14_held 6 = .ok (.iload_n 1, 1) := by decide +kernel
theorem dX14_held_7 : decode cX14_held 7 = .ok (.invokevirtual 566, 3) := by decide +kernel
theorem dX14_held_10 : decode cX14_held 10 = .ok (.ifCond .eq 24, 3) := by decide +kernel
theorem dX14_held_13 : decode cX14_held 13 = .ok (.iload_n 2, 1) := by decide +kernel
theorem dX14_held_14 : decode cX14_held 14 = .ok (.i2l, 1) := by decide +kernel
theorem dX14_held_15 : decode cX14_held 15 = .ok (.lconst 0, 1) := by decide +kernel
theorem dX14_held_16 : decode cX14_held 16 = .ok (.ldc2_w 569, 3) := by decide +kernel
theorem dX14_held_19 : decode cX14_held 19 = .ok (.invokestatic 163, 3) := by decide +kernel
theorem dX14_held_22 : decode cX14_held 22 = .ok (.ifCond .eq 12, 3) := by decide +kernel
theorem dX14_held_25 : decode cX14_held 25 = .ok (.aload_n 0, 1) := by decide +kernel
theorem dX14_held_26 : decode cX14_held 26 = .ok (.iload_n 1, 1) := by decide +kernel
theorem dX14_held_27 : decode cX14_held 27 = .ok (.iload_n 2, 1) := by decide +kernel
theorem dX14_held_28 : decode cX14_held 28 = .ok (.invokevirtual 571, 3) := by decide +kernel
theorem dX14_held_31 : decode cX14_held 31 = .ok (.goto 8, 3) := by decide +kernel
theorem dX14_held_34 : decode cX14_held 34 = .ok (.aload_n 0, 1) := by decide +kernel
theorem dX14_held_35 : decode cX14_held 35 = .ok (.iconst 1, 1) := by decide +kernel
theorem dX14_held_36 : decode cX14_held 36 = .ok (.invokevirtual 155, 3) := by decide +kernel
theorem dX14_held_39 : decode cX14_held 39 = .ok (.ireturn, 1) := by decide +kernel
theorem dX14_heldColumns_0 : decode cX14_heldColumns 0 = .ok (.aload_n 0, 1) := by decide +kernel
theorem dX14_heldColumns_1 : decode cX14_heldColumns 1 = .ok (.getfield 16, 3) := by decide +kernel
theorem dX14_heldColumns_4 : decode cX14_heldColumns 4 = .ok (.getfield 292, 3) := by decide +kernel
theorem dX14_heldColumns_7 : decode cX14_heldColumns 7 = .ok (.aload_n 0, 1) := by decide +kernel
theorem dX14_heldColumns_8 : decode cX14_heldColumns 8 = .ok (.getfield 70, 3) := by decide +kernel
theorem dX14_heldColumns_11 : decode cX14_heldColumns 11 = .ok (.iload_n 1, 1) := by decide +kernel
theorem dX14_heldColumns_12 : decode cX14_heldColumns 12 = .ok (.iaload, 1) := by decide +kernel
theorem dX14_heldColumns_13 : decode cX14_heldColumns 13 = .ok (.iconst (-1), 1) := by decide +kernel
theorem dX14_heldColumns_14 : decode cX14_heldColumns 14 = .ok (.if_icmp .ne 20, 3) := by decide +kernel
theorem dX14_heldColumns_17 : decode cX14_heldColumns 17 = .ok (.aload_n 0, 1) := by decide +kernel
theorem dX14_heldColumns_18 : decode cX14_heldColumns 18 = .ok (.getfield 16, 3) := by decide +kernel
theorem dX14_heldColumns_21 : decode cX14_heldColumns 21 = .ok (.getfield 323, 3) := by decide +kernel
theorem dX14_heldColumns_24 : decode cX14_heldColumns 24 = .ok (.aload_n 0, 1) := by decide +kernel
theorem dX14_heldColumns_25 : decode cX14_heldColumns 25 = .ok (.getfield 67, 3) := by decide +kernel
theorem dX14_heldColumns_28 : decode cX14_heldColumns 28 = .ok (.iload_n 1, 1) := by decide +kernel
theorem dX14_heldColumns_29 : decode cX14_heldColumns 29 = .ok (.iaload, 1) := by decide +kernel
theorem dX14_heldColumns_30 : decode cX14_heldColumns 30 = .ok (.iaload, 1) := by decide +kernel
theorem dX14_heldColumns_31 : decode cX14_heldColumns 31 = .ok (.goto 9, 3) := by decide +kernel
theorem dX14_heldColumns_34 : decode cX14_heldColumns 34 = .ok (.aload_n 0, 1) := by decide +kernel
theorem dX14_heldColumns_35 : decode cX14_heldColumns 35 = .ok (.getfield 67, 3) := by decide +kernel
theorem dX14_heldColumns_38 : decode cX14_heldColumns 38 = .ok (.iload_n 1, 1) := by decide +kernel
theorem dX14_heldColumns_39 : decode cX14_heldColumns 39 = .ok (.iaload, 1) := by decide +kernel
theorem dX14_heldColumns_40 : decode cX14_heldColumns 40 = .ok (.iaload, 1) := by decide +kernel
theorem dX14_heldColumns_41 : decode cX14_heldColumns 41 = .ok (.ireturn, 1) := by decide +kernel
theorem dX14_heldValue_0 : decode cX14_heldValue 0 = .ok (.aload_n 0, 1) := by decide +kernel
theorem dX14_heldValue_1 : decode cX14_heldValue 1 = .ok (.aload_n 0, 1) := by decide +kernel
theorem dX14_heldValue_2 : decode cX14_heldValue 2 = .ok (.iload_n 1, 1) := by decide +kernel
theorem dX14_heldValue_3 : decode cX14_heldValue 3 = .ok (.invokevirtual 566, 3) := by decide +kernel
theorem dX14_heldValue_6 : decode cX14_heldValue 6 = .ok (.ifCond .eq 24, 3) := by decide +kernel
theorem dX14_heldValue_9 : decode cX14_heldValue 9 = .ok (.iload_n 2, 1) := by decide +kernel
theorem dX14_heldValue_10 : decode cX14_heldValue 10 = .ok (.i2l, 1) := by decide +kernel
theorem dX14_heldValue_11 : decode cX14_heldValue 11 = .ok (.lconst 0, 1) := by decide +kernel
theorem dX14_heldValue_12 : decode cX14_heldValue 12 = .ok (.aload_n 0, 1) := by decide +kernel
theorem dX14_heldValue_13 : decode cX14_heldValue 13 = .ok (.iload_n 1, 1) := by decide +kernel
theorem dX14_heldValue_14 : decode cX14_heldValue 14 = .ok (.invokevirtual 574, 3) := by decide +kernel
theorem dX14_heldValue_17 : decode cX14_heldValue 17 = .ok (.iconst 1, 1) := by decide +kernel
theorem dX14_heldValue_18 : decode cX14_heldValue 18 = .ok (.isub, 1) := by decide +kernel
theorem dX14_heldValue_19 : decode cX14_heldValue 19 = .ok (.i2l, 1) := by decide +kernel
theorem dX14_heldValue_20 : decode cX14_heldValue 20 = .ok (.invokestatic 163, 3) := by decide +kernel
theorem dX14_heldValue_23 : decode cX14_heldValue 23 = .ok (.ifCond .eq 7, 3) := by decide +kernel
theorem dX14_heldValue_26 : decode cX14_heldValue 26 = .ok (.iconst 0, 1) := by decide +kernel
theorem dX14_heldValue_27 : decode cX14_heldValue 27 = .ok (.goto 4, 3) := by decide +kernel
theorem dX14_heldValue_30 : decode cX14_heldValue 30 = .ok (.iconst 1, 1) := by decide +kernel
theorem dX14_heldValue_31 : decode cX14_heldValue 31 = .ok (.putfield 149, 3) := by decide +kernel
theorem dX14_heldValue_34 : decode cX14_heldValue 34 = .ok (.aload_n 0, 1) := by decide +kernel
theorem dX14_heldValue_35 : decode cX14_heldValue 35 = .ok (.getfield 149, 3) := by decide +kernel
theorem dX14_heldValue_38 : decode cX14_heldValue 38 = .ok (.ifCond .ne 19, 3) := by decide +kernel
theorem dX14_heldValue_41 : decode cX14_heldValue 41 = .ok (.aload_n 0, 1) := by decide +kernel
theorem dX14_heldValue_42 : decode cX14_heldValue 42 = .ok (.getfield 73, 3) := by decide +kernel
theorem dX14_heldValue_45 : decode cX14_heldValue 45 = .ok (.bipush 7, 2) := by decide +kernel
theorem dX14_heldValue_47 : decode cX14_heldValue 47 = .ok (.iload_n 1, 1) := by decide +kernel
theorem dX14_heldValue_48 : decode cX14_heldValue 48 = .ok (.imul, 1) := by decide +kernel
theorem dX14_heldValue_49 : decode cX14_heldValue 49 = .ok (.iconst 1, 1) := by decide +kernel
theorem dX14_heldValue_50 : decode cX14_heldValue 50 = .ok (.iadd, 1) := by decide +kernel
theorem dX14_heldValue_51 : decode cX14_heldValue 51 = .ok (.iload_n 2, 1) := by decide +kernel
theorem dX14_heldValue_52 : decode cX14_heldValue 52 = .ok (.iadd, 1) := by decide +kernel
theorem dX14_heldValue_53 : decode cX14_heldValue 53 = .ok (.laload, 1) := by decide +kernel
theorem dX14_heldValue_54 : decode cX14_heldValue 54 = .ok (.goto 4, 3) := by decide +kernel
theorem dX14_heldValue_57 : decode cX14_heldValue 57 = .ok (.lconst 0, 1) := by decide +kernel
theorem dX14_heldValue_58 : decode cX14_heldValue 58 = .ok (.lreturn, 1) := by decide +kernel
theorem dX14_takeOut_0 : decode cX14_takeOut 0 = .ok (.aload_n 0, 1) := by decide +kernel
theorem dX14_takeOut_1 : decode cX14_takeOut 1 = .ok (.dup, 1) := by decide +kernel
theorem dX14_takeOut_2 : decode cX14_takeOut 2 = .ok (.getfield 440, 3) := by decide +kernel
theorem dX14_takeOut_5 : decode cX14_takeOut 5 = .ok (.iconst 1, 1) := by decide +kernel
theorem dX14_takeOut_6 : decode cX14_takeOut 6 = .ok (.isub, 1) := by decide +kernel
theorem dX14_takeOut_7 : decode cX14_takeOut 7 = .ok (.putfield 440, 3) := by decide +kernel
theorem dX14_takeOut_10 : decode cX14_takeOut 10 = .ok (.iload_n 1, 1) := by decide +kernel
theorem dX14_takeOut_11 : decode cX14_takeOut 11 = .ok (.istore_n 2, 1) := by decide +kernel
theorem dX14_takeOut_12 : decode cX14_takeOut 12 = .ok (.iload_n 2, 1) := by decide +kernel
theorem dX14_takeOut_13 : decode cX14_takeOut 13 = .ok (.aload_n 0, 1) := by decide +kernel
theorem dX14_takeOut_14 : decode cX14_takeOut 14 = .ok (.getfield 440, 3) := by decide +kernel
theorem dX14_takeOut_17 : decode cX14_takeOut 17 = .ok (.if_icmp .ge 37, 3) := by decide +kernel
theorem dX14_takeOut_20 : decode cX14_takeOut 20 = .ok (.aload_n 0, 1) := by decide +kernel
theorem dX14_takeOut_21 : decode cX14_takeOut 21 = .ok (.getfield 67, 3) := by decide +kernel
theorem dX14_takeOut_24 : decode cX14_takeOut 24 = .ok (.iload_n 2, 1) := by decide +kernel
theorem dX14_takeOut_25 : decode cX14_takeOut 25 = .ok (.aload_n 0, 1) := by decide +kernel
theorem dX14_takeOut_26 : decode cX14_takeOut 26 = .ok (.getfield 67, 3) := by decide +kernel
theorem dX14_takeOut_29 : decode cX14_takeOut 29 = .ok (.iload_n 2, 1) := by decide +kernel
theorem dX14_takeOut_30 : decode cX14_takeOut 30 = .ok (.iconst 1, 1) := by decide +kernel
theorem dX14_takeOut_31 : decode cX14_takeOut 31 = .ok (.iadd, 1) := by decide +kernel
theorem dX14_takeOut_32 : decode cX14_takeOut 32 = .ok (.iaload, 1) := by decide +kernel
theorem dX14_takeOut_33 : decode cX14_takeOut 33 = .ok (.iastore, 1) := by decide +kernel
theorem dX14_takeOut_34 : decode cX14_takeOut 34 = .ok (.aload_n 0, 1) := by decide +kernel
theorem dX14_takeOut_35 : decode cX14_takeOut 35 = .ok (.getfield 70, 3) := by decide +kernel
theorem dX14_takeOut_38 : decode cX14_takeOut 38 = .ok (.iload_n 2, 1) := by decide +kernel
theorem dX14_takeOut_39 : decode cX14_takeOut 39 = .ok (.aload_n 0, 1) := by decide +kernel
theorem dX14_takeOut_40 : decode cX14_takeOut 40 = .ok (.getfield 70, 3) := by decide +kernel
theorem dX14_takeOut_43 : decode cX14_takeOut 43 = .ok (.iload_n 2, 1) := by decide +kernel
theorem dX14_takeOut_44 : decode cX14_takeOut 44 = .ok (.iconst 1, 1) := by decide +kernel
theorem dX14_takeOut_45 : decode cX14_takeOut 45 = .ok (.iadd, 1) := by decide +kernel
theorem dX14_takeOut_46 : decode cX14_takeOut 46 = .ok (.iaload, 1) := by decide +kernel
theorem dX14_takeOut_47 : decode cX14_takeOut 47 = .ok (.iastore, 1) := by decide +kernel
theorem dX14_takeOut_48 : decode cX14_takeOut 48 = .ok (.iinc 2 1, 3) := by decide +kernel
theorem dX14_takeOut_51 : decode cX14_takeOut 51 = .ok (.goto (-39), 3) := by decide +kernel
theorem dX14_takeOut_54 : decode cX14_takeOut 54 = .ok (.aload_n 0, 1) := by decide +kernel
theorem dX14_takeOut_55 : decode cX14_takeOut 55 = .ok (.getfield 73, 3) := by decide +kernel
theorem dX14_takeOut_58 : decode cX14_takeOut 58 = .ok (.bipush 7, 2) := by decide +kernel
theorem dX14_takeOut_60 : decode cX14_takeOut 60 = .ok (.iload_n 1, 1) := by decide +kernel
theorem dX14_takeOut_61 : decode cX14_takeOut 61 = .ok (.iconst 1, 1) := by decide +kernel
theorem dX14_takeOut_62 : decode cX14_takeOut 62 = .ok (.iadd, 1) := by decide +kernel
theorem dX14_takeOut_63 : decode cX14_takeOut 63 = .ok (.imul, 1) := by decide +kernel
theorem dX14_takeOut_64 : decode cX14_takeOut 64 = .ok (.aload_n 0, 1) := by decide +kernel
theorem dX14_takeOut_65 : decode cX14_takeOut 65 = .ok (.getfield 73, 3) := by decide +kernel
theorem dX14_takeOut_68 : decode cX14_takeOut 68 = .ok (.bipush 7, 2) := by decide +kernel
theorem dX14_takeOut_70 : decode cX14_takeOut 70 = .ok (.iload_n 1, 1) := by decide +kernel
theorem dX14_takeOut_71 : decode cX14_takeOut 71 = .ok (.imul, 1) := by decide +kernel
theorem dX14_takeOut_72 : decode cX14_takeOut 72 = .ok (.bipush 7, 2) := by decide +kernel
theorem dX14_takeOut_74 : decode cX14_takeOut 74 = .ok (.aload_n 0, 1) := by decide +kernel
theorem dX14_takeOut_75 : decode cX14_takeOut 75 = .ok (.getfield 440, 3) := by decide +kernel
theorem dX14_takeOut_78 : decode cX14_takeOut 78 = .ok (.iload_n 1, 1) := by decide +kernel
theorem dX14_takeOut_79 : decode cX14_takeOut 79 = .ok (.isub, 1) := by decide +kernel
theorem dX14_takeOut_80 : decode cX14_takeOut 80 = .ok (.imul, 1) := by decide +kernel
theorem dX14_takeOut_81 : decode cX14_takeOut 81 = .ok (.invokestatic 469, 3) := by decide +kernel
theorem dX14_takeOut_84 : decode cX14_takeOut 84 = .ok (.return_, 1) := by decide +kernel
theorem dX14_doRelease_0 : decode cX14_doRelease 0 = .ok (.aload_n 0, 1) := by decide +kernel
theorem dX14_doRelease_1 : decode cX14_doRelease 1 = .ok (.getfield 67, 3) := by decide +kernel
theorem dX14_doRelease_4 : decode cX14_doRelease 4 = .ok (.iload_n 1, 1) := by decide +kernel
theorem dX14_doRelease_5 : decode cX14_doRelease 5 = .ok (.iaload, 1) := by decide +kernel
theorem dX14_doRelease_6 : decode cX14_doRelease 6 = .ok (.istore_n 2, 1) := by decide +kernel
theorem dX14_doRelease_7 : decode cX14_doRelease 7 = .ok (.aload_n 0, 1) := by decide +kernel
theorem dX14_doRelease_8 : decode cX14_doRelease 8 = .ok (.getfield 70, 3) := by decide +kernel
theorem dX14_doRelease_11 : decode cX14_doRelease 11 = .ok (.iload_n 1, 1) := by decide +kernel
theorem dX14_doRelease_12 : decode cX14_doRelease 12 = .ok (.iaload, 1) := by decide +kernel
theorem dX14_doRelease_13 : decode cX14_doRelease 13 = .ok (.istore_n 3, 1) := by decide +kernel
theorem dX14_doRelease_14 : decode cX14_doRelease 14 = .ok (.bipush 7, 2) := by decide +kernel
theorem dX14_doRelease_16 : decode cX14_doRelease 16 = .ok (.newarray .long, 2) := by decide +kernel
theorem dX14_doRelease_18 : decode cX14_doRelease 18 = .ok (.astore 4, 2) := by decide +kernel
theorem dX14_doRelease_20 : decode cX14_doRelease 20 = .ok (.aload_n 0, 1) := by decide +kernel
theorem dX14_doRelease_21 : decode cX14_doRelease 21 = .ok (.getfield 73, 3) := by decide +kernel
theorem dX14_doRelease_24 : decode cX14_doRelease 24 = .ok (.bipush 7, 2) := by decide +kernel
theorem dX14_doRelease_26 : decode cX14_doRelease 26 = .ok (.iload_n 1, 1) := by decide +kernel
theorem dX14_doRelease_27 : decode cX14_doRelease 27 = .ok (.imul, 1) := by decide +kernel
theorem dX14_doRelease_28 : decode cX14_doRelease 28 = .ok (.aload 4, 2) := by decide +kernel
theorem dX14_doRelease_30 : decode cX14_doRelease 30 = .ok (.iconst 0, 1) := by decide +kernel
theorem dX14_doRelease_31 : decode cX14_doRelease 31 = .ok (.bipush 7, 2) := by decide +kernel
theorem dX14_doRelease_33 : decode cX14_doRelease 33 = .ok (.invokestatic 469, 3) := by decide +kernel
theorem dX14_doRelease_36 : decode cX14_doRelease 36 = .ok (.aload_n 0, 1) := by decide +kernel
theorem dX14_doRelease_37 : decode cX14_doRelease 37 = .ok (.iload_n 1, 1) := by decide +kernel
theorem dX14_doRelease_38 : decode cX14_doRelease 38 = .ok (.invokevirtual 577, 3) := by decide +kernel
theorem dX14_doRelease_41 : decode cX14_doRelease 41 = .ok (.aload_n 0, 1) := by decide +kernel
theorem dX14_doRelease_42 : decode cX14_doRelease 42 = .ok (.iconst 0, 1) := by decide +kernel
theorem dX14_doRelease_43 : decode cX14_doRelease 43 = .ok (.putfield 478, 3) := by decide +kernel
theorem dX14_doRelease_46 : decode cX14_doRelease 46 = .ok (.iload_n 3, 1) := by decide +kernel
theorem dX14_doRelease_47 : decode cX14_doRelease 47 = .ok (.iconst (-1), 1) := by decide +kernel
theorem dX14_doRelease_48 : decode cX14_doRelease 48 = .ok (.if_icmp .eq 18, 3) := by decide +kernel
theorem dX14_doRelease_51 : decode cX14_doRelease 51 = .ok (.aload_n 0, 1) := by decide +kernel
theorem dX14_doRelease_52 : decode cX14_doRelease 52 = .ok (.aload 4, 2) := by decide +kernel
theorem dX14_doRelease_54 : decode cX14_doRelease 54 = .ok (.iconst 0, 1) := by decide +kernel
theorem dX14_doRelease_55 : decode cX14_doRelease 55 = .ok (.invokevirtual 504, 3) := by decide +kernel
theorem dX14_doRelease_58 : decode cX14_doRelease 58 = .ok (.aload_n 0, 1) := by decide +kernel
theorem dX14_doRelease_59 : decode cX14_doRelease 59 = .ok (.iload_n 2, 1) := by decide +kernel
theorem dX14_doRelease_60 : decode cX14_doRelease 60 = .ok (.invokevirtual 488, 3) := by decide +kernel
theorem dX14_doRelease_63 : decode cX14_doRelease 63 = .ok (.goto 49, 3) := by decide +kernel
theorem dX14_doRelease_66 : decode cX14_doRelease 66 = .ok (.aload_n 0, 1) := by decide +kernel
theorem dX14_doRelease_67 : decode cX14_doRelease 67 = .ok (.iload_n 2, 1) := by decide +kernel
theorem dX14_doRelease_68 : decode cX14_doRelease 68 = .ok (.aload 4, 2) := by decide +kernel
theorem dX14_doRelease_70 : decode cX14_doRelease 70 = .ok (.iconst 0, 1) := by decide +kernel
theorem dX14_doRelease_71 : decode cX14_doRelease 71 = .ok (.aload_n 0, 1) := by decide +kernel
theorem dX14_doRelease_72 : decode cX14_doRelease 72 = .ok (.iload_n 2, 1) := by decide +kernel
theorem dX14_doRelease_73 : decode cX14_doRelease 73 = .ok (.aload 4, 2) := by decide +kernel
theorem dX14_doRelease_75 : decode cX14_doRelease 75 = .ok (.iconst 0, 1) := by decide +kernel
theorem dX14_doRelease_76 : decode cX14_doRelease 76 = .ok (.laload, 1) := by decide +kernel
theorem dX14_doRelease_77 : decode cX14_doRelease 77 = .ok (.invokevirtual 501, 3) := by decide +kernel
theorem dX14_doRelease_80 : decode cX14_doRelease 80 = .ok (.iconst 1, 1) := by decide +kernel
theorem dX14_doRelease_81 : decode cX14_doRelease 81 = .ok (.invokevirtual 508, 3) := by decide +kernel
theorem dX14_doRelease_84 : decode cX14_doRelease 84 = .ok (.istore 5, 2) := by decide +kernel
theorem dX14_doRelease_86 : decode cX14_doRelease 86 = .ok (.iload 5, 2) := by decide +kernel
theorem dX14_doRelease_88 : decode cX14_doRelease 88 = .ok (.iconst (-1), 1) := by decide +kernel
theorem dX14_doRelease_89 : decode cX14_doRelease 89 = .ok (.if_icmp .ne 16, 3) := by decide +kernel
theorem dX14_doRelease_92 : decode cX14_doRelease 92 = .ok (.aload_n 0, 1) := by decide +kernel
theorem dX14_doRelease_93 : decode cX14_doRelease 93 = .ok (.dup, 1) := by decide +kernel
theorem dX14_doRelease_94 : decode cX14_doRelease 94 = .ok (.getfield 453, 3) := by decide +kernel
theorem dX14_doRelease_97 : decode cX14_doRelease 97 = .ok (.iconst 1, 1) := by decide +kernel
theorem dX14_doRelease_98 : decode cX14_doRelease 98 = .ok (.iadd, 1) := by decide +kernel
theorem dX14_doRelease_99 : decode cX14_doRelease 99 = .ok (.putfield 453, 3) := by decide +kernel
theorem dX14_doRelease_102 : decode cX14_doRelease 102 = .ok (.goto 10, 3) := by decide +kernel
theorem dX14_doRelease_105 : decode cX14_doRelease 105 = .ok (.aload_n 0, 1) := by decide +kernel
theorem dX14_doRelease_106 : decode cX14_doRelease 106 = .ok (.iload_n 2, 1) := by decide +kernel
theorem dX14_doRelease_107 : decode cX14_doRelease 107 = .ok (.iload 5, 2) := by decide +kernel
theorem dX14_doRelease_109 : decode cX14_doRelease 109 = .ok (.invokevirtual 512, 3) := by decide +kernel
theorem dX14_doRelease_112 : decode cX14_doRelease 112 = .ok (.aload_n 0, 1) := by decide +kernel
theorem dX14_doRelease_113 : decode cX14_doRelease 113 = .ok (.invokevirtual 552, 3) := by decide +kernel
theorem dX14_doRelease_116 : decode cX14_doRelease 116 = .ok (.aload_n 0, 1) := by decide +kernel
theorem dX14_doRelease_117 : decode cX14_doRelease 117 = .ok (.getfield 478, 3) := by decide +kernel
theorem dX14_doRelease_120 : decode cX14_doRelease 120 = .ok (.ireturn, 1) := by decide +kernel
theorem dX14_release_0 : decode cX14_release 0 = .ok (.aload_n 0, 1) := by decide +kernel
theorem dX14_release_1 : decode cX14_release 1 = .ok (.iconst 0, 1) := by decide +kernel
theorem dX14_release_2 : decode cX14_release 2 = .ok (.putfield 149, 3) := by decide +kernel
theorem dX14_release_5 : decode cX14_release 5 = .ok (.aload_n 0, 1) := by decide +kernel
theorem dX14_release_6 : decode cX14_release 6 = .ok (.iload_n 1, 1) := by decide +kernel
theorem dX14_release_7 : decode cX14_release 7 = .ok (.invokevirtual 566, 3) := by decide +kernel
theorem dX14_release_10 : decode cX14_release 10 = .ok (.ifCond .ne 9, 3) := by decide +kernel
theorem dX14_release_13 : decode cX14_release 13 = .ok (.aload_n 0, 1) := by decide +kernel
theorem dX14_release_14 : decode cX14_release 14 = .ok (.iconst 1, 1) := by decide +kernel
theorem dX14_release_15 : decode cX14_release 15 = .ok (.invokevirtual 155, 3) := by decide +kernel
theorem dX14_release_18 : decode cX14_release 18 = .ok (.ireturn, 1) := by decide +kernel
theorem dX14_release_19 : decode cX14_release 19 = .ok (.aload_n 0, 1) := by decide +kernel
theorem dX14_release_20 : decode cX14_release 20 = .ok (.getfield 437, 3) := by decide +kernel
theorem dX14_release_23 : decode cX14_release 23 = .ok (.sipush 200, 3) := by decide +kernel
theorem dX14_release_26 : decode cX14_release 26 = .ok (.if_icmp .ne 9, 3) := by decide +kernel
theorem dX14_release_29 : decode cX14_release 29 = .ok (.aload_n 0, 1) := by decide +kernel
theorem dX14_release_30 : decode cX14_release 30 = .ok (.iconst 2, 1) := by decide +kernel
theorem dX14_release_31 : decode cX14_release 31 = .ok (.invokevirtual 155, 3) := by decide +kernel
theorem dX14_release_34 : decode cX14_release 34 = .ok (.ireturn, 1) := by decide +kernel
theorem dX14_release_35 : decode cX14_release 35 = .ok (.aload_n 0, 1) := by decide +kernel
theorem dX14_release_36 : decode cX14_release 36 = .ok (.iconst 1, 1) := by decide +kernel
theorem dX14_release_37 : decode cX14_release 37 = .ok (.iload_n 1, 1) := by decide +kernel
theorem dX14_release_38 : decode cX14_release 38 = .ok (.invokevirtual 557, 3) := by decide +kernel
theorem dX14_release_41 : decode cX14_release 41 = .ok (.aload_n 0, 1) := by decide +kernel
theorem dX14_release_42 : decode cX14_release 42 = .ok (.iload_n 1, 1) := by decide +kernel
theorem dX14_release_43 : decode cX14_release 43 = .ok (.invokevirtual 580, 3) := by decide +kernel
theorem dX14_release_46 : decode cX14_release 46 = .ok (.ireturn, 1) := by decide +kernel
theorem dX14_discard_0 : decode cX14_discard 0 = .ok (.aload_n 0, 1) := by decide +kernel
theorem dX14_discard_1 : decode cX14_discard 1 = .ok (.iconst 0, 1) := by decide +kernel
theorem dX14_discard_2 : decode cX14_discard 2 = .ok (.putfield 149, 3) := by decide +kernel
theorem dX14_discard_5 : decode cX14_discard 5 = .ok (.aload_n 0, 1) := by decide +kernel
theorem dX14_discard_6 : decode cX14_discard 6 = .ok (.iload_n 1, 1) := by decide +kernel
theorem dX14_discard_7 : decode cX14_discard 7 = .ok (.invokevirtual 566, 3) := by decide +kernel
theorem dX14_discard_10 : decode cX14_discard 10 = .ok (.ifCond .ne 9, 3) := by decide +kernel
theorem dX14_discard_13 : decode cX14_discard 13 = .ok (.aload_n 0, 1) := by decide +kernel
theorem dX14_discard_14 : decode cX14_discard 14 = .ok (.iconst 1, 1) := by decide +kernel
theorem dX14_discard_15 : decode cX14_discard 15 = .ok (.invokevirtual 155, 3) := by decide +kernel
theorem dX14_discard_18 : decode cX14_discard 18 = .ok (.ireturn, 1) := by decide +kernel
theorem dX14_discard_19 : decode cX14_discard 19 = .ok (.aload_n 0, 1) := by decide +kernel
theorem dX14_discard_20 : decode cX14_discard 20 = .ok (.getfield 437, 3) := by decide +kernel
theorem dX14_discard_23 : decode cX14_discard 23 = .ok (.sipush 200, 3) := by decide +kernel
theorem dX14_discard_26 : decode cX14_discard 26 = .ok (.if_icmp .ne 9, 3) := by decide +kernel
theorem dX14_discard_29 : decode cX14_discard 29 = .ok (.aload_n 0, 1) := by decide +kernel
theorem dX14_discard_30 : decode cX14_discard 30 = .ok (.iconst 2, 1) := by decide +kernel
theorem dX14_discard_31 : decode cX14_discard 31 = .ok (.invokevirtual 155, 3) := by decide +kernel
theorem dX14_discard_34 : decode cX14_discard 34 = .ok (.ireturn, 1) := by decide +kernel
theorem dX14_discard_35 : decode cX14_discard 35 = .ok (.aload_n 0, 1) := by decide +kernel
theorem dX14_discard_36 : decode cX14_discard 36 = .ok (.iconst 2, 1) := by decide +kernel
theorem dX14_discard_37 : decode cX14_discard 37 = .ok (.iload_n 1, 1) := by decide +kernel
theorem dX14_discard_38 : decode cX14_discard 38 = .ok (.invokevirtual 557, 3) := by decide +kernel
theorem dX14_discard_41 : decode cX14_discard 41 = .ok (.aload_n 0, 1) := by decide +kernel
theorem dX14_discard_42 : decode cX14_discard 42 = .ok (.getfield 70, 3) := by decide +kernel
theorem dX14_discard_45 : decode cX14_discard 45 = .ok (.iload_n 1, 1) := by decide +kernel
theorem dX14_discard_46 : decode cX14_discard 46 = .ok (.iaload, 1) := by decide +kernel
theorem dX14_discard_47 : decode cX14_discard 47 = .ok (.istore_n 2, 1) := by decide +kernel
theorem dX14_discard_48 : decode cX14_discard 48 = .ok (.aload_n 0, 1) := by decide +kernel
theorem dX14_discard_49 : decode cX14_discard 49 = .ok (.iload_n 1, 1) := by decide +kernel
theorem dX14_discard_50 : decode cX14_discard 50 = .ok (.invokevirtual 577, 3) := by decide +kernel
theorem dX14_discard_53 : decode cX14_discard 53 = .ok (.iload_n 2, 1) := by decide +kernel
theorem dX14_discard_54 : decode cX14_discard 54 = .ok (.ireturn, 1) := by decide +kernel
theorem dX14_broken_0 : decode cX14_broken 0 = .ok (.aload_n 0, 1) := by decide +kernel
theorem dX14_broken_1 : decode cX14_broken 1 = .ok (.iconst 0, 1) := by decide +kernel
theorem dX14_broken_2 : decode cX14_broken 2 = .ok (.putfield 149, 3) := by decide +kernel
theorem dX14_broken_5 : decode cX14_broken 5 = .ok (.iload_n 1, 1) := by decide +kernel
theorem dX14_broken_6 : decode cX14_broken 6 = .ok (.i2l, 1) := by decide +kernel
theorem dX14_broken_7 : decode cX14_broken 7 = .ok (.lconst 0, 1) := by decide +kernel
theorem dX14_broken_8 : decode cX14_broken 8 = .ok (.aload_n 0, 1) := by decide +kernel
theorem dX14_broken_9 : decode cX14_broken 9 = .ok (.getfield 16, 3) := by decide +kernel
theorem dX14_broken_12 : decode cX14_broken 12 = .ok (.getfield 341, 3) := by decide +kernel
theorem dX14_broken_15 : decode cX14_broken 15 = .ok (.iconst 1, 1) := by decide +kernel
theorem dX14_broken_16 : decode cX14_broken 16 = .ok (.isub, 1) := by decide +kernel
theorem dX14_broken_17 : decode cX14_broken 17 = .ok (.i2l, 1) := by decide +kernel
theorem dX14_broken_18 : decode cX14_broken 18 = .ok (.invokestatic 163, 3) := by decide +kernel
theorem dX14_broken_21 : decode cX14_broken 21 = .ok (.ifCond .eq 12, 3) := by decide +kernel
theorem dX14_broken_24 : decode cX14_broken 24 = .ok (.aload_n 0, 1) := by decide +kernel
theorem dX14_broken_25 : decode cX14_broken 25 = .ok (.getfield 76, 3) := by decide +kernel
theorem dX14_broken_28 : decode cX14_broken 28 = .ok (.iload_n 1, 1) := by decide +kernel
theorem dX14_broken_29 : decode cX14_broken 29 = .ok (.iaload, 1) := by decide +kernel
theorem dX14_broken_30 : decode cX14_broken 30 = .ok (.goto 8, 3) := by decide +kernel
theorem dX14_broken_33 : decode cX14_broken 33 = .ok (.aload_n 0, 1) := by decide +kernel
theorem dX14_broken_34 : decode cX14_broken 34 = .ok (.iconst 1, 1) := by decide +kernel
theorem dX14_broken_35 : decode cX14_broken 35 = .ok (.invokevirtual 155, 3) := by decide +kernel
theorem dX14_broken_38 : decode cX14_broken 38 = .ok (.ireturn, 1) := by decide +kernel
theorem dX14_lost_0 : decode cX14_lost 0 = .ok (.aload_n 0, 1) := by decide +kernel
theorem dX14_lost_1 : decode cX14_lost 1 = .ok (.iconst 0, 1) := by decide +kernel
theorem dX14_lost_2 : decode cX14_lost 2 = .ok (.putfield 149, 3) := by decide +kernel
theorem dX14_lost_5 : decode cX14_lost 5 = .ok (.aload_n 0, 1) := by decide +kernel
theorem dX14_lost_6 : decode cX14_lost 6 = .ok (.getfield 453, 3) := by decide +kernel
theorem dX14_lost_9 : decode cX14_lost 9 = .ok (.ireturn, 1) := by decide +kernel
theorem dX14_isStopped_0 : decode cX14_isStopped 0 = .ok (.aload_n 0, 1) := by decide +kernel
theorem dX14_isStopped_1 : decode cX14_isStopped 1 = .ok (.iconst 0, 1) := by decide +kernel
theorem dX14_isStopped_2 : decode cX14_isStopped 2 = .ok (.putfield 149, 3) := by decide +kernel
theorem dX14_isStopped_5 : decode cX14_isStopped 5 = .ok (.aload_n 0, 1) := by decide +kernel
theorem dX14_isStopped_6 : decode cX14_isStopped 6 = .ok (.getfield 456, 3) := by decide +kernel
theorem dX14_isStopped_9 : decode cX14_isStopped 9 = .ok (.ireturn, 1) := by decide +kernel
theorem dX14_go_0 : decode cX14_go 0 = .ok (.aload_n 0, 1) := by decide +kernel
theorem dX14_go_1 : decode cX14_go 1 = .ok (.iconst 0, 1) := by decide +kernel
theorem dX14_go_2 : decode cX14_go 2 = .ok (.putfield 149, 3) := by decide +kernel
theorem dX14_go_5 : decode cX14_go 5 = .ok (.aload_n 0, 1) := by decide +kernel
theorem dX14_go_6 : decode cX14_go 6 = .ok (.getfield 456, 3) := by decide +kernel
theorem dX14_go_9 : decode cX14_go 9 = .ok (.ifCond .eq 13, 3) := by decide +kernel
theorem dX14_go_12 : decode cX14_go 12 = .ok (.aload_n 0, 1) := by decide +kernel
theorem dX14_go_13 : decode cX14_go 13 = .ok (.getfield 437, 3) := by decide +kernel
theorem dX14_go_16 : decode cX14_go 16 = .ok (.sipush 200, 3) := by decide +kernel
theorem dX14_go_19 : decode cX14_go 19 = .ok (.if_icmp .ne 9, 3) := by decide +kernel
theorem dX14_go_22 : decode cX14_go 22 = .ok (.aload_n 0, 1) := by decide +kernel
theorem dX14_go_23 : decode cX14_go 23 = .ok (.iconst 1, 1) := by decide +kernel
theorem dX14_go_24 : decode cX14_go 24 = .ok (.invokevirtual 155, 3) := by decide +kernel
theorem dX14_go_27 : decode cX14_go 27 = .ok (.ireturn, 1) := by decide +kernel
theorem dX14_go_28 : decode cX14_go 28 = .ok (.aload_n 0, 1) := by decide +kernel
theorem dX14_go_29 : decode cX14_go 29 = .ok (.iconst 3, 1) := by decide +kernel
theorem dX14_go_30 : decode cX14_go 30 = .ok (.iconst 0, 1) := by decide +kernel
theorem dX14_go_31 : decode cX14_go 31 = .ok (.invokevirtual 557, 3) := by decide +kernel
theorem dX14_go_34 : decode cX14_go 34 = .ok (.aload_n 0, 1) := by decide +kernel
theorem dX14_go_35 : decode cX14_go 35 = .ok (.iconst 0, 1) := by decide +kernel
theorem dX14_go_36 : decode cX14_go 36 = .ok (.putfield 456, 3) := by decide +kernel
theorem dX14_go_39 : decode cX14_go 39 = .ok (.aload_n 0, 1) := by decide +kernel
theorem dX14_go_40 : decode cX14_go 40 = .ok (.getfield 440, 3) := by decide +kernel
theorem dX14_go_43 : decode cX14_go 43 = .ok (.ireturn, 1) := by decide +kernel
theorem dX14_mark_0 : decode cX14_mark 0 = .ok (.aload_n 0, 1) := by decide +kernel
theorem dX14_mark_1 : decode cX14_mark 1 = .ok (.iconst 0, 1) := by decide +kernel
theorem dX14_mark_2 : decode cX14_mark 2 = .ok (.putfield 149, 3) := by decide +kernel
theorem dX14_mark_5 : decode cX14_mark 5 = .ok (.aload_n 0, 1) := by decide +kernel
theorem dX14_mark_6 : decode cX14_mark 6 = .ok (.getfield 16, 3) := by decide +kernel
theorem dX14_mark_9 : decode cX14_mark 9 = .ok (.getfield 298, 3) := by decide +kernel
theorem dX14_mark_12 : decode cX14_mark 12 = .ok (.ifCond .eq 12, 3) := by decide +kernel
theorem dX14_mark_15 : decode cX14_mark 15 = .ok (.aload_n 0, 1) := by decide +kernel
theorem dX14_mark_16 : decode cX14_mark 16 = .ok (.getfield 423, 3) := by decide +kernel
theorem dX14_mark_19 : decode cX14_mark 19 = .ok (.bipush 8, 2) := by decide +kernel
theorem dX14_mark_21 : decode cX14_mark 21 = .ok (.if_icmp .ne 9, 3) := by decide +kernel
theorem dX14_mark_24 : decode cX14_mark 24 = .ok (.aload_n 0, 1) := by decide +kernel
theorem dX14_mark_25 : decode cX14_mark 25 = .ok (.iconst 1, 1) := by decide +kernel
theorem dX14_mark_26 : decode cX14_mark 26 = .ok (.invokevirtual 155, 3) := by decide +kernel
theorem dX14_mark_29 : decode cX14_mark 29 = .ok (.ireturn, 1) := by decide +kernel
theorem dX14_mark_30 : decode cX14_mark 30 = .ok (.aload_n 0, 1) := by decide +kernel
theorem dX14_mark_31 : decode cX14_mark 31 = .ok (.getfield 119, 3) := by decide +kernel
theorem dX14_mark_34 : decode cX14_mark 34 = .ok (.aload_n 0, 1) := by decide +kernel
theorem dX14_mark_35 : decode cX14_mark 35 = .ok (.getfield 423, 3) := by decide +kernel
theorem dX14_mark_38 : decode cX14_mark 38 = .ok (.aload_n 0, 1) := by decide +kernel
theorem dX14_mark_39 : decode cX14_mark 39 = .ok (.getfield 437, 3) := by decide +kernel
theorem dX14_mark_42 : decode cX14_mark 42 = .ok (.iastore, 1) := by decide +kernel
theorem dX14_mark_43 : decode cX14_mark 43 = .ok (.aload_n 0, 1) := by decide +kernel
theorem dX14_mark_44 : decode cX14_mark 44 = .ok (.dup, 1) := by decide +kernel
theorem dX14_mark_45 : decode cX14_mark 45 = .ok (.getfield 423, 3) := by decide +kernel
theorem dX14_mark_48 : decode cX14_mark 48 = .ok (.iconst 1, 1) := by decide +kernel
theorem dX14_mark_49 : decode cX14_mark 49 = .ok (.iadd, 1) := by decide +kernel
theorem dX14_mark_50 : decode cX14_mark 50 = .ok (.putfield 423, 3) := by decide +kernel
theorem dX14_mark_53 : decode cX14_mark 53 = .ok (.aload_n 0, 1) := by decide +kernel
theorem dX14_mark_54 : decode cX14_mark 54 = .ok (.getfield 423, 3) := by decide +kernel
theorem dX14_mark_57 : decode cX14_mark 57 = .ok (.iconst 1, 1) := by decide +kernel
theorem dX14_mark_58 : decode cX14_mark 58 = .ok (.isub, 1) := by decide +kernel
theorem dX14_mark_59 : decode cX14_mark 59 = .ok (.ireturn, 1) := by decide +kernel
theorem dX14_again_0 : decode cX14_again 0 = .ok (.aload_n 0, 1) := by decide +kernel
theorem dX14_again_1 : decode cX14_again 1 = .ok (.getfield 107, 3) := by decide +kernel
theorem dX14_again_4 : decode cX14_again 4 = .ok (.iload_n 1, 1) := by decide +kernel
theorem dX14_again_5 : decode cX14_again 5 = .ok (.iaload, 1) := by decide +kernel
theorem dX14_again_6 : decode cX14_again 6 = .ok (.istore_n 2, 1) := by decide +kernel
theorem dX14_again_7 : decode cX14_again 7 = .ok (.aload_n 0, 1) := by decide +kernel
theorem dX14_again_8 : decode cX14_again 8 = .ok (.getfield 104, 3) := by decide +kernel
theorem dX14_again_11 : decode cX14_again 11 = .ok (.iload_n 1, 1) := by decide +kernel
theorem dX14_again_12 : decode cX14_again 12 = .ok (.iaload, 1) := by decide +kernel
theorem dX14_again_13 : decode cX14_again 13 = .ok (.ifCond .ne 93, 3) := by decide +kernel
theorem dX14_again_16 : decode cX14_again 16 = .ok (.aload_n 0, 1) := by decide +kernel
theorem dX14_again_17 : decode cX14_again 17 = .ok (.getfield 16, 3) := by decide +kernel
theorem dX14_again_20 : decode cX14_again 20 = .ok (.getfield 295, 3) := by decide +kernel
theorem dX14_again_23 : decode cX14_again 23 = .ok (.iconst 0, 1) := by decide +kernel
theorem dX14_again_24 : decode cX14_again 24 = .ok (.aload_n 0, 1) := by decide +kernel
theorem dX14_again_25 : decode cX14_again 25 = .ok (.getfield 16, 3) := by decide +kernel
theorem dX14_again_28 : decode cX14_again 28 = .ok (.getfield 298, 3) := by decide +kernel
theorem dX14_again_31 : decode cX14_again 31 = .ok (.aload_n 0, 1) := by decide +kernel
theorem dX14_again_32 : decode cX14_again 32 = .ok (.getfield 113, 3) := by decide +kernel
theorem dX14_again_35 : decode cX14_again 35 = .ok (.iload_n 1, 1) := by decide +kernel
theorem dX14_again_36 : decode cX14_again 36 = .ok (.laload, 1) := by decide +kernel
theorem dX14_again_37 : decode cX14_again 37 = .ok (.invokestatic 192, 3) := by decide +kernel
theorem dX14_again_40 : decode cX14_again 40 = .ok (.istore_n 3, 1) := by decide +kernel
theorem dX14_again_41 : decode cX14_again 41 = .ok (.aload_n 0, 1) := by decide +kernel
theorem dX14_again_42 : decode cX14_again 42 = .ok (.getfield 456, 3) := by decide +kernel
theorem dX14_again_45 : decode cX14_again 45 = .ok (.ifCond .ne 38, 3) := by decide +kernel
theorem dX14_again_48 : decode cX14_again 48 = .ok (.iload_n 3, 1) := by decide +kernel
theorem dX14_again_49 : decode cX14_again 49 = .ok (.iconst (-1), 1) := by decide +kernel
theorem dX14_again_50 : decode cX14_again 50 = .ok (.if_icmp .eq 33, 3) := by decide +kernel
theorem dX14_again_53 : decode cX14_again 53 = .ok (.aload_n 0, 1) := by decide +kernel
theorem dX14_again_54 : decode cX14_again 54 = .ok (.getfield 16, 3) := by decide +kernel
theorem dX14_again_57 : decode cX14_again 57 = .ok (.getfield 368, 3) := by decide +kernel
theorem dX14_again_60 : decode cX14_again 60 = .ok (.iload_n 3, 1) := by decide +kernel
theorem dX14_again_61 : decode cX14_again 61 = .ok (.iaload, 1) := by decide +kernel
theorem dX14_again_62 : decode cX14_again 62 = .ok (.ifCond .ne 21, 3) := by decide +kernel
theorem dX14_again_65 : decode cX14_again 65 = .ok (.aload_n 0, 1) := by decide +kernel
theorem dX14_again_66 : decode cX14_again 66 = .ok (.getfield 16, 3) := by decide +kernel
theorem dX14_again_69 : decode cX14_again 69 = .ok (.getfield 292, 3) := by decide +kernel
theorem dX14_again_72 : decode cX14_again 72 = .ok (.iload_n 3, 1) := by decide +kernel
theorem dX14_again_73 : decode cX14_again 73 = .ok (.iaload, 1) := by decide +kernel
theorem dX14_again_74 : decode cX14_again 74 = .ok (.aload_n 0, 1) := by decide +kernel
theorem dX14_again_75 : decode cX14_again 75 = .ok (.getfield 110, 3) := by decide +kernel
theorem dX14_again_78 : decode cX14_again 78 = .ok (.iload_n 1, 1) := by decide +kernel
theorem dX14_again_79 : decode cX14_again 79 = .ok (.iaload, 1) := by decide +kernel
theorem dX14_again_80 : decode cX14_again 80 = .ok (.if_icmp .eq 5, 3) := by decide +kernel
theorem dX14_again_83 : decode cX14_again 83 = .ok (.iconst 1, 1) := by decide +kernel
theorem dX14_again_84 : decode cX14_again 84 = .ok (.ireturn, 1) := by decide +kernel
theorem dX14_again_85 : decode cX14_again 85 = .ok (.aload_n 0, 1) := by decide +kernel
theorem dX14_again_86 : decode cX14_again 86 = .ok (.aload_n 0, 1) := by decide +kernel
theorem dX14_again_87 : decode cX14_again 87 = .ok (.iload_n 3, 1) := by decide +kernel
theorem dX14_again_88 : decode cX14_again 88 = .ok (.iload_n 2, 1) := by decide +kernel
theorem dX14_again_89 : decode cX14_again 89 = .ok (.aload_n 0, 1) := by decide +kernel
theorem dX14_again_90 : decode cX14_again 90 = .ok (.getfield 116, 3) := by decide +kernel
theorem dX14_again_93 : decode cX14_again 93 = .ok (.bipush 6, 2) := by decide +kernel
theorem dX14_again_95 : decode cX14_again 95 = .ok (.iload_n 1, 1) := by decide +kernel
theorem dX14_again_96 : decode cX14_again 96 = .ok (.imul, 1) := by decide +kernel
theorem dX14_again_97 : decode cX14_again 97 = .ok (.invokevirtual 560, 3) := by decide +kernel
theorem dX14_again_100 : decode cX14_again 100 = .ok (.putfield 478, 3) := by decide +kernel
theorem dX14_again_103 : decode cX14_again 103 = .ok (.goto 67, 3) := by decide +kernel
theorem dX14_again_106 : decode cX14_again 106 = .ok (.aload_n 0, 1) := by decide +kernel
theorem dX14_again_107 : decode cX14_again 107 = .ok (.getfield 104, 3) := by decide +kernel
theorem dX14_again_110 : decode cX14_again 110 = .ok (.iload_n 1, 1) := by decide +kernel
theorem dX14_again_111 : decode cX14_again 111 = .ok (.iaload, 1) := by decide +kernel
theorem dX14_again_112 : decode cX14_again 112 = .ok (.iconst 3, 1) := by decide +kernel
theorem dX14_again_113 : decode cX14_again 113 = .ok (.if_icmp .ne 20, 3) := by decide +kernel
theorem dX14_again_116 : decode cX14_again 116 = .ok (.aload_n 0, 1) := by decide +kernel
theorem dX14_again_117 : decode cX14_again 117 = .ok (.getfield 456, 3) := by decide +kernel
theorem dX14_again_120 : decode cX14_again 120 = .ok (.ifCond .ne 5, 3) := by decide +kernel
theorem dX14_again_123 : decode cX14_again 123 = .ok (.iconst 1, 1) := by decide +kernel
theorem dX14_again_124 : decode cX14_again 124 = .ok (.ireturn, 1) := by decide +kernel
theorem dX14_again_125 : decode cX14_again 125 = .ok (.aload_n 0, 1) := by decide +kernel
theorem dX14_again_126 : decode cX14_again 126 = .ok (.iconst 0, 1) := by decide +kernel
theorem dX14_again_127 : decode cX14_again 127 = .ok (.putfield 456, 3) := by decide +kernel
theorem dX14_again_130 : decode cX14_again 130 = .ok (.goto 40, 3) := by decide +kernel
theorem dX14_again_133 : decode cX14_again 133 = .ok (.aload_n 0, 1) := by decide +kernel
theorem dX14_again_134 : decode cX14_again 134 = .ok (.iload_n 2, 1) := by decide +kernel
theorem dX14_again_135 : decode cX14_again 135 = .ok (.invokevirtual 566, 3) := by decide +kernel
theorem dX14_again_138 : decode cX14_again 138 = .ok (.ifCond .ne 5, 3) := by decide +kernel
theorem dX14_again_141 : decode cX14_again 141 = .ok (.iconst 1, 1) := by decide +kernel
theorem dX14_again_142 : decode cX14_again 142 = .ok (.ireturn, 1) := by decide +kernel
theorem dX14_again_143 : decode cX14_again 143 = .ok (.aload_n 0, 1) := by decide +kernel
theorem dX14_again_144 : decode cX14_again 144 = .ok (.getfield 104, 3) := by decide +kernel
theorem dX14_again_147 : decode cX14_again 147 = .ok (.iload_n 1, 1) := by decide +kernel
theorem dX14_again_148 : decode cX14_again 148 = .ok (.iaload, 1) := by decide +kernel
theorem dX14_again_149 : decode cX14_again 149 = .ok (.iconst 1, 1) := by decide +kernel
theorem dX14_again_150 : decode cX14_again 150 = .ok (.if_icmp .ne 15, 3) := by decide +kernel
theorem dX14_again_153 : decode cX14_again 153 = .ok (.aload_n 0, 1) := by decide +kernel
theorem dX14_again_154 : decode cX14_again 154 = .ok (.aload_n 0, 1) := by decide +kernel
theorem dX14_again_155 : decode cX14_again 155 = .ok (.iload_n 2, 1) := by decide +kernel
theorem dX14_again_156 : decode cX14_again 156 = .ok (.invokevirtual 580, 3) := by decide +kernel
theorem dX14_again_159 : decode cX14_again 159 = .ok (.putfield 478, 3) := by decide +kernel
theorem dX14_again_162 : decode cX14_again 162 = .ok (.goto 8, 3) := by decide +kernel
theorem dX14_again_165 : decode cX14_again 165 = .ok (.aload_n 0, 1) := by decide +kernel
theorem dX14_again_166 : decode cX14_again 166 = .ok (.iload_n 2, 1) := by decide +kernel
theorem dX14_again_167 : decode cX14_again 167 = .ok (.invokevirtual 577, 3) := by decide +kernel
theorem dX14_again_170 : decode cX14_again 170 = .ok (.iconst 0, 1) := by decide +kernel
theorem dX14_again_171 : decode cX14_again 171 = .ok (.ireturn, 1) := by decide +kernel
theorem dX14_doAgain_0 : decode cX14_doAgain 0 = .ok (.aload_n 0, 1) := by decide +kernel
theorem dX14_doAgain_1 : decode cX14_doAgain 1 = .ok (.invokevirtual 426, 3) := by decide +kernel
theorem dX14_doAgain_4 : decode cX14_doAgain 4 = .ok (.iconst 0, 1) := by decide +kernel
theorem dX14_doAgain_5 : decode cX14_doAgain 5 = .ok (.istore_n 1, 1) := by decide +kernel
theorem dX14_doAgain_6 : decode cX14_doAgain 6 = .ok (.iconst 0, 1) := by decide +kernel
theorem dX14_doAgain_7 : decode cX14_doAgain 7 = .ok (.istore_n 2, 1) := by decide +kernel
theorem dX14_doAgain_8 : decode cX14_doAgain 8 = .ok (.iload_n 2, 1) := by decide +kernel
theorem dX14_doAgain_9 : decode cX14_doAgain 9 = .ok (.aload_n 0, 1) := by decide +kernel
theorem dX14_doAgain_10 : decode cX14_doAgain 10 = .ok (.getfield 437, 3) := by decide +kernel
theorem dX14_doAgain_13 : decode cX14_doAgain 13 = .ok (.if_icmp .ge 25, 3) := by decide +kernel
theorem dX14_doAgain_16 : decode cX14_doAgain 16 = .ok (.iload_n 1, 1) := by decide +kernel
theorem dX14_doAgain_17 : decode cX14_doAgain 17 = .ok (.aload_n 0, 1) := by decide +kernel
theorem dX14_doAgain_18 : decode cX14_doAgain 18 = .ok (.iload_n 2, 1) := by decide +kernel
theorem dX14_doAgain_19 : decode cX14_doAgain 19 = .ok (.invokevirtual 583, 3) := by decide +kernel
theorem dX14_doAgain_22 : decode cX14_doAgain 22 = .ok (.ifCond .eq 7, 3) := by decide +kernel
theorem dX14_doAgain_25 : decode cX14_doAgain 25 = .ok (.iconst 1, 1) := by decide +kernel
theorem dX14_doAgain_26 : decode cX14_doAgain 26 = .ok (.goto 4, 3) := by decide +kernel
theorem dX14_doAgain_29 : decode cX14_doAgain 29 = .ok (.iconst 0, 1) := by decide +kernel
theorem dX14_doAgain_30 : decode cX14_doAgain 30 = .ok (.iadd, 1) := by decide +kernel
theorem dX14_doAgain_31 : decode cX14_doAgain 31 = .ok (.istore_n 1, 1) := by decide +kernel
theorem dX14_doAgain_32 : decode cX14_doAgain 32 = .ok (.iinc 2 1, 3) := by decide +kernel
theorem dX14_doAgain_35 : decode cX14_doAgain 35 = .ok (.goto (-27), 3) := by decide +kernel
theorem dX14_doAgain_38 : decode cX14_doAgain 38 = .ok (.iload_n 1, 1) := by decide +kernel
theorem dX14_doAgain_39 : decode cX14_doAgain 39 = .ok (.ireturn, 1) := by decide +kernel
theorem dX14_back_0 : decode cX14_back 0 = .ok (.aload_n 0, 1) := by decide +kernel
theorem dX14_back_1 : decode cX14_back 1 = .ok (.iconst 0, 1) := by decide +kernel
theorem dX14_back_2 : decode cX14_back 2 = .ok (.putfield 149, 3) := by decide +kernel
theorem dX14_back_5 : decode cX14_back 5 = .ok (.iload_n 1, 1) := by decide +kernel
theorem dX14_back_6 : decode cX14_back 6 = .ok (.i2l, 1) := by decide +kernel
theorem dX14_back_7 : decode cX14_back 7 = .ok (.lconst 0, 1) := by decide +kernel
theorem dX14_back_8 : decode cX14_back 8 = .ok (.aload_n 0, 1) := by decide +kernel
theorem dX14_back_9 : decode cX14_back 9 = .ok (.getfield 423, 3) := by decide +kernel
theorem dX14_back_12 : decode cX14_back 12 = .ok (.iconst 1, 1) := by decide +kernel
theorem dX14_back_13 : decode cX14_back 13 = .ok (.isub, 1) := by decide +kernel
theorem dX14_back_14 : decode cX14_back 14 = .ok (.i2l, 1) := by decide +kernel
theorem dX14_back_15 : decode cX14_back 15 = .ok (.invokestatic 163, 3) := by decide +kernel
theorem dX14_back_18 : decode cX14_back 18 = .ok (.ifCond .ne 9, 3) := by decide +kernel
theorem dX14_back_21 : decode cX14_back 21 = .ok (.aload_n 0, 1) := by decide +kernel
theorem dX14_back_22 : decode cX14_back 22 = .ok (.iconst 1, 1) := by decide +kernel
theorem dX14_back_23 : decode cX14_back 23 = .ok (.invokevirtual 155, 3) := by decide +kernel
theorem dX14_back_26 : decode cX14_back 26 = .ok (.ireturn, 1) := by decide +kernel
theorem dX14_back_27 : decode cX14_back 27 = .ok (.aload_n 0, 1) := by decide +kernel
theorem dX14_back_28 : decode cX14_back 28 = .ok (.getfield 437, 3) := by decide +kernel
theorem dX14_back_31 : decode cX14_back 31 = .ok (.aload_n 0, 1) := by decide +kernel
theorem dX14_back_32 : decode cX14_back 32 = .ok (.getfield 119, 3) := by decide +kernel
theorem dX14_back_35 : decode cX14_back 35 = .ok (.iload_n 1, 1) := by decide +kernel
theorem dX14_back_36 : decode cX14_back 36 = .ok (.iaload, 1) := by decide +kernel
theorem dX14_back_37 : decode cX14_back 37 = .ok (.isub, 1) := by decide +kernel
theorem dX14_back_38 : decode cX14_back 38 = .ok (.istore_n 2, 1) := by decide +kernel
theorem dX14_back_39 : decode cX14_back 39 = .ok (.aload_n 0, 1) := by decide +kernel
theorem dX14_back_40 : decode cX14_back 40 = .ok (.aload_n 0, 1) := by decide +kernel
theorem dX14_back_41 : decode cX14_back 41 = .ok (.getfield 119, 3) := by decide +kernel
theorem dX14_back_44 : decode cX14_back 44 = .ok (.iload_n 1, 1) := by decide +kernel
theorem dX14_back_45 : decode cX14_back 45 = .ok (.iaload, 1) := by decide +kernel
theorem dX14_back_46 : decode cX14_back 46 = .ok (.putfield 437, 3) := by decide +kernel
theorem dX14_back_49 : decode cX14_back 49 = .ok (.aload_n 0, 1) := by decide +kernel
theorem dX14_back_50 : decode cX14_back 50 = .ok (.iload_n 1, 1) := by decide +kernel
theorem dX14_back_51 : decode cX14_back 51 = .ok (.iconst 1, 1) := by decide +kernel
theorem dX14_back_52 : decode cX14_back 52 = .ok (.iadd, 1) := by decide +kernel
theorem dX14_back_53 : decode cX14_back 53 = .ok (.putfield 423, 3) := by decide +kernel
theorem dX14_back_56 : decode cX14_back 56 = .ok (.aload_n 0, 1) := by decide +kernel
theorem dX14_back_57 : decode cX14_back 57 = .ok (.invokevirtual 586, 3) := by decide +kernel
theorem dX14_back_60 : decode cX14_back 60 = .ok (.istore_n 3, 1) := by decide +kernel
theorem dX14_back_61 : decode cX14_back 61 = .ok (.iload_n 3, 1) := by decide +kernel
theorem dX14_back_62 : decode cX14_back 62 = .ok (.ifCond .ge 7, 3) := by decide +kernel
theorem dX14_back_65 : decode cX14_back 65 = .ok (.iconst 0, 1) := by decide +kernel
theorem dX14_back_66 : decode cX14_back 66 = .ok (.goto 4, 3) := by decide +kernel
theorem dX14_back_69 : decode cX14_back 69 = .ok (.iload_n 2, 1) := by decide +kernel
theorem dX14_back_70 : decode cX14_back 70 = .ok (.ireturn, 1) := by decide +kernel
theorem dX14_replay_0 : decode cX14_replay 0 = .ok (.aload_n 0, 1) := by decide +kernel
theorem dX14_replay_1 : decode cX14_replay 1 = .ok (.iconst 0, 1) := by decide +kernel
theorem dX14_replay_2 : decode cX14_replay 2 = .ok (.putfield 149, 3) := by decide +kernel
theorem dX14_replay_5 : decode cX14_replay 5 = .ok (.aload_n 0, 1) := by decide +kernel
theorem dX14_replay_6 : decode cX14_replay 6 = .ok (.getfield 16, 3) := by decide +kernel
theorem dX14_replay_9 : decode cX14_replay 9 = .ok (.getfield 298, 3) := by decide +kernel
theorem dX14_replay_12 : decode cX14_replay 12 = .ok (.ifCond .ne 11, 3) := by decide +kernel
theorem dX14_replay_15 : decode cX14_replay 15 = .ok (.aload_n 0, 1) := by decide +kernel
theorem dX14_replay_16 : decode cX14_replay 16 = .ok (.iconst 1, 1) := by decide +kernel
theorem dX14_replay_17 : decode cX14_replay 17 = .ok (.invokevirtual 155, 3) := by decide +kernel
theorem dX14_replay_20 : decode cX14_replay 20 = .ok (.goto 7, 3) := by decide +kernel
theorem dX14_replay_23 : decode cX14_replay 23 = .ok (.aload_n 0, 1) := by decide +kernel
theorem dX14_replay_24 : decode cX14_replay 24 = .ok (.invokevirtual 586, 3) := by decide +kernel
theorem dX14_replay_27 : decode cX14_replay 27 = .ok (.ireturn, 1) := by decide +kernel
theorem dX14_keepOld_0 : decode cX14_keepOld 0 = .ok (.aload_n 0, 1) := by decide +kernel
theorem dX14_keepOld_1 : decode cX14_keepOld 1 = .ok (.aload_n 0, 1) := by decide +kernel
theorem dX14_keepOld_2 : decode cX14_keepOld 2 = .ok (.getfield 16, 3) := by decide +kernel
theorem dX14_keepOld_5 : decode cX14_keepOld 5 = .ok (.getfield 298, 3) := by decide +kernel
theorem dX14_keepOld_8 : decode cX14_keepOld 8 = .ok (.putfield 589, 3) := by decide +kernel
theorem dX14_keepOld_11 : decode cX14_keepOld 11 = .ok (.iconst 0, 1) := by decide +kernel
theorem dX14_keepOld_12 : decode cX14_keepOld 12 = .ok (.istore_n 1, 1) := by decide +kernel
theorem dX14_keepOld_13 : decode cX14_keepOld 13 = .ok (.iload_n 1, 1) := by decide +kernel
theorem dX14_keepOld_14 : decode cX14_keepOld 14 = .ok (.aload_n 0, 1) := by decide +kernel
theorem dX14_keepOld_15 : decode cX14_keepOld 15 = .ok (.getfield 589, 3) := by decide +kernel
theorem dX14_keepOld_18 : decode cX14_keepOld 18 = .ok (.if_icmp .ge 51, 3) := by decide +kernel
theorem dX14_keepOld_21 : decode cX14_keepOld 21 = .ok (.aload_n 0, 1) := by decide +kernel
theorem dX14_keepOld_22 : decode cX14_keepOld 22 = .ok (.getfield 125, 3) := by decide +kernel
theorem dX14_keepOld_25 : decode cX14_keepOld 25 = .ok (.iload_n 1, 1) := by decide +kernel
theorem dX14_keepOld_26 : decode cX14_keepOld 26 = .ok (.aload_n 0, 1) := by decide +kernel
theorem dX14_keepOld_27 : decode cX14_keepOld 27 = .ok (.getfield 16, 3) := by decide +kernel
theorem dX14_keepOld_30 : decode cX14_keepOld 30 = .ok (.getfield 295, 3) := by decide +kernel
theorem dX14_keepOld_33 : decode cX14_keepOld 33 = .ok (.iload_n 1, 1) := by decide +kernel
theorem dX14_keepOld_34 : decode cX14_keepOld 34 = .ok (.laload, 1) := by decide +kernel
theorem dX14_keepOld_35 : decode cX14_keepOld 35 = .ok (.lastore, 1) := by decide +kernel
theorem dX14_keepOld_36 : decode cX14_keepOld 36 = .ok (.aload_n 0, 1) := by decide +kernel
theorem dX14_keepOld_37 : decode cX14_keepOld 37 = .ok (.getfield 128, 3) := by decide +kernel
theorem dX14_keepOld_40 : decode cX14_keepOld 40 = .ok (.iload_n 1, 1) := by decide +kernel
theorem dX14_keepOld_41 : decode cX14_keepOld 41 = .ok (.aload_n 0, 1) := by decide +kernel
theorem dX14_keepOld_42 : decode cX14_keepOld 42 = .ok (.getfield 16, 3) := by decide +kernel
theorem dX14_keepOld_45 : decode cX14_keepOld 45 = .ok (.getfield 292, 3) := by decide +kernel
theorem dX14_keepOld_48 : decode cX14_keepOld 48 = .ok (.iload_n 1, 1) := by decide +kernel
theorem dX14_keepOld_49 : decode cX14_keepOld 49 = .ok (.iaload, 1) := by decide +kernel
theorem dX14_keepOld_50 : decode cX14_keepOld 50 = .ok (.iastore, 1) := by decide +kernel
theorem dX14_keepOld_51 : decode cX14_keepOld 51 = .ok (.aload_n 0, 1) := by decide +kernel
theorem dX14_keepOld_52 : decode cX14_keepOld 52 = .ok (.getfield 131, 3) := by decide +kernel
theorem dX14_keepOld_55 : decode cX14_keepOld 55 = .ok (.iload_n 1, 1) := by decide +kernel
theorem dX14_keepOld_56 : decode cX14_keepOld 56 = .ok (.aload_n 0, 1) := by decide +kernel
theorem dX14_keepOld_57 : decode cX14_keepOld 57 = .ok (.getfield 49, 3) := by decide +kernel
theorem dX14_keepOld_60 : decode cX14_keepOld 60 = .ok (.iload_n 1, 1) := by decide +kernel
theorem dX14_keepOld_61 : decode cX14_keepOld 61 = .ok (.iaload, 1) := by decide +kernel
theorem dX14_keepOld_62 : decode cX14_keepOld 62 = .ok (.iastore, 1) := by decide +kernel
theorem dX14_keepOld_63 : decode cX14_keepOld 63 = .ok (.iinc 1 1, 3) := by decide +kernel
theorem dX14_keepOld_66 : decode cX14_keepOld 66 = .ok (.goto (-53), 3) := by decide +kernel
theorem dX14_keepOld_69 : decode cX14_keepOld 69 = .ok (.aload_n 0, 1) := by decide +kernel
theorem dX14_keepOld_70 : decode cX14_keepOld 70 = .ok (.getfield 46, 3) := by decide +kernel
theorem dX14_keepOld_73 : decode cX14_keepOld 73 = .ok (.iconst 0, 1) := by decide +kernel
theorem dX14_keepOld_74 : decode cX14_keepOld 74 = .ok (.aload_n 0, 1) := by decide +kernel
theorem dX14_keepOld_75 : decode cX14_keepOld 75 = .ok (.getfield 134, 3) := by decide +kernel
theorem dX14_keepOld_78 : decode cX14_keepOld 78 = .ok (.iconst 0, 1) := by decide +kernel
theorem dX14_keepOld_79 : decode cX14_keepOld 79 = .ok (.aload_n 0, 1) := by decide +kernel
theorem dX14_keepOld_80 : decode cX14_keepOld 80 = .ok (.getfield 46, 3) := by decide +kernel
theorem dX14_keepOld_83 : decode cX14_keepOld 83 = .ok (.arraylength, 1) := by decide +kernel
theorem dX14_keepOld_84 : decode cX14_keepOld 84 = .ok (.invokestatic 469, 3) := by decide +kernel
theorem dX14_keepOld_87 : decode cX14_keepOld 87 = .ok (.return_, 1) := by decide +kernel
theorem dX14_changed_0 : decode cX14_changed 0 = .ok (.aload_n 0, 1) := by decide +kernel
theorem dX14_changed_1 : decode cX14_changed 1 = .ok (.iconst 0, 1) := by decide +kernel
theorem dX14_changed_2 : decode cX14_changed 2 = .ok (.putfield 149, 3) := by decide +kernel
theorem dX14_changed_5 : decode cX14_changed 5 = .ok (.aload_n 0, 1) := by decide +kernel
theorem dX14_changed_6 : decode cX14_changed 6 = .ok (.iload_n 1, 1) := by decide +kernel
theorem dX14_changed_7 : decode cX14_changed 7 = .ok (.invokevirtual 448, 3) := by decide +kernel
theorem dX14_changed_10 : decode cX14_changed 10 = .ok (.ifCond .ne 9, 3) := by decide +kernel
theorem dX14_changed_13 : decode cX14_changed 13 = .ok (.aload_n 0, 1) := by decide +kernel
theorem dX14_changed_14 : decode cX14_changed 14 = .ok (.iconst 1, 1) := by decide +kernel
theorem dX14_changed_15 : decode cX14_changed 15 = .ok (.invokevirtual 155, 3) := by decide +kernel
theorem dX14_changed_18 : decode cX14_changed 18 = .ok (.ireturn, 1) := by decide +kernel
theorem dX14_changed_19 : decode cX14_changed 19 = .ok (.aload_n 0, 1) := by decide +kernel
theorem dX14_changed_20 : decode cX14_changed 20 = .ok (.getfield 125, 3) := by decide +kernel
theorem dX14_changed_23 : decode cX14_changed 23 = .ok (.iconst 0, 1) := by decide +kernel
theorem dX14_changed_24 : decode cX14_changed 24 = .ok (.aload_n 0, 1) := by decide +kernel
theorem dX14_changed_25 : decode cX14_changed 25 = .ok (.getfield 589, 3) := by decide +kernel
theorem dX14_changed_28 : decode cX14_changed 28 = .ok (.aload_n 0, 1) := by decide +kernel
theorem dX14_changed_29 : decode cX14_changed 29 = .ok (.getfield 16, 3) := by decide +kernel
theorem dX14_changed_32 : decode cX14_changed 32 = .ok (.getfield 295, 3) := by decide +kernel
theorem dX14_changed_35 : decode cX14_changed 35 = .ok (.iload_n 1, 1) := by decide +kernel
theorem dX14_changed_36 : decode cX14_changed 36 = .ok (.laload, 1) := by decide +kernel
theorem dX14_changed_37 : decode cX14_changed 37 = .ok (.invokestatic 192, 3) := by decide +kernel
theorem dX14_changed_40 : decode cX14_changed 40 = .ok (.istore_n 2, 1) := by decide +kernel
theorem dX14_changed_41 : decode cX14_changed 41 = .ok (.iload_n 2, 1) := by decide +kernel
theorem dX14_changed_42 : decode cX14_changed 42 = .ok (.iconst (-1), 1) := by decide +kernel
theorem dX14_changed_43 : decode cX14_changed 43 = .ok (.if_icmp .ne 10, 3) := by decide +kernel
theorem dX14_changed_46 : decode cX14_changed 46 = .ok (.aload_n 0, 1) := by decide +kernel
theorem dX14_changed_47 : decode cX14_changed 47 = .ok (.getfield 49, 3) := by decide +kernel
theorem dX14_changed_50 : decode cX14_changed 50 = .ok (.iload_n 1, 1) := by decide +kernel
theorem dX14_changed_51 : decode cX14_changed 51 = .ok (.iaload, 1) := by decide +kernel
theorem dX14_changed_52 : decode cX14_changed 52 = .ok (.ireturn, 1) := by decide +kernel
theorem dX14_changed_53 : decode cX14_changed 53 = .ok (.aload_n 0, 1) := by decide +kernel
theorem dX14_changed_54 : decode cX14_changed 54 = .ok (.getfield 49, 3) := by decide +kernel
theorem dX14_changed_57 : decode cX14_changed 57 = .ok (.iload_n 1, 1) := by decide +kernel
theorem dX14_changed_58 : decode cX14_changed 58 = .ok (.iaload, 1) := by decide +kernel
theorem dX14_changed_59 : decode cX14_changed 59 = .ok (.aload_n 0, 1) := by decide +kernel
theorem dX14_changed_60 : decode cX14_changed 60 = .ok (.getfield 131, 3) := by decide +kernel
theorem dX14_changed_63 : decode cX14_changed 63 = .ok (.iload_n 2, 1) := by decide +kernel
theorem dX14_changed_64 : decode cX14_changed 64 = .ok (.iaload, 1) := by decide +kernel
theorem dX14_changed_65 : decode cX14_changed 65 = .ok (.isub, 1) := by decide +kernel
theorem dX14_changed_66 : decode cX14_changed 66 = .ok (.invokestatic 592, 3) := by decide +kernel
theorem dX14_changed_69 : decode cX14_changed 69 = .ok (.istore_n 3, 1) := by decide +kernel
theorem dX14_changed_70 : decode cX14_changed 70 = .ok (.iconst 0, 1) := by decide +kernel
theorem dX14_changed_71 : decode cX14_changed 71 = .ok (.istore 4, 2) := by decide +kernel
theorem dX14_changed_73 : decode cX14_changed 73 = .ok (.iload 4, 2) := by decide +kernel
theorem dX14_changed_75 : decode cX14_changed 75 = .ok (.aload_n 0, 1) := by decide +kernel
theorem dX14_changed_76 : decode cX14_changed 76 = .ok (.getfield 49, 3) := by decide +kernel
theorem dX14_changed_79 : decode cX14_changed 79 = .ok (.iload_n 1, 1) := by decide +kernel
theorem dX14_changed_80 : decode cX14_changed 80 = .ok (.iaload, 1) := by decide +kernel
theorem dX14_changed_81 : decode cX14_changed 81 = .ok (.if_icmp .ge 122, 3) := by decide +kernel
theorem dX14_changed_84 : decode cX14_changed 84 = .ok (.iload 4, 2) := by decide +kernel
theorem dX14_changed_86 : decode cX14_changed 86 = .ok (.aload_n 0, 1) := by decide +kernel
theorem dX14_changed_87 : decode cX14_changed 87 = .ok (.getfield 131, 3) := by decide +kernel
theorem dX14_changed_90 : decode cX14_changed 90 = .ok (.iload_n 2, 1) := by decide +kernel
theorem dX14_changed_91 : decode cX14_changed 91 = .ok (.iaload, 1) := by decide +kernel
theorem dX14_changed_92 : decode cX14_changed 92 = .ok (.if_icmp .ge 111, 3) := by decide +kernel
theorem dX14_changed_95 : decode cX14_changed 95 = .ok (.aload_n 0, 1) := by decide +kernel
theorem dX14_changed_96 : decode cX14_changed 96 = .ok (.getfield 16, 3) := by decide +kernel
theorem dX14_changed_99 : decode cX14_changed 99 = .ok (.getfield 292, 3) := by decide +kernel
theorem dX14_changed_102 : decode cX14_changed 102 = .ok (.iload_n 1, 1) := by decide +kernel
theorem dX14_changed_103 : decode cX14_changed 103 = .ok (.iaload, 1) := by decide +kernel
theorem dX14_changed_104 : decode cX14_changed 104 = .ok (.aload_n 0, 1) := by decide +kernel
theorem dX14_changed_105 : decode cX14_changed 105 = .ok (.getfield 128, 3) := by decide +kernel
theorem dX14_changed_108 : decode cX14_changed 108 = .ok (.iload_n 2, 1) := by decide +kernel
theorem dX14_changed_109 : decode cX14_changed 109 = .ok (.iaload, 1) := by decide +kernel
theorem dX14_changed_110 : decode cX14_changed 110 = .ok (.if_icmp .ne 7, 3) := by decide +kernel
theorem dX14_changed_113 : decode cX14_changed 113 = .ok (.iconst 1, 1) := by decide +kernel
theorem dX14_changed_114 : decode cX14_changed 114 = .ok (.goto 4, 3) := by decide +kernel
theorem dX14_changed_117 : decode cX14_changed 117 = .ok (.iconst 0, 1) := by decide +kernel
theorem dX14_changed_118 : decode cX14_changed 118 = .ok (.istore 5, 2) := by decide +kernel
theorem dX14_changed_120 : decode cX14_changed 120 = .ok (.iconst 0, 1) := by decide +kernel
theorem dX14_changed_121 : decode cX14_changed 121 = .ok (.istore 6, 2) := by decide +kernel
theorem dX14_changed_123 : decode cX14_changed 123 = .ok (.iload 6, 2) := by decide +kernel
theorem dX14_changed_125 : decode cX14_changed 125 = .ok (.aload_n 0, 1) := by decide +kernel
theorem dX14_changed_126 : decode cX14_changed 126 = .ok (.getfield 128, 3) := by decide +kernel
theorem dX14_changed_129 : decode cX14_changed 129 = .ok (.iload_n 2, 1) := by decide +kernel
theorem dX14_changed_130 : decode cX14_changed 130 = .ok (.iaload, 1) := by decide +kernel
theorem dX14_changed_131 : decode cX14_changed 131 = .ok (.if_icmp .gt 53, 3) := by decide +kernel
theorem dX14_changed_134 : decode cX14_changed 134 = .ok (.iload 5, 2) := by decide +kernel
theorem dX14_changed_136 : decode cX14_changed 136 = .ok (.ifCond .eq 48, 3) := by decide +kernel
theorem dX14_changed_139 : decode cX14_changed 139 = .ok (.aload_n 0, 1) := by decide +kernel
theorem dX14_changed_140 : decode cX14_changed 140 = .ok (.getfield 46, 3) := by decide +kernel
theorem dX14_changed_143 : decode cX14_changed 143 = .ok (.iload_n 1, 1) := by decide +kernel
theorem dX14_changed_144 : decode cX14_changed 144 = .ok (.iload 4, 2) := by decide +kernel
theorem dX14_changed_146 : decode cX14_changed 146 = .ok (.invokestatic 475, 3) := by decide +kernel
theorem dX14_changed_149 : decode cX14_changed 149 = .ok (.iload 6, 2) := by decide +kernel
theorem dX14_changed_151 : decode cX14_changed 151 = .ok (.iadd, 1) := by decide +kernel
theorem dX14_changed_152 : decode cX14_changed 152 = .ok (.laload, 1) := by decide +kernel
theorem dX14_changed_153 : decode cX14_changed 153 = .ok (.aload_n 0, 1) := by decide +kernel
theorem dX14_changed_154 : decode cX14_changed 154 = .ok (.getfield 134, 3) := by decide +kernel
theorem dX14_changed_157 : decode cX14_changed 157 = .ok (.iload_n 2, 1) := by decide +kernel
theorem dX14_changed_158 : decode cX14_changed 158 = .ok (.iload 4, 2) := by decide +kernel
theorem dX14_changed_160 : decode cX14_changed 160 = .ok (.invokestatic 475, 3) := by decide +kernel
theorem dX14_changed_163 : decode cX14_changed 163 = .ok (.iload 6, 2) := by decide +kernel
theorem dX14_changed_165 : decode cX14_changed 165 = .ok (.iadd, 1) := by decide +kernel
theorem dX14_changed_166 : decode cX14_changed 166 = .ok (.laload, 1) := by decide +kernel
theorem dX14_changed_167 : decode cX14_changed 167 = .ok (.lcmp, 1) := by decide +kernel
theorem dX14_changed_168 : decode cX14_changed 168 = .ok (.ifCond .ne 7, 3) := by decide +kernel
theorem dX14_changed_171 : decode cX14_changed 171 = .ok (.iconst 1, 1) := by decide +kernel
theorem dX14_changed_172 : decode cX14_changed 172 = .ok (.goto 4, 3) := by decide +kernel
theorem dX14_changed_175 : decode cX14_changed 175 = .ok (.iconst 0, 1) := by decide +kernel
theorem dX14_changed_176 : decode cX14_changed 176 = .ok (.istore 5, 2) := by decide +kernel
theorem dX14_changed_178 : decode cX14_changed 178 = .ok (.iinc 6 1, 3) := by decide +kernel
theorem dX14_changed_181 : decode cX14_changed 181 = .ok (.goto (-58), 3) := by decide +kernel
theorem dX14_changed_184 : decode cX14_changed 184 = .ok (.iload_n 3, 1) := by decide +kernel
theorem dX14_changed_185 : decode cX14_changed 185 = .ok (.iload 5, 2) := by decide +kernel
theorem dX14_changed_187 : decode cX14_changed 187 = .ok (.ifCond .eq 7, 3) := by decide +kernel
theorem dX14_changed_190 : decode cX14_changed 190 = .ok (.iconst 0, 1) := by decide +kernel
theorem dX14_changed_191 : decode cX14_changed 191 = .ok (.goto 4, 3) := by decide +kernel
theorem dX14_changed_194 : decode cX14_changed 194 = .ok (.iconst 1, 1) := by decide +kernel
theorem dX14_changed_195 : decode cX14_changed 195 = .ok (.iadd, 1) := by decide +kernel
theorem dX14_changed_196 : decode cX14_changed 196 = .ok (.istore_n 3, 1) := by decide +kernel
theorem dX14_changed_197 : decode cX14_changed 197 = .ok (.iinc 4 1, 3) := by decide +kernel
theorem dX14_changed_200 : decode cX14_changed 200 = .ok (.goto (-127), 3) := by decide +kernel
theorem dX14_changed_203 : decode cX14_changed 203 = .ok (.iload_n 3, 1) := by decide +kernel
theorem dX14_changed_204 : decode cX14_changed 204 = .ok (.ireturn, 1) := by decide +kernel
theorem dX14_taken_0 : decode cX14_taken 0 = .ok (.aload_n 0, 1) := by decide +kernel
theorem dX14_taken_1 : decode cX14_taken 1 = .ok (.iconst 0, 1) := by decide +kernel
theorem dX14_taken_2 : decode cX14_taken 2 = .ok (.putfield 149, 3) := by decide +kernel
theorem dX14_taken_5 : decode cX14_taken 5 = .ok (.iconst 0, 1) := by decide +kernel
theorem dX14_taken_6 : decode cX14_taken 6 = .ok (.istore_n 1, 1) := by decide +kernel
theorem dX14_taken_7 : decode cX14_taken 7 = .ok (.iconst 0, 1) := by decide +kernel
theorem dX14_taken_8 : decode cX14_taken 8 = .ok (.istore_n 2, 1) := by decide +kernel
theorem dX14_taken_9 : decode cX14_taken 9 = .ok (.iload_n 2, 1) := by decide +kernel
theorem dX14_taken_10 : decode cX14_taken 10 = .ok (.aload_n 0, 1) := by decide +kernel
theorem dX14_taken_11 : decode cX14_taken 11 = .ok (.getfield 16, 3) := by decide +kernel
theorem dX14_taken_14 : decode cX14_taken 14 = .ok (.getfield 298, 3) := by decide +kernel
theorem dX14_taken_17 : decode cX14_taken 17 = .ok (.if_icmp .ge 34, 3) := by decide +kernel
theorem dX14_taken_20 : decode cX14_taken 20 = .ok (.iload_n 1, 1) := by decide +kernel
theorem dX14_taken_21 : decode cX14_taken 21 = .ok (.aload_n 0, 1) := by decide +kernel
theorem dX14_taken_22 : decode cX14_taken 22 = .ok (.getfield 16, 3) := by decide +kernel
theorem dX14_taken_25 : decode cX14_taken 25 = .ok (.getfield 368, 3) := by decide +kernel
theorem dX14_taken_28 : decode cX14_taken 28 = .ok (.iload_n 2, 1) := by decide +kernel
theorem dX14_taken_29 : decode cX14_taken 29 = .ok (.iaload, 1) := by decide +kernel
theorem dX14_taken_30 : decode cX14_taken 30 = .ok (.ifCond .ne 12, 3) := by decide +kernel
theorem dX14_taken_33 : decode cX14_taken 33 = .ok (.aload_n 0, 1) := by decide +kernel
theorem dX14_taken_34 : decode cX14_taken 34 = .ok (.getfield 49, 3) := by decide +kernel
theorem dX14_taken_37 : decode cX14_taken 37 = .ok (.iload_n 2, 1) := by decide +kernel
theorem dX14_taken_38 : decode cX14_taken 38 = .ok (.iaload, 1) := by decide +kernel
theorem dX14_taken_39 : decode cX14_taken 39 = .ok (.goto 4, 3) := by decide +kernel
theorem dX14_taken_42 : decode cX14_taken 42 = .ok (.iconst 0, 1) := by decide +kernel
theorem dX14_taken_43 : decode cX14_taken 43 = .ok (.iadd, 1) := by decide +kernel
theorem dX14_taken_44 : decode cX14_taken 44 = .ok (.istore_n 1, 1) := by decide +kernel
theorem dX14_taken_45 : decode cX14_taken 45 = .ok (.iinc 2 1, 3) := by decide +kernel
theorem dX14_taken_48 : decode cX14_taken 48 = .ok (.goto (-39), 3) := by decide +kernel
theorem dX14_taken_51 : decode cX14_taken 51 = .ok (.aload_n 0, 1) := by decide +kernel
theorem dX14_taken_52 : decode cX14_taken 52 = .ok (.getfield 459, 3) := by decide +kernel
theorem dX14_taken_55 : decode cX14_taken 55 = .ok (.ifCond .ne 7, 3) := by decide +kernel
theorem dX14_taken_58 : decode cX14_taken 58 = .ok (.dconst 1, 1) := by decide +kernel
theorem dX14_taken_59 : decode cX14_taken 59 = .ok (.goto 11, 3) := by decide +kernel
theorem dX14_taken_62 : decode cX14_taken 62 = .ok (.iload_n 1, 1) := by decide +kernel
theorem dX14_taken_63 : decode cX14_taken 63 = .ok (.i2d, 1) := by decide +kernel
theorem dX14_taken_64 : decode cX14_taken 64 = .ok (.aload_n 0, 1) := by decide +kernel
theorem dX14_taken_65 : decode cX14_taken 65 = .ok (.getfield 459, 3) := by decide +kernel
theorem dX14_taken_68 : decode cX14_taken 68 = .ok (.i2d, 1) := by decide +kernel
theorem dX14_taken_69 : decode cX14_taken 69 = .ok (.ddiv, 1) := by decide +kernel
theorem dX14_taken_70 : decode cX14_taken 70 = .ok (.dreturn, 1) := by decide +kernel
theorem dX14_digest_0 : decode cX14_digest 0 = .ok (.aload_n 0, 1) := by decide +kernel
theorem dX14_digest_1 : decode cX14_digest 1 = .ok (.iconst 0, 1) := by decide +kernel
theorem dX14_digest_2 : decode cX14_digest 2 = .ok (.putfield 149, 3) := by decide +kernel
theorem dX14_digest_5 : decode cX14_digest 5 = .ok (.ldc2_w 594, 3) := by decide +kernel
theorem dX14_digest_8 : decode cX14_digest 8 = .ok (.lstore_n 1, 1) := by decide +kernel
theorem dX14_digest_9 : decode cX14_digest 9 = .ok (.iconst 0, 1) := by decide +kernel
theorem dX14_digest_10 : decode cX14_digest 10 = .ok (.istore_n 3, 1) := by decide +kernel
theorem dX14_digest_11 : decode cX14_digest 11 = .ok (.iload_n 3, 1) := by decide +kernel
theorem dX14_digest_12 : decode cX14_digest 12 = .ok (.bipush 6, 2) := by decide +kernel
theorem dX14_digest_14 : decode cX14_digest 14 = .ok (.if_icmp .ge 22, 3) := by decide +kernel
theorem dX14_digest_17 : decode cX14_digest 17 = .ok (.lload_n 1, 1) := by decide +kernel
theorem dX14_digest_18 : decode cX14_digest 18 = .ok (.ldc2_w 596, 3) := by decide +kernel
theorem dX14_digest_21 : decode cX14_digest 21 = .ok (.lmul, 1) := by decide +kernel
theorem dX14_digest_22 : decode cX14_digest 22 = .ok (.aload_n 0, 1) := by decide +kernel
theorem dX14_digest_23 : decode cX14_digest 23 = .ok (.iload_n 3, 1) := by decide +kernel
theorem dX14_digest_24 : decode cX14_digest 24 = .ok (.invokevirtual 445, 3) := by decide +kernel
theorem dX14_digest_27 : decode cX14_digest 27 = .ok (.i2l, 1) := by decide +kernel
theorem dX14_digest_28 : decode cX14_digest 28 = .ok (.ladd, 1) := by decide +kernel
theorem dX14_digest_29 : decode cX14_digest 29 = .ok (.lstore_n 1, 1) := by decide +kernel
theorem dX14_digest_30 : decode cX14_digest 30 = .ok (.iinc 3 1, 3) := by decide +kernel
theorem dX14_digest_33 : decode cX14_digest 33 = .ok (.goto (-22), 3) := by decide +kernel
theorem dX14_digest_36 : decode cX14_digest 36 = .ok (.lload_n 1, 1) := by decide +kernel
theorem dX14_digest_37 : decode cX14_digest 37 = .ok (.ldc2_w 596, 3) := by decide +kernel
theorem dX14_digest_40 : decode cX14_digest 40 = .ok (.lmul, 1) := by decide +kernel
theorem dX14_digest_41 : decode cX14_digest 41 = .ok (.aload_n 0, 1) := by decide +kernel
theorem dX14_digest_42 : decode cX14_digest 42 = .ok (.getfield 456, 3) := by decide +kernel
theorem dX14_digest_45 : decode cX14_digest 45 = .ok (.ifCond .eq 7, 3) := by decide +kernel
theorem dX14_digest_48 : decode cX14_digest 48 = .ok (.lconst 1, 1) := by decide +kernel
theorem dX14_digest_49 : decode cX14_digest 49 = .ok (.goto 4, 3) := by decide +kernel
theorem dX14_digest_52 : decode cX14_digest 52 = .ok (.lconst 0, 1) := by decide +kernel
theorem dX14_digest_53 : decode cX14_digest 53 = .ok (.ladd, 1) := by decide +kernel
theorem dX14_digest_54 : decode cX14_digest 54 = .ok (.ldc2_w 596, 3) := by decide +kernel
theorem dX14_digest_57 : decode cX14_digest 57 = .ok (.lmul, 1) := by decide +kernel
theorem dX14_digest_58 : decode cX14_digest 58 = .ok (.aload_n 0, 1) := by decide +kernel
theorem dX14_digest_59 : decode cX14_digest 59 = .ok (.getfield 453, 3) := by decide +kernel
theorem dX14_digest_62 : decode cX14_digest 62 = .ok (.i2l, 1) := by decide +kernel
theorem dX14_digest_63 : decode cX14_digest 63 = .ok (.ladd, 1) := by decide +kernel
theorem dX14_digest_64 : decode cX14_digest 64 = .ok (.lstore_n 1, 1) := by decide +kernel
theorem dX14_digest_65 : decode cX14_digest 65 = .ok (.iconst 0, 1) := by decide +kernel
theorem dX14_digest_66 : decode cX14_digest 66 = .ok (.istore_n 3, 1) := by decide +kernel
theorem dX14_digest_67 : decode cX14_digest 67 = .ok (.iload_n 3, 1) := by decide +kernel
theorem dX14_digest_68 : decode cX14_digest 68 = .ok (.aload_n 0, 1) := by decide +kernel
theorem dX14_digest_69 : decode cX14_digest 69 = .ok (.getfield 16, 3) := by decide +kernel
theorem dX14_digest_72 : decode cX14_digest 72 = .ok (.getfield 298, 3) := by decide +kernel
theorem dX14_digest_75 : decode cX14_digest 75 = .ok (.if_icmp .ge 99, 3) := by decide +kernel
theorem dX14_digest_78 : decode cX14_digest 78 = .ok (.lload_n 1, 1) := by decide +kernel
theorem dX14_digest_79 : decode cX14_digest 79 = .ok (.ldc2_w 596, 3) := by decide +kernel
theorem dX14_digest_82 : decode cX14_digest 82 = .ok (.lmul, 1) := by decide +kernel
theorem dX14_digest_83 : decode cX14_digest 83 = .ok (.aload_n 0, 1) := by decide +kernel
theorem dX14_digest_84 : decode cX14_digest 84 = .ok (.getfield 52, 3) := by decide +kernel
theorem dX14_digest_87 : decode cX14_digest 87 = .ok (.iload_n 3, 1) := by decide +kernel
theorem dX14_digest_88 : decode cX14_digest 88 = .ok (.iaload, 1) := by decide +kernel
theorem dX14_digest_89 : decode cX14_digest 89 = .ok (.i2l, 1) := by decide +kernel
theorem dX14_digest_90 : decode cX14_digest 90 = .ok (.ladd, 1) := by decide +kernel
theorem dX14_digest_91 : decode cX14_digest 91 = .ok (.ldc2_w 596, 3) := by decide +kernel
theorem dX14_digest_94 : decode cX14_digest 94 = .ok (.lmul, 1) := by decide +kernel
theorem dX14_digest_95 : decode cX14_digest 95 = .ok (.aload_n 0, 1) := by decide +kernel
theorem dX14_digest_96 : decode cX14_digest 96 = .ok (.getfield 49, 3) := by decide +kernel
theorem dX14_digest_99 : decode cX14_digest 99 = .ok (.iload_n 3, 1) := by decide +kernel
theorem dX14_digest_100 : decode cX14_digest 100 = .ok (.iaload, 1) := by decide +kernel
theorem dX14_digest_101 : decode cX14_digest 101 = .ok (.i2l, 1) := by decide +kernel
theorem dX14_digest_102 : decode cX14_digest 102 = .ok (.ladd, 1) := by decide +kernel
theorem dX14_digest_103 : decode cX14_digest 103 = .ok (.lstore_n 1, 1) := by decide +kernel
theorem dX14_digest_104 : decode cX14_digest 104 = .ok (.iconst 0, 1) := by decide +kernel
theorem dX14_digest_105 : decode cX14_digest 105 = .ok (.istore 4, 2) := by decide +kernel
theorem dX14_digest_107 : decode cX14_digest 107 = .ok (.iload 4, 2) := by decide +kernel
theorem dX14_digest_109 : decode cX14_digest 109 = .ok (.aload_n 0, 1) := by decide +kernel
theorem dX14_digest_110 : decode cX14_digest 110 = .ok (.getfield 49, 3) := by decide +kernel
theorem dX14_digest_113 : decode cX14_digest 113 = .ok (.iload_n 3, 1) := by decide +kernel
theorem dX14_digest_114 : decode cX14_digest 114 = .ok (.iaload, 1) := by decide +kernel
theorem dX14_digest_115 : decode cX14_digest 115 = .ok (.if_icmp .ge 53, 3) := by decide +kernel
theorem dX14_digest_118 : decode cX14_digest 118 = .ok (.iconst 0, 1) := by decide +kernel
theorem dX14_digest_119 : decode cX14_digest 119 = .ok (.istore 5, 2) := by decide +kernel
theorem dX14_digest_121 : decode cX14_digest 121 = .ok (.iload 5, 2) := by decide +kernel
theorem dX14_digest_123 : decode cX14_digest 123 = .ok (.aload_n 0, 1) := by decide +kernel
theorem dX14_digest_124 : decode cX14_digest 124 = .ok (.getfield 16, 3) := by decide +kernel
theorem dX14_digest_127 : decode cX14_digest 127 = .ok (.getfield 292, 3) := by decide +kernel
theorem dX14_digest_130 : decode cX14_digest 130 = .ok (.iload_n 3, 1) := by decide +kernel
theorem dX14_digest_131 : decode cX14_digest 131 = .ok (.iaload, 1) := by decide +kernel
theorem dX14_digest_132 : decode cX14_digest 132 = .ok (.if_icmp .gt 30, 3) := by decide +kernel
theorem dX14_digest_135 : decode cX14_digest 135 = .ok (.lload_n 1, 1) := by decide +kernel
theorem dX14_digest_136 : decode cX14_digest 136 = .ok (.ldc2_w 596, 3) := by decide +kernel
theorem dX14_digest_139 : decode cX14_digest 139 = .ok (.lmul, 1) := by decide +kernel
theorem dX14_digest_140 : decode cX14_digest 140 = .ok (.aload_n 0, 1) := by decide +kernel
theorem dX14_digest_141 : decode cX14_digest 141 = .ok (.getfield 46, 3) := by decide +kernel
theorem dX14_digest_144 : decode cX14_digest 144 = .ok (.iload_n 3, 1) := by decide +kernel
theorem dX14_digest_145 : decode cX14_digest 145 = .ok (.iload 4, 2) := by decide +kernel
theorem dX14_digest_147 : decode cX14_digest 147 = .ok (.invokestatic 475, 3) := by decide +kernel
theorem dX14_digest_150 : decode cX14_digest 150 = .ok (.iload 5, 2) := by decide +kernel
theorem dX14_digest_152 : decode cX14_digest 152 = .ok (.iadd, 1) := by decide +kernel
theorem dX14_digest_153 : decode cX14_digest 153 = .ok (.laload, 1) := by decide +kernel
theorem dX14_digest_154 : decode cX14_digest 154 = .ok (.ladd, 1) := by decide +kernel
theorem dX14_digest_155 : decode cX14_digest 155 = .ok (.lstore_n 1, 1) := by decide +kernel
theorem dX14_digest_156 : decode cX14_digest 156 = .ok (.iinc 5 1, 3) := by decide +kernel
theorem dX14_digest_159 : decode cX14_digest 159 = .ok (.goto (-38), 3) := by decide +kernel
theorem dX14_digest_162 : decode cX14_digest 162 = .ok (.iinc 4 1, 3) := by decide +kernel
theorem dX14_digest_165 : decode cX14_digest 165 = .ok (.goto (-58), 3) := by decide +kernel
theorem dX14_digest_168 : decode cX14_digest 168 = .ok (.iinc 3 1, 3) := by decide +kernel
theorem dX14_digest_171 : decode cX14_digest 171 = .ok (.goto (-104), 3) := by decide +kernel
theorem dX14_digest_174 : decode cX14_digest 174 = .ok (.iconst 0, 1) := by decide +kernel
theorem dX14_digest_175 : decode cX14_digest 175 = .ok (.istore_n 3, 1) := by decide +kernel
theorem dX14_digest_176 : decode cX14_digest 176 = .ok (.iload_n 3, 1) := by decide +kernel
theorem dX14_digest_177 : decode cX14_digest 177 = .ok (.aload_n 0, 1) := by decide +kernel
theorem dX14_digest_178 : decode cX14_digest 178 = .ok (.getfield 440, 3) := by decide +kernel
theorem dX14_digest_181 : decode cX14_digest 181 = .ok (.if_icmp .ge 79, 3) := by decide +kernel
theorem dX14_digest_184 : decode cX14_digest 184 = .ok (.iconst 0, 1) := by decide +kernel
theorem dX14_digest_185 : decode cX14_digest 185 = .ok (.istore 4, 2) := by decide +kernel
theorem dX14_digest_187 : decode cX14_digest 187 = .ok (.iload 4, 2) := by decide +kernel
theorem dX14_digest_189 : decode cX14_digest 189 = .ok (.iconst 3, 1) := by decide +kernel
theorem dX14_digest_190 : decode cX14_digest 190 = .ok (.if_icmp .ge 24, 3) := by decide +kernel
theorem dX14_digest_193 : decode cX14_digest 193 = .ok (.lload_n 1, 1) := by decide +kernel
theorem dX14_digest_194 : decode cX14_digest 194 = .ok (.ldc2_w 596, 3) := by decide +kernel
theorem dX14_digest_197 : decode cX14_digest 197 = .ok (.lmul, 1) := by decide +kernel
theorem dX14_digest_198 : decode cX14_digest 198 = .ok (.aload_n 0, 1) := by decide +kernel
theorem dX14_digest_199 : decode cX14_digest 199 = .ok (.iload_n 3, 1) := by decide +kernel
theorem dX14_digest_200 : decode cX14_digest 200 = .ok (.iload 4, 2) := by decide +kernel
theorem dX14_digest_202 : decode cX14_digest 202 = .ok (.invokevirtual 571, 3) := by decide +kernel
theorem dX14_digest_205 : decode cX14_digest 205 = .ok (.i2l, 1) := by decide +kernel
theorem dX14_digest_206 : decode cX14_digest 206 = .ok (.ladd, 1) := by decide +kernel
theorem dX14_digest_207 : decode cX14_digest 207 = .ok (.lstore_n 1, 1) := by decide +kernel
theorem dX14_digest_208 : decode cX14_digest 208 = .ok (.iinc 4 1, 3) := by decide +kernel
theorem dX14_digest_211 : decode cX14_digest 211 = .ok (.goto (-24), 3) := by decide +kernel
theorem dX14_digest_214 : decode cX14_digest 214 = .ok (.iconst 0, 1) := by decide +kernel
theorem dX14_digest_215 : decode cX14_digest 215 = .ok (.istore 4, 2) := by decide +kernel
theorem dX14_digest_217 : decode cX14_digest 217 = .ok (.iload 4, 2) := by decide +kernel
theorem dX14_digest_219 : decode cX14_digest 219 = .ok (.aload_n 0, 1) := by decide +kernel
theorem dX14_digest_220 : decode cX14_digest 220 = .ok (.iload_n 3, 1) := by decide +kernel
theorem dX14_digest_221 : decode cX14_digest 221 = .ok (.invokevirtual 574, 3) := by decide +kernel
theorem dX14_digest_224 : decode cX14_digest 224 = .ok (.if_icmp .ge 30, 3) := by decide +kernel
theorem dX14_digest_227 : decode cX14_digest 227 = .ok (.lload_n 1, 1) := by decide +kernel
theorem dX14_digest_228 : decode cX14_digest 228 = .ok (.ldc2_w 596, 3) := by decide +kernel
theorem dX14_digest_231 : decode cX14_digest 231 = .ok (.lmul, 1) := by decide +kernel
theorem dX14_digest_232 : decode cX14_digest 232 = .ok (.aload_n 0, 1) := by decide +kernel
theorem dX14_digest_233 : decode cX14_digest 233 = .ok (.getfield 73, 3) := by decide +kernel
theorem dX14_digest_236 : decode cX14_digest 236 = .ok (.bipush 7, 2) := by decide +kernel
theorem dX14_digest_238 : decode cX14_digest 238 = .ok (.iload_n 3, 1) := by decide +kernel
theorem dX14_digest_239 : decode cX14_digest 239 = .ok (.imul, 1) := by decide +kernel
theorem dX14_digest_240 : decode cX14_digest 240 = .ok (.iconst 1, 1) := by decide +kernel
theorem dX14_digest_241 : decode cX14_digest 241 = .ok (.iadd, 1) := by decide +kernel
theorem dX14_digest_242 : decode cX14_digest 242 = .ok (.iload 4, 2) := by decide +kernel
theorem dX14_digest_244 : decode cX14_digest 244 = .ok (.iadd, 1) := by decide +kernel
theorem dX14_digest_245 : decode cX14_digest 245 = .ok (.laload, 1) := by decide +kernel
theorem dX14_digest_246 : decode cX14_digest 246 = .ok (.ladd, 1) := by decide +kernel
theorem dX14_digest_247 : decode cX14_digest 247 = .ok (.lstore_n 1, 1) := by decide +kernel
theorem dX14_digest_248 : decode cX14_digest 248 = .ok (.iinc 4 1, 3) := by decide +kernel
theorem dX14_digest_251 : decode cX14_digest 251 = .ok (.goto (-34), 3) := by decide +kernel
theorem dX14_digest_254 : decode cX14_digest 254 = .ok (.iinc 3 1, 3) := by decide +kernel
theorem dX14_digest_257 : decode cX14_digest 257 = .ok (.goto (-81), 3) := by decide +kernel
theorem dX14_digest_260 : decode cX14_digest 260 = .ok (.lload_n 1, 1) := by decide +kernel
theorem dX14_digest_261 : decode cX14_digest 261 = .ok (.lreturn, 1) := by decide +kernel
theorem dJ11_isValidCodePoint_9a6ad_0 : decode cJ11_isValidCodePoint_9a6ad 0 = .ok (.iload_n 0, 1) := by decide +kernel
theorem dJ11_isValidCodePoint_9a6ad_1 : decode cJ11_isValidCodePoint_9a6ad 1 = .ok (.bipush 16, 2) := by decide +kernel
theorem dJ11_isValidCodePoint_9a6ad_3 : decode cJ11_isValidCodePoint_9a6ad 3 = .ok (.iushr, 1) := by decide +kernel
theorem dJ11_isValidCodePoint_9a6ad_4 : decode cJ11_isValidCodePoint_9a6ad 4 = .ok (.istore_n 1, 1) := by decide +kernel
theorem dJ11_isValidCodePoint_9a6ad_5 : decode cJ11_isValidCodePoint_9a6ad 5 = .ok (.iload_n 1, 1) := by decide +kernel
theorem dJ11_isValidCodePoint_9a6ad_6 : decode cJ11_isValidCodePoint_9a6ad 6 = .ok (.bipush 17, 2) := by decide +kernel
theorem dJ11_isValidCodePoint_9a6ad_8 : decode cJ11_isValidCodePoint_9a6ad 8 = .ok (.if_icmp .ge 7, 3) := by decide +kernel
theorem dJ11_isValidCodePoint_9a6ad_11 : decode cJ11_isValidCodePoint_9a6ad 11 = .ok (.iconst 1, 1) := by decide +kernel
theorem dJ11_isValidCodePoint_9a6ad_12 : decode cJ11_isValidCodePoint_9a6ad 12 = .ok (.goto 4, 3) := by decide +kernel
theorem dJ11_isValidCodePoint_9a6ad_15 : decode cJ11_isValidCodePoint_9a6ad 15 = .ok (.iconst 0, 1) := by decide +kernel
theorem dJ11_isValidCodePoint_9a6ad_16 : decode cJ11_isValidCodePoint_9a6ad 16 = .ok (.ireturn, 1) := by decide +kernel
theorem dJ11_highSurrogate_5068e_0 : decode cJ11_highSurrogate_5068e 0 = .ok (.iload_n 0, 1) := by decide +kernel
theorem dJ11_highSurrogate_5068e_1 : decode cJ11_highSurrogate_5068e 1 = .ok (.bipush 10, 2) := by decide +kernel
theorem dJ11_highSurrogate_5068e_3 : decode cJ11_highSurrogate_5068e 3 = .ok (.iushr, 1) := by decide +kernel
theorem dJ11_highSurrogate_5068e_4 : decode cJ11_highSurrogate_5068e 4 = .ok (.ldc 110, 2) := by decide +kernel
theorem dJ11_highSurrogate_5068e_6 : decode cJ11_highSurrogate_5068e 6 = .ok (.iadd, 1) := by decide +kernel
theorem dJ11_highSurrogate_5068e_7 : decode cJ11_highSurrogate_5068e 7 = .ok (.i2c, 1) := by decide +kernel
theorem dJ11_highSurrogate_5068e_8 : decode cJ11_highSurrogate_5068e 8 = .ok (.ireturn, 1) := by decide +kernel
theorem dJ11_lowSurrogate_5068e_0 : decode cJ11_lowSurrogate_5068e 0 = .ok (.iload_n 0, 1) := by decide +kernel
theorem dJ11_lowSurrogate_5068e_1 : decode cJ11_lowSurrogate_5068e 1 = .ok (.sipush 1023, 3) := by decide +kernel
theorem dJ11_lowSurrogate_5068e_4 : decode cJ11_lowSurrogate_5068e 4 = .ok (.iand, 1) := by decide +kernel
theorem dJ11_lowSurrogate_5068e_5 : decode cJ11_lowSurrogate_5068e 5 = .ok (.ldc 76, 2) := by decide +kernel
theorem dJ11_lowSurrogate_5068e_7 : decode cJ11_lowSurrogate_5068e 7 = .ok (.iadd, 1) := by decide +kernel
theorem dJ11_lowSurrogate_5068e_8 : decode cJ11_lowSurrogate_5068e 8 = .ok (.i2c, 1) := by decide +kernel
theorem dJ11_lowSurrogate_5068e_9 : decode cJ11_lowSurrogate_5068e 9 = .ok (.ireturn, 1) := by decide +kernel
theorem dJ9_abs_0f7a4_0 : decode cJ9_abs_0f7a4 0 = .ok (.iload_n 0, 1) := by decide +kernel
theorem dJ9_abs_0f7a4_1 : decode cJ9_abs_0f7a4 1 = .ok (.ifCond .ge 8, 3) := by decide +kernel
theorem dJ9_abs_0f7a4_4 : decode cJ9_abs_0f7a4 4 = .ok (.iload_n 0, 1) := by decide +kernel
theorem dJ9_abs_0f7a4_5 : decode cJ9_abs_0f7a4 5 = .ok (.ineg, 1) := by decide +kernel
theorem dJ9_abs_0f7a4_6 : decode cJ9_abs_0f7a4 6 = .ok (.goto 4, 3) := by decide +kernel
theorem dJ9_abs_0f7a4_9 : decode cJ9_abs_0f7a4 9 = .ok (.iload_n 0, 1) := by decide +kernel
theorem dJ9_abs_0f7a4_10 : decode cJ9_abs_0f7a4 10 = .ok (.ireturn, 1) := by decide +kernel
theorem dJ9_abs_067f4_0 : decode cJ9_abs_067f4 0 = .ok (.lload_n 0, 1) := by decide +kernel
theorem dJ9_abs_067f4_1 : decode cJ9_abs_067f4 1 = .ok (.lconst 0, 1) := by decide +kernel
theorem dJ9_abs_067f4_2 : decode cJ9_abs_067f4 2 = .ok (.lcmp, 1) := by decide +kernel
theorem dJ9_abs_067f4_3 : decode cJ9_abs_067f4 3 = .ok (.ifCond .ge 8, 3) := by decide +kernel
theorem dJ9_abs_067f4_6 : decode cJ9_abs_067f4 6 = .ok (.lload_n 0, 1) := by decide +kernel
theorem dJ9_abs_067f4_7 : decode cJ9_abs_067f4 7 = .ok (.lneg, 1) := by decide +kernel
theorem dJ9_abs_067f4_8 : decode cJ9_abs_067f4 8 = .ok (.goto 4, 3) := by decide +kernel
theorem dJ9_abs_067f4_11 : decode cJ9_abs_067f4 11 = .ok (.lload_n 0, 1) := by decide +kernel
theorem dJ9_abs_067f4_12 : decode cJ9_abs_067f4 12 = .ok (.lreturn, 1) := by decide +kernel
theorem dJ9_max_7cf53_0 : decode cJ9_max_7cf53 0 = .ok (.iload_n 0, 1) := by decide +kernel
theorem dJ9_max_7cf53_1 : decode cJ9_max_7cf53 1 = .ok (.iload_n 1, 1) := by decide +kernel
theorem dJ9_max_7cf53_2 : decode cJ9_max_7cf53 2 = .ok (.if_icmp .lt 7, 3) := by decide +kernel
theorem dJ9_max_7cf53_5 : decode cJ9_max_7cf53 5 = .ok (.iload_n 0, 1) := by decide +kernel
theorem dJ9_max_7cf53_6 : decode cJ9_max_7cf53 6 = .ok (.goto 4, 3) := by decide +kernel
theorem dJ9_max_7cf53_9 : decode cJ9_max_7cf53 9 = .ok (.iload_n 1, 1) := by decide +kernel
theorem dJ9_max_7cf53_10 : decode cJ9_max_7cf53 10 = .ok (.ireturn, 1) := by decide +kernel
theorem dJ9_max_f86c9_0 : decode cJ9_max_f86c9 0 = .ok (.lload_n 0, 1) := by decide +kernel
theorem dJ9_max_f86c9_1 : decode cJ9_max_f86c9 1 = .ok (.lload_n 2, 1) := by decide +kernel
theorem dJ9_max_f86c9_2 : decode cJ9_max_f86c9 2 = .ok (.lcmp, 1) := by decide +kernel
theorem dJ9_max_f86c9_3 : decode cJ9_max_f86c9 3 = .ok (.ifCond .lt 7, 3) := by decide +kernel
theorem dJ9_max_f86c9_6 : decode cJ9_max_f86c9 6 = .ok (.lload_n 0, 1) := by decide +kernel
theorem dJ9_max_f86c9_7 : decode cJ9_max_f86c9 7 = .ok (.goto 4, 3) := by decide +kernel
theorem dJ9_max_f86c9_10 : decode cJ9_max_f86c9 10 = .ok (.lload_n 2, 1) := by decide +kernel
theorem dJ9_max_f86c9_11 : decode cJ9_max_f86c9 11 = .ok (.lreturn, 1) := by decide +kernel
theorem dJ9_min_7cf53_0 : decode cJ9_min_7cf53 0 = .ok (.iload_n 0, 1) := by decide +kernel
theorem dJ9_min_7cf53_1 : decode cJ9_min_7cf53 1 = .ok (.iload_n 1, 1) := by decide +kernel
theorem dJ9_min_7cf53_2 : decode cJ9_min_7cf53 2 = .ok (.if_icmp .gt 7, 3) := by decide +kernel
theorem dJ9_min_7cf53_5 : decode cJ9_min_7cf53 5 = .ok (.iload_n 0, 1) := by decide +kernel
theorem dJ9_min_7cf53_6 : decode cJ9_min_7cf53 6 = .ok (.goto 4, 3) := by decide +kernel
theorem dJ9_min_7cf53_9 : decode cJ9_min_7cf53 9 = .ok (.iload_n 1, 1) := by decide +kernel
theorem dJ9_min_7cf53_10 : decode cJ9_min_7cf53 10 = .ok (.ireturn, 1) := by decide +kernel
theorem dJ9_min_f86c9_0 : decode cJ9_min_f86c9 0 = .ok (.lload_n 0, 1) := by decide +kernel
theorem dJ9_min_f86c9_1 : decode cJ9_min_f86c9 1 = .ok (.lload_n 2, 1) := by decide +kernel
theorem dJ9_min_f86c9_2 : decode cJ9_min_f86c9 2 = .ok (.lcmp, 1) := by decide +kernel
theorem dJ9_min_f86c9_3 : decode cJ9_min_f86c9 3 = .ok (.ifCond .gt 7, 3) := by decide +kernel
theorem dJ9_min_f86c9_6 : decode cJ9_min_f86c9 6 = .ok (.lload_n 0, 1) := by decide +kernel
theorem dJ9_min_f86c9_7 : decode cJ9_min_f86c9 7 = .ok (.goto 4, 3) := by decide +kernel
theorem dJ9_min_f86c9_10 : decode cJ9_min_f86c9 10 = .ok (.lload_n 2, 1) := by decide +kernel
theorem dJ9_min_f86c9_11 : decode cJ9_min_f86c9 11 = .ok (.lreturn, 1) := by decide +kernel
theorem dJ0_length_8abf5_0 : decode cJ0_length_8abf5 0 = .ok (.aload_n 0, 1) := by decide +kernel
theorem dJ0_length_8abf5_1 : decode cJ0_length_8abf5 1 = .ok (.getfield 9, 3) := by decide +kernel
theorem dJ0_length_8abf5_4 : decode cJ0_length_8abf5 4 = .ok (.arraylength, 1) := by decide +kernel
theorem dJ0_length_8abf5_5 : decode cJ0_length_8abf5 5 = .ok (.aload_n 0, 1) := by decide +kernel
theorem dJ0_length_8abf5_6 : decode cJ0_length_8abf5 6 = .ok (.invokevirtual 335, 3) := by decide +kernel
theorem dJ0_length_8abf5_9 : decode cJ0_length_8abf5 9 = .ok (.ishr, 1) := by decide +kernel
theorem dJ0_length_8abf5_10 : decode cJ0_length_8abf5 10 = .ok (.ireturn, 1) := by decide +kernel
theorem dJ0_charAt_5068e_0 : decode cJ0_charAt_5068e 0 = .ok (.aload_n 0, 1) := by decide +kernel
theorem dJ0_charAt_5068e_1 : decode cJ0_charAt_5068e 1 = .ok (.invokevirtual 492, 3) := by decide +kernel
theorem dJ0_charAt_5068e_4 : decode cJ0_charAt_5068e 4 = .ok (.ifCond .eq 12, 3) := by decide +kernel
theorem dJ0_charAt_5068e_7 : decode cJ0_charAt_5068e 7 = .ok (.aload_n 0, 1) := by decide +kernel
theorem dJ0_charAt_5068e_8 : decode cJ0_charAt_5068e 8 = .ok (.getfield 9, 3) := by decide +kernel
theorem dJ0_charAt_5068e_11 : decode cJ0_charAt_5068e 11 = .ok (.iload_n 1, 1) := by decide +kernel
theorem dJ0_charAt_5068e_12 : decode cJ0_charAt_5068e 12 = .ok (.invokestatic 495, 3) := by decide +kernel
theorem dJ0_charAt_5068e_15 : decode cJ0_charAt_5068e 15 = .ok (.ireturn, 1) := by decide +kernel
theorem dJ0_charAt_5068e_16 : decode cJ0_charAt_5068e 16 = .ok (.aload_n 0, 1) := by decide +kernel
theorem dJ0_charAt_5068e_17 : decode cJ0_charAt_5068e 17 = .ok (.getfield 9, 3) := by decide +kernel
theorem dJ0_charAt_5068e_20 : decode cJ0_charAt_5068e 20 = .ok (.iload_n 1, 1) := by decide +kernel
theorem dJ0_charAt_5068e_21 : decode cJ0_charAt_5068e 21 = .ok (.invokestatic 498, 3) := by decide +kernel
theorem dJ0_charAt_5068e_24 : decode cJ0_charAt_5068e 24 = .ok (.ireturn, 1) := by decide +kernel
theorem dJ0_indexOf_0f7a4_0 : decode cJ0_indexOf_0f7a4 0 = .ok (.aload_n 0, 1) := by decide +kernel
theorem dJ0_indexOf_0f7a4_1 : decode cJ0_indexOf_0f7a4 1 = .ok (.iload_n 1, 1) := by decide +kernel
theorem dJ0_indexOf_0f7a4_2 : decode cJ0_indexOf_0f7a4 2 = .ok (.iconst 0, 1) := by decide +kernel
theorem dJ0_indexOf_0f7a4_3 : decode cJ0_indexOf_0f7a4 3 = .ok (.invokevirtual 633, 3) := by decide +kernel
theorem dJ0_indexOf_0f7a4_6 : decode cJ0_indexOf_0f7a4 6 = .ok (.ireturn, 1) := by decide +kernel
theorem dJ0_indexOf_7cf53_0 : decode cJ0_indexOf_7cf53 0 = .ok (.aload_n 0, 1) := by decide +kernel
theorem dJ0_indexOf_7cf53_1 : decode cJ0_indexOf_7cf53 1 = .ok (.invokevirtual 492, 3) := by decide +kernel
theorem dJ0_indexOf_7cf53_4 : decode cJ0_indexOf_7cf53 4 = .ok (.ifCond .eq 19, 3) := by decide +kernel
theorem dJ0_indexOf_7cf53_7 : decode cJ0_indexOf_7cf53 7 = .ok (.aload_n 0, 1) := by decide +kernel
theorem dJ0_indexOf_7cf53_8 : decode cJ0_indexOf_7cf53 8 = .ok (.getfield 9, 3) := by decide +kernel
theorem dJ0_indexOf_7cf53_11 : decode cJ0_indexOf_7cf53 11 = .ok (.iload_n 1, 1) := by decide +kernel
theorem dJ0_indexOf_7cf53_12 : decode cJ0_indexOf_7cf53 12 = .ok (.iload_n 2, 1) := by decide +kernel
theorem dJ0_indexOf_7cf53_13 : decode cJ0_indexOf_7cf53 13 = .ok (.aload_n 0, 1) := by decide +kernel
theorem dJ0_indexOf_7cf53_14 : decode cJ0_indexOf_7cf53 14 = .ok (.invokevirtual 505, 3) := by decide +kernel
theorem dJ0_indexOf_7cf53_17 : decode cJ0_indexOf_7cf53 17 = .ok (.invokestatic 637, 3) := by decide +kernel
theorem dJ0_indexOf_7cf53_20 : decode cJ0_indexOf_7cf53 20 = .ok (.goto 16, 3) := by decide +kernel
theorem dJ0_indexOf_7cf53_23 : decode cJ0_indexOf_7cf53 23 = .ok (.aload_n 0, 1) := by decide +kernel
theorem dJ0_indexOf_7cf53_24 : decode cJ0_indexOf_7cf53 24 = .ok (.getfield 9, 3) := by decide +kernel
theorem dJ0_indexOf_7cf53_27 : decode cJ0_indexOf_7cf53 27 = .ok (.iload_n 1, 1) := by decide +kernel
theorem dJ0_indexOf_7cf53_28 : decode cJ0_indexOf_7cf53 28 = .ok (.iload_n 2, 1) := by decide +kernel
theorem dJ0_indexOf_7cf53_29 : decode cJ0_indexOf_7cf53 29 = .ok (.aload_n 0, 1) := by decide +kernel
theorem dJ0_indexOf_7cf53_30 : decode cJ0_indexOf_7cf53 30 = .ok (.invokevirtual 505, 3) := by decide +kernel
theorem dJ0_indexOf_7cf53_33 : decode cJ0_indexOf_7cf53 33 = .ok (.invokestatic 640, 3) := by decide +kernel
theorem dJ0_indexOf_7cf53_36 : decode cJ0_indexOf_7cf53 36 = .ok (.ireturn, 1) := by decide +kernel
theorem dJ0_coder_7d493_0 : decode cJ0_coder_7d493 0 = .ok (.getstatic 38, 3) := by decide +kernel
theorem dJ0_coder_7d493_3 : decode cJ0_coder_7d493 3 = .ok (.ifCond .eq 10, 3) := by decide +kernel
theorem dJ0_coder_7d493_6 : decode cJ0_coder_7d493 6 = .ok (.aload_n 0, 1) := by decide +kernel
theorem dJ0_coder_7d493_7 : decode cJ0_coder_7d493 7 = .ok (.getfield 15, 3) := by decide +kernel
theorem dJ0_coder_7d493_10 : decode cJ0_coder_7d493 10 = .ok (.goto 4, 3) := by decide +kernel
theorem dJ0_coder_7d493_13 : decode cJ0_coder_7d493 13 = .ok (.iconst 1, 1) := by decide +kernel
theorem dJ0_coder_7d493_14 : decode cJ0_coder_7d493 14 = .ok (.ireturn, 1) := by decide +kernel
theorem dJ0_isLatin1_aae02_0 : decode cJ0_isLatin1_aae02 0 = .ok (.getstatic 38, 3) := by decide +kernel
theorem dJ0_isLatin1_aae02_3 : decode cJ0_isLatin1_aae02 3 = .ok (.ifCond .eq 14, 3) := by decide +kernel
theorem dJ0_isLatin1_aae02_6 : decode cJ0_isLatin1_aae02 6 = .ok (.aload_n 0, 1) := by decide +kernel
theorem dJ0_isLatin1_aae02_7 : decode cJ0_isLatin1_aae02 7 = .ok (.getfield 15, 3) := by decide +kernel
theorem dJ0_isLatin1_aae02_10 : decode cJ0_isLatin1_aae02 10 = .ok (.ifCond .ne 7, 3) := by decide +kernel
theorem dJ0_isLatin1_aae02_13 : decode cJ0_isLatin1_aae02 13 = .ok (.iconst 1, 1) := by decide +kernel
theorem dJ0_isLatin1_aae02_14 : decode cJ0_isLatin1_aae02 14 = .ok (.goto 4, 3) := by decide +kernel
theorem dJ0_isLatin1_aae02_17 : decode cJ0_isLatin1_aae02 17 = .ok (.iconst 0, 1) := by decide +kernel
theorem dJ0_isLatin1_aae02_18 : decode cJ0_isLatin1_aae02 18 = .ok (.ireturn, 1) := by decide +kernel
theorem dJ0_checkIndex_df160_0 : decode cJ0_checkIndex_df160 0 = .ok (.iload_n 0, 1) := by decide +kernel
theorem dJ0_checkIndex_df160_1 : decode cJ0_checkIndex_df160 1 = .ok (.iload_n 1, 1) := by decide +kernel
theorem dJ0_checkIndex_df160_2 : decode cJ0_checkIndex_df160 2 = .ok (.getstatic 1053, 3) := by decide +kernel
theorem dJ0_checkIndex_df160_5 : decode cJ0_checkIndex_df160 5 = .ok (.invokestatic 1059, 3) := by decide +kernel
theorem dJ0_checkIndex_df160_8 : decode cJ0_checkIndex_df160 8 = .ok (.pop, 1) := by decide +kernel
theorem dJ0_checkIndex_df160_9 : decode cJ0_checkIndex_df160 9 = .ok (.return_, 1) := by decide +kernel
theorem dJ0_checkBoundsBeginEnd_23922_0 : decode cJ0_checkBoundsBeginEnd_23922 0 = .ok (.iload_n 0, 1) := by decide +kernel
theorem dJ0_checkBoundsBeginEnd_23922_1 : decode cJ0_checkBoundsBeginEnd_23922 1 = .ok (.iload_n 1, 1) := by decide +kernel
theorem dJ0_checkBoundsBeginEnd_23922_2 : decode cJ0_checkBoundsBeginEnd_23922 2 = .ok (.iload_n 2, 1) := by decide +kernel
theorem dJ0_checkBoundsBeginEnd_23922_3 : decode cJ0_checkBoundsBeginEnd_23922 3 = .ok (.getstatic 1053, 3) := by decide +kernel
theorem dJ0_checkBoundsBeginEnd_23922_6 : decode cJ0_checkBoundsBeginEnd_23922 6 = .ok (.invokestatic 1062, 3) := by decide +kernel
theorem dJ0_checkBoundsBeginEnd_23922_9 : decode cJ0_checkBoundsBeginEnd_23922 9 = .ok (.pop, 1) := by decide +kernel
theorem dJ0_checkBoundsBeginEnd_23922_10 : decode cJ0_checkBoundsBeginEnd_23922 10 = .ok (.return_, 1) := by decide +kernel
theorem dJ1_charAt_3b067_0 : decode cJ1_charAt_3b067 0 = .ok (.iload_n 1, 1) := by decide +kernel
theorem dJ1_charAt_3b067_1 : decode cJ1_charAt_3b067 1 = .ok (.aload_n 0, 1) := by decide +kernel
theorem dJ1_charAt_3b067_2 : decode cJ1_charAt_3b067 2 = .ok (.arraylength, 1) := by decide +kernel
theorem dJ1_charAt_3b067_3 : decode cJ1_charAt_3b067 3 = .ok (.invokestatic 9, 3) := by decide +kernel
theorem dJ1_charAt_3b067_6 : decode cJ1_charAt_3b067 6 = .ok (.aload_n 0, 1) := by decide +kernel
theorem dJ1_charAt_3b067_7 : decode cJ1_charAt_3b067 7 = .ok (.iload_n 1, 1) := by decide +kernel
theorem dJ1_charAt_3b067_8 : decode cJ1_charAt_3b067 8 = .ok (.baload, 1) := by decide +kernel
theorem dJ1_charAt_3b067_9 : decode cJ1_charAt_3b067 9 = .ok (.sipush 255, 3) := by decide +kernel
theorem dJ1_charAt_3b067_12 : decode cJ1_charAt_3b067 12 = .ok (.iand, 1) := by decide +kernel
theorem dJ1_charAt_3b067_13 : decode cJ1_charAt_3b067 13 = .ok (.i2c, 1) := by decide +kernel
theorem dJ1_charAt_3b067_14 : decode cJ1_charAt_3b067 14 = .ok (.ireturn, 1) := by decide +kernel
theorem dJ1_canEncode_9a6ad_0 : decode cJ1_canEncode_9a6ad 0 = .ok (.iload_n 0, 1) := by decide +kernel
theorem dJ1_canEncode_9a6ad_1 : decode cJ1_canEncode_9a6ad 1 = .ok (.ifCond .lt 14, 3) := by decide +kernel
theorem dJ1_canEncode_9a6ad_4 : decode cJ1_canEncode_9a6ad 4 = .ok (.iload_n 0, 1) := by decide +kernel
theorem dJ1_canEncode_9a6ad_5 : decode cJ1_canEncode_9a6ad 5 = .ok (.sipush 255, 3) := by decide +kernel
theorem dJ1_canEncode_9a6ad_8 : decode cJ1_canEncode_9a6ad 8 = .ok (.if_icmp .gt 7, 3) := by decide +kernel
theorem dJ1_canEncode_9a6ad_11 : decode cJ1_canEncode_9a6ad 11 = .ok (.iconst 1, 1) := by decide +kernel
theorem dJ1_canEncode_9a6ad_12 : decode cJ1_canEncode_9a6ad 12 = .ok (.goto 4, 3) := by decide +kernel
theorem dJ1_canEncode_9a6ad_15 : decode cJ1_canEncode_9a6ad 15 = .ok (.iconst 0, 1) := by decide +kernel
theorem dJ1_canEncode_9a6ad_16 : decode cJ1_canEncode_9a6ad 16 = .ok (.ireturn, 1) := by decide +kernel
theorem dJ1_indexOf_4cfef_0 : decode cJ1_indexOf_4cfef 0 = .ok (.iload_n 1, 1) := by decide +kernel
theorem dJ1_indexOf_4cfef_1 : decode cJ1_indexOf_4cfef 1 = .ok (.invokestatic 88, 3) := by decide +kernel
theorem dJ1_indexOf_4cfef_4 : decode cJ1_indexOf_4cfef 4 = .ok (.ifCond .ne 5, 3) := by decide +kernel
theorem dJ1_indexOf_4cfef_7 : decode cJ1_indexOf_4cfef 7 = .ok (.iconst (-1), 1) := by decide +kernel
theorem dJ1_indexOf_4cfef_8 : decode cJ1_indexOf_4cfef 8 = .ok (.ireturn, 1) := by decide +kernel
theorem dJ1_indexOf_4cfef_9 : decode cJ1_indexOf_4cfef 9 = .ok (.iload_n 2, 1) := by decide +kernel
theorem dJ1_indexOf_4cfef_10 : decode cJ1_indexOf_4cfef 10 = .ok (.iconst 0, 1) := by decide +kernel
theorem dJ1_indexOf_4cfef_11 : decode cJ1_indexOf_4cfef 11 = .ok (.invokestatic 92, 3) := by decide +kernel
theorem dJ1_indexOf_4cfef_14 : decode cJ1_indexOf_4cfef 14 = .ok (.istore_n 2, 1) := by decide +kernel
theorem dJ1_indexOf_4cfef_15 : decode cJ1_indexOf_4cfef 15 = .ok (.iload_n 3, 1) := by decide +kernel
theorem dJ1_indexOf_4cfef_16 : decode cJ1_indexOf_4cfef 16 = .ok (.aload_n 0, 1) := by decide +kernel
theorem dJ1_indexOf_4cfef_17 : decode cJ1_indexOf_4cfef 17 = .ok (.arraylength, 1) := by decide +kernel
theorem dJ1_indexOf_4cfef_18 : decode cJ1_indexOf_4cfef 18 = .ok (.invokestatic 38, 3) := by decide +kernel
theorem dJ1_indexOf_4cfef_21 : decode cJ1_indexOf_4cfef 21 = .ok (.istore_n 3, 1) := by decide +kernel
theorem dJ1_indexOf_4cfef_22 : decode cJ1_indexOf_4cfef 22 = .ok (.iload_n 2, 1) := by decide +kernel
theorem dJ1_indexOf_4cfef_23 : decode cJ1_indexOf_4cfef 23 = .ok (.iload_n 3, 1) := by decide +kernel
theorem dJ1_indexOf_4cfef_24 : decode cJ1_indexOf_4cfef 24 = .ok (.if_icmp .lt 5, 3) := by decide +kernel
theorem dJ1_indexOf_4cfef_27 : decode cJ1_indexOf_4cfef 27 = .ok (.iconst (-1), 1) := by decide +kernel
theorem dJ1_indexOf_4cfef_28 : decode cJ1_indexOf_4cfef 28 = .ok (.ireturn, 1) := by decide +kernel
theorem dJ1_indexOf_4cfef_29 : decode cJ1_indexOf_4cfef 29 = .ok (.aload_n 0, 1) := by decide +kernel
theorem dJ1_indexOf_4cfef_30 : decode cJ1_indexOf_4cfef 30 = .ok (.iload_n 1, 1) := by decide +kernel
theorem dJ1_indexOf_4cfef_31 : decode cJ1_indexOf_4cfef 31 = .ok (.iload_n 2, 1) := by decide +kernel
theorem dJ1_indexOf_4cfef_32 : decode cJ1_indexOf_4cfef 32 = .ok (.iload_n 3, 1) := by decide +kernel
theorem dJ1_indexOf_4cfef_33 : decode cJ1_indexOf_4cfef 33 = .ok (.invokestatic 95, 3) := by decide +kernel
theorem dJ1_indexOf_4cfef_36 : decode cJ1_indexOf_4cfef 36 = .ok (.ireturn, 1) := by decide +kernel
theorem dJ1_indexOfChar_4cfef_0 : decode cJ1_indexOfChar_4cfef 0 = .ok (.iload_n 1, 1) := by decide +kernel
theorem dJ1_indexOfChar_4cfef_1 : decode cJ1_indexOfChar_4cfef 1 = .ok (.i2b, 1) := by decide +kernel
theorem dJ1_indexOfChar_4cfef_2 : decode cJ1_indexOfChar_4cfef 2 = .ok (.istore 4, 2) := by decide +kernel
theorem dJ1_indexOfChar_4cfef_4 : decode cJ1_indexOfChar_4cfef 4 = .ok (.iload_n 2, 1) := by decide +kernel
theorem dJ1_indexOfChar_4cfef_5 : decode cJ1_indexOfChar_4cfef 5 = .ok (.istore 5, 2) := by decide +kernel
theorem dJ1_indexOfChar_4cfef_7 : decode cJ1_indexOfChar_4cfef 7 = .ok (.iload 5, 2) := by decide +kernel
theorem dJ1_indexOfChar_4cfef_9 : decode cJ1_indexOfChar_4cfef 9 = .ok (.iload_n 3, 1) := by decide +kernel
theorem dJ1_indexOfChar_4cfef_10 : decode cJ1_indexOfChar_4cfef 10 = .ok (.if_icmp .ge 21, 3) := by decide +kernel
theorem dJ1_indexOfChar_4cfef_13 : decode cJ1_indexOfChar_4cfef 13 = .ok (.aload_n 0, 1) := by decide +kernel
theorem dJ1_indexOfChar_4cfef_14 : decode cJ1_indexOfChar_4cfef 14 = .ok (.iload 5, 2) := by decide +kernel
theorem dJ1_indexOfChar_4cfef_16 : decode cJ1_indexOfChar_4cfef 16 = .ok (.baload, 1) := by decide +kernel
theorem dJ1_indexOfChar_4cfef_17 : decode cJ1_indexOfChar_4cfef 17 = .ok (.iload 4, 2) := by decide +kernel
theorem dJ1_indexOfChar_4cfef_19 : decode cJ1_indexOfChar_4cfef 19 = .ok (.if_icmp .ne 6, 3) := by decide +kernel
theorem dJ1_indexOfChar_4cfef_22 : decode cJ1_indexOfChar_4cfef 22 = .ok (.iload 5, 2) := by decide +kernel
theorem dJ1_indexOfChar_4cfef_24 : decode cJ1_indexOfChar_4cfef 24 = .ok (.ireturn, 1) := by decide +kernel
theorem dJ1_indexOfChar_4cfef_25 : decode cJ1_indexOfChar_4cfef 25 = .ok (.iinc 5 1, 3) := by decide +kernel
theorem dJ1_indexOfChar_4cfef_28 : decode cJ1_indexOfChar_4cfef 28 = .ok (.goto (-21), 3) := by decide +kernel
theorem dJ1_indexOfChar_4cfef_31 : decode cJ1_indexOfChar_4cfef 31 = .ok (.iconst (-1), 1) := by decide +kernel
theorem dJ1_indexOfChar_4cfef_32 : decode cJ1_indexOfChar_4cfef 32 = .ok (.ireturn, 1) := by decide +kernel
theorem dJ2_getChar_3b067_0 : decode cJ2_getChar_3b067 0 = .ok (.getstatic 44, 3) := by decide +kernel
theorem dJ2_getChar_3b067_3 : decode cJ2_getChar_3b067 3 = .ok (.ifCond .ne 25, 3) := by decide +kernel
theorem dJ2_getChar_3b067_6 : decode cJ2_getChar_3b067 6 = .ok (.iload_n 1, 1) := by decide +kernel
theorem dJ2_getChar_3b067_7 : decode cJ2_getChar_3b067 7 = .ok (.ifCond .lt 11, 3) := by decide +kernel
theorem dJ2_getChar_3b067_10 : decode cJ2_getChar_3b067 10 = .ok (.iload_n 1, 1) := by decide +kernel
theorem dJ2_getChar_3b067_11 : decode cJ2_getChar_3b067 11 = .ok (.aload_n 0, 1) := by decide +kernel
theorem dJ2_getChar_3b067_12 : decode cJ2_getChar_3b067 12 = .ok (.invokestatic 48, 3) := by decide +kernel
theorem dJ2_getChar_3b067_15 : decode cJ2_getChar_3b067 15 = .ok (.if_icmp .lt 13, 3) := by decide +kernel
theorem dJ2_getChar_3b067_18 : decode cJ2_getChar_3b067 18 = .ok (.new 52, 3) := by decide +kernel
theorem dJ2_getChar_3b067_21 : decode cJ2_getChar_3b067 21 = .ok (.dup, 1) := by decide +kernel
theorem dJ2_getChar_3b067_22 : decode cJ2_getChar_3b067 22 = .ok (.ldc 54, 2) := by decide +kernel
theorem dJ2_getChar_3b067_24 : decode cJ2_getChar_3b067 24 = .ok (.invokespecial 56, 3) := by decide +kernel
theorem dJ2_getChar_3b067_27 : decode cJ2_getChar_3b067 27 = .ok (.athrow, 1) := by decide +kernel
theorem dJ2_getChar_3b067_28 : decode cJ2_getChar_3b067 28 = .ok (.iload_n 1, 1) := by decide +kernel
theorem dJ2_getChar_3b067_29 : decode cJ2_getChar_3b067 29 = .ok (.iconst 1, 1) := by decide +kernel
theorem dJ2_getChar_3b067_30 : decode cJ2_getChar_3b067 30 = .ok (.ishl, 1) := by decide +kernel
theorem dJ2_getChar_3b067_31 : decode cJ2_getChar_3b067 31 = .ok (.istore_n 1, 1) := by decide +kernel
theorem dJ2_getChar_3b067_32 : decode cJ2_getChar_3b067 32 = .ok (.aload_n 0, 1) := by decide +kernel
theorem dJ2_getChar_3b067_33 : decode cJ2_getChar_3b067 33 = .ok (.iload_n 1, 1) := by decide +kernel
theorem dJ2_getChar_3b067_34 : decode cJ2_getChar_3b067 34 = .ok (.iinc 1 1, 3) := by decide +kernel
theorem dJ2_getChar_3b067_37 : decode cJ2_getChar_3b067 37 = .ok (.baload, 1) := by decide +kernel
theorem dJ2_getChar_3b067_38 : decode cJ2_getChar_3b067 38 = .ok (.sipush 255, 3) := by decide +kernel
theorem dJ2_getChar_3b067_41 : decode cJ2_getChar_3b067 41 = .ok (.iand, 1) := by decide +kernel
theorem dJ2_getChar_3b067_42 : decode cJ2_getChar_3b067 42 = .ok (.getstatic 59, 3) := by decide +kernel
theorem dJ2_getChar_3b067_45 : decode cJ2_getChar_3b067 45 = .ok (.ishl, 1) := by decide +kernel
theorem dJ2_getChar_3b067_46 : decode cJ2_getChar_3b067 46 = .ok (.aload_n 0, 1) := by decide +kernel
theorem dJ2_getChar_3b067_47 : decode cJ2_getChar_3b067 47 = .ok (.iload_n 1, 1) := by decide +kernel
theorem dJ2_getChar_3b067_48 : decode cJ2_getChar_3b067 48 = .ok (.baload, 1) := by decide +kernel
theorem dJ2_getChar_3b067_49 : decode cJ2_getChar_3b067 49 = .ok (.sipush 255, 3) := by decide +kernel
theorem dJ2_getChar_3b067_52 : decode cJ2_getChar_3b067 52 = .ok (.iand, 1) := by decide +kernel
theorem dJ2_getChar_3b067_53 : decode cJ2_getChar_3b067 53 = .ok (.getstatic 63, 3) := by decide +kernel
theorem dJ2_getChar_3b067_56 : decode cJ2_getChar_3b067 56 = .ok (.ishl, 1) := by decide +kernel
theorem dJ2_getChar_3b067_57 : decode cJ2_getChar_3b067 57 = .ok (.ior, 1) := by decide +kernel
theorem dJ2_getChar_3b067_58 : decode cJ2_getChar_3b067 58 = .ok (.i2c, 1) := by decide +kernel
theorem dJ2_getChar_3b067_59 : decode cJ2_getChar_3b067 59 = .ok (.ireturn, 1) := by decide +kernel
theorem dJ2_length_9d52b_0 : decode cJ2_length_9d52b 0 = .ok (.aload_n 0, 1) := by decide +kernel
theorem dJ2_length_9d52b_1 : decode cJ2_length_9d52b 1 = .ok (.arraylength, 1) := by decide +kernel
theorem dJ2_length_9d52b_2 : decode cJ2_length_9d52b 2 = .ok (.iconst 1, 1) := by decide +kernel
theorem dJ2_length_9d52b_3 : decode cJ2_length_9d52b 3 = .ok (.ishr, 1) := by decide +kernel
theorem dJ2_length_9d52b_4 : decode cJ2_length_9d52b 4 = .ok (.ireturn, 1) := by decide +kernel
theorem dJ2_indexOf_4cfef_0 : decode cJ2_indexOf_4cfef 0 = .ok (.iload_n 2, 1) := by decide +kernel
theorem dJ2_indexOf_4cfef_1 : decode cJ2_indexOf_4cfef 1 = .ok (.iconst 0, 1) := by decide +kernel
theorem dJ2_indexOf_4cfef_2 : decode cJ2_indexOf_4cfef 2 = .ok (.invokestatic 224, 3) := by decide +kernel
theorem dJ2_indexOf_4cfef_5 : decode cJ2_indexOf_4cfef 5 = .ok (.istore_n 2, 1) := by decide +kernel
theorem dJ2_indexOf_4cfef_6 : decode cJ2_indexOf_4cfef 6 = .ok (.iload_n 3, 1) := by decide +kernel
theorem dJ2_indexOf_4cfef_7 : decode cJ2_indexOf_4cfef 7 = .ok (.aload_n 0, 1) := by decide +kernel
theorem dJ2_indexOf_4cfef_8 : decode cJ2_indexOf_4cfef 8 = .ok (.arraylength, 1) := by decide +kernel
theorem dJ2_indexOf_4cfef_9 : decode cJ2_indexOf_4cfef 9 = .ok (.iconst 1, 1) := by decide +kernel
theorem dJ2_indexOf_4cfef_10 : decode cJ2_indexOf_4cfef 10 = .ok (.ishr, 1) := by decide +kernel
theorem dJ2_indexOf_4cfef_11 : decode cJ2_indexOf_4cfef 11 = .ok (.invokestatic 183, 3) := by decide +kernel
theorem dJ2_indexOf_4cfef_14 : decode cJ2_indexOf_4cfef 14 = .ok (.istore_n 3, 1) := by decide +kernel
theorem dJ2_indexOf_4cfef_15 : decode cJ2_indexOf_4cfef 15 = .ok (.iload_n 2, 1) := by decide +kernel
theorem dJ2_indexOf_4cfef_16 : decode cJ2_indexOf_4cfef 16 = .ok (.iload_n 3, 1) := by decide +kernel
theorem dJ2_indexOf_4cfef_17 : decode cJ2_indexOf_4cfef 17 = .ok (.if_icmp .lt 5, 3) := by decide +kernel
theorem dJ2_indexOf_4cfef_20 : decode cJ2_indexOf_4cfef 20 = .ok (.iconst (-1), 1) := by decide +kernel
theorem dJ2_indexOf_4cfef_21 : decode cJ2_indexOf_4cfef 21 = .ok (.ireturn, 1) := by decide +kernel
theorem dJ2_indexOf_4cfef_22 : decode cJ2_indexOf_4cfef 22 = .ok (.iload_n 1, 1) := by decide +kernel
theorem dJ2_indexOf_4cfef_23 : decode cJ2_indexOf_4cfef 23 = .ok (.ldc 227, 2) := by decide +kernel
theorem dJ2_indexOf_4cfef_25 : decode cJ2_indexOf_4cfef 25 = .ok (.if_icmp .ge 11, 3) := by decide +kernel
theorem dJ2_indexOf_4cfef_28 : decode cJ2_indexOf_4cfef 28 = .ok (.aload_n 0, 1) := by decide +kernel
theorem dJ2_indexOf_4cfef_29 : decode cJ2_indexOf_4cfef 29 = .ok (.iload_n 1, 1) := by decide +kernel
theorem dJ2_indexOf_4cfef_30 : decode cJ2_indexOf_4cfef 30 = .ok (.iload_n 2, 1) := by decide +kernel
theorem dJ2_indexOf_4cfef_31 : decode cJ2_indexOf_4cfef 31 = .ok (.iload_n 3, 1) := by decide +kernel
theorem dJ2_indexOf_4cfef_32 : decode cJ2_indexOf_4cfef 32 = .ok (.invokestatic 228, 3) := by decide +kernel
theorem dJ2_indexOf_4cfef_35 : decode cJ2_indexOf_4cfef 35 = .ok (.ireturn, 1) := by decide +kernel
theorem dJ2_indexOf_4cfef_36 : decode cJ2_indexOf_4cfef 36 = .ok (.aload_n 0, 1) := by decide +kernel
theorem dJ2_indexOf_4cfef_37 : decode cJ2_indexOf_4cfef 37 = .ok (.iload_n 1, 1) := by decide +kernel
theorem dJ2_indexOf_4cfef_38 : decode cJ2_indexOf_4cfef 38 = .ok (.iload_n 2, 1) := by decide +kernel
theorem dJ2_indexOf_4cfef_39 : decode cJ2_indexOf_4cfef 39 = .ok (.iload_n 3, 1) := by decide +kernel
theorem dJ2_indexOf_4cfef_40 : decode cJ2_indexOf_4cfef 40 = .ok (.invokestatic 232, 3) := by decide +kernel
theorem dJ2_indexOf_4cfef_43 : decode cJ2_indexOf_4cfef 43 = .ok (.ireturn, 1) := by decide +kernel
theorem dJ2_indexOfChar_4cfef_0 : decode cJ2_indexOfChar_4cfef 0 = .ok (.iload_n 2, 1) := by decide +kernel
theorem dJ2_indexOfChar_4cfef_1 : decode cJ2_indexOfChar_4cfef 1 = .ok (.iload_n 3, 1) := by decide +kernel
theorem dJ2_indexOfChar_4cfef_2 : decode cJ2_indexOfChar_4cfef 2 = .ok (.aload_n 0, 1) := by decide +kernel
theorem dJ2_indexOfChar_4cfef_3 : decode cJ2_indexOfChar_4cfef 3 = .ok (.invokestatic 96, 3) := by decide +kernel
theorem dJ2_indexOfChar_4cfef_6 : decode cJ2_indexOfChar_4cfef 6 = .ok (.aload_n 0, 1) := by decide +kernel
theorem dJ2_indexOfChar_4cfef_7 : decode cJ2_indexOfChar_4cfef 7 = .ok (.iload_n 1, 1) := by decide +kernel
theorem dJ2_indexOfChar_4cfef_8 : decode cJ2_indexOfChar_4cfef 8 = .ok (.iload_n 2, 1) := by decide +kernel
theorem dJ2_indexOfChar_4cfef_9 : decode cJ2_indexOfChar_4cfef 9 = .ok (.iload_n 3, 1) := by decide +kernel
theorem dJ2_indexOfChar_4cfef_10 : decode cJ2_indexOfChar_4cfef 10 = .ok (.invokestatic 244, 3) := by decide +kernel
theorem dJ2_indexOfChar_4cfef_13 : decode cJ2_indexOfChar_4cfef 13 = .ok (.ireturn, 1) := by decide +kernel
theorem dJ2_indexOfCharUnsafe_4cfef_0 : decode cJ2_indexOfCharUnsafe_4cfef 0 = .ok (.iload_n 2, 1) := by decide +kernel
theorem dJ2_indexOfCharUnsafe_4cfef_1 : decode cJ2_indexOfCharUnsafe_4cfef 1 = .ok (.istore 4, 2) := by decide +kernel
theorem dJ2_indexOfCharUnsafe_4cfef_3 : decode cJ2_indexOfCharUnsafe_4cfef 3 = .ok (.iload 4, 2) := by decide +kernel
theorem dJ2_indexOfCharUnsafe_4cfef_5 : decode cJ2_indexOfCharUnsafe_4cfef 5 = .ok (.iload_n 3, 1) := by decide +kernel
theorem dJ2_indexOfCharUnsafe_4cfef_6 : decode cJ2_indexOfCharUnsafe_4cfef 6 = .ok (.if_icmp .ge 22, 3) := by decide +kernel
theorem dJ2_indexOfCharUnsafe_4cfef_9 : decode cJ2_indexOfCharUnsafe_4cfef 9 = .ok (.aload_n 0, 1) := by decide +kernel
theorem dJ2_indexOfCharUnsafe_4cfef_10 : decode cJ2_indexOfCharUnsafe_4cfef 10 = .ok (.iload 4, 2) := by decide +kernel
theorem dJ2_indexOfCharUnsafe_4cfef_12 : decode cJ2_indexOfCharUnsafe_4cfef 12 = .ok (.invokestatic 71, 3) := by decide +kernel
theorem dJ2_indexOfCharUnsafe_4cfef_15 : decode cJ2_indexOfCharUnsafe_4cfef 15 = .ok (.iload_n 1, 1) := by decide +kernel
theorem dJ2_indexOfCharUnsafe_4cfef_16 : decode cJ2_indexOfCharUnsafe_4cfef 16 = .ok (.if_icmp .ne 6, 3) := by decide +kernel
theorem dJ2_indexOfCharUnsafe_4cfef_19 : decode cJ2_indexOfCharUnsafe_4cfef 19 = .ok (.iload 4, 2) := by decide +kernel
theorem dJ2_indexOfCharUnsafe_4cfef_21 : decode cJ2_indexOfCharUnsafe_4cfef 21 = .ok (.ireturn, 1) := by decide +kernel
theorem dJ2_indexOfCharUnsafe_4cfef_22 : decode cJ2_indexOfCharUnsafe_4cfef 22 = .ok (.iinc 4 1, 3) := by decide +kernel
theorem dJ2_indexOfCharUnsafe_4cfef_25 : decode cJ2_indexOfCharUnsafe_4cfef 25 = .ok (.goto (-22), 3) := by decide +kernel
theorem dJ2_indexOfCharUnsafe_4cfef_28 : decode cJ2_indexOfCharUnsafe_4cfef 28 = .ok (.iconst (-1), 1) := by decide +kernel
theorem dJ2_indexOfCharUnsafe_4cfef_29 : decode cJ2_indexOfCharUnsafe_4cfef 29 = .ok (.ireturn, 1) := by decide +kernel
theorem dJ2_indexOfSupplementary_4cfef_0 : decode cJ2_indexOfSupplementary_4cfef 0 = .ok (.iload_n 1, 1) := by decide +kernel
theorem dJ2_indexOfSupplementary_4cfef_1 : decode cJ2_indexOfSupplementary_4cfef 1 = .ok (.invokestatic 164, 3) := by decide +kernel
theorem dJ2_indexOfSupplementary_4cfef_4 : decode cJ2_indexOfSupplementary_4cfef 4 = .ok (.ifCond .eq 65, 3) := by decide +kernel
theorem dJ2_indexOfSupplementary_4cfef_7 : decode cJ2_indexOfSupplementary_4cfef 7 = .ok (.iload_n 1, 1) := by decide +kernel
theorem dJ2_indexOfSupplementary_4cfef_8 : decode cJ2_indexOfSupplementary_4cfef 8 = .ok (.invokestatic 157, 3) := by decide +kernel
theorem dJ2_indexOfSupplementary_4cfef_11 : decode cJ2_indexOfSupplementary_4cfef 11 = .ok (.istore 4, 2) := by decide +kernel
theorem dJ2_indexOfSupplementary_4cfef_13 : decode cJ2_indexOfSupplementary_4cfef 13 = .ok (.iload_n 1, 1) := by decide +kernel
theorem dJ2_indexOfSupplementary_4cfef_14 : decode cJ2_indexOfSupplementary_4cfef 14 = .ok (.invokestatic 161, 3) := by decide +kernel
theorem dJ2_indexOfSupplementary_4cfef_17 : decode cJ2_indexOfSupplementary_4cfef 17 = .ok (.istore 5, 2) := by decide +kernel
theorem dJ2_indexOfSupplementary_4cfef_19 : decode cJ2_indexOfSupplementary_4cfef 19 = .ok (.iload_n 2, 1) := by decide +kernel
theorem dJ2_indexOfSupplementary_4cfef_20 : decode cJ2_indexOfSupplementary_4cfef 20 = .ok (.iload_n 3, 1) := by decide +kernel
theorem dJ2_indexOfSupplementary_4cfef_21 : decode cJ2_indexOfSupplementary_4cfef 21 = .ok (.aload_n 0, 1) := by decide +kernel
theorem dJ2_indexOfSupplementary_4cfef_22 : decode cJ2_indexOfSupplementary_4cfef 22 = .ok (.invokestatic 96, 3) := by decide +kernel
theorem dJ2_indexOfSupplementary_4cfef_25 : decode cJ2_indexOfSupplementary_4cfef 25 = .ok (.iload_n 2, 1) := by decide +kernel
theorem dJ2_indexOfSupplementary_4cfef_26 : decode cJ2_indexOfSupplementary_4cfef 26 = .ok (.istore 6, 2) := by decide +kernel
theorem dJ2_indexOfSupplementary_4cfef_28 : decode cJ2_indexOfSupplementary_4cfef 28 = .ok (.iload 6, 2) := by decide +kernel
theorem dJ2_indexOfSupplementary_4cfef_30 : decode cJ2_indexOfSupplementary_4cfef 30 = .ok (.iload_n 3, 1) := by decide +kernel
theorem dJ2_indexOfSupplementary_4cfef_31 : decode cJ2_indexOfSupplementary_4cfef 31 = .ok (.iconst 1, 1) := by decide +kernel
theorem dJ2_indexOfSupplementary_4cfef_32 : decode cJ2_indexOfSupplementary_4cfef 32 = .ok (.isub, 1) := by decide +kernel
theorem dJ2_indexOfSupplementary_4cfef_33 : decode cJ2_indexOfSupplementary_4cfef 33 = .ok (.if_icmp .ge 36, 3) := by decide +kernel
theorem dJ2_indexOfSupplementary_4cfef_36 : decode cJ2_indexOfSupplementary_4cfef 36 = .ok (.aload_n 0, 1) := by decide +kernel
theorem dJ2_indexOfSupplementary_4cfef_37 : decode cJ2_indexOfSupplementary_4cfef 37 = .ok (.iload 6, 2) := by decide +kernel
theorem dJ2_indexOfSupplementary_4cfef_39 : decode cJ2_indexOfSupplementary_4cfef 39 = .ok (.invokestatic 71, 3) := by decide +kernel
theorem dJ2_indexOfSupplementary_4cfef_42 : decode cJ2_indexOfSupplementary_4cfef 42 = .ok (.iload 4, 2) := by decide +kernel
theorem dJ2_indexOfSupplementary_4cfef_44 : decode cJ2_indexOfSupplementary_4cfef 44 = .ok (.if_icmp .ne 19, 3) := by decide +kernel
theorem dJ2_indexOfSupplementary_4cfef_47 : decode cJ2_indexOfSupplementary_4cfef 47 = .ok (.aload_n 0, 1) := by decide +kernel
theorem dJ2_indexOfSupplementary_4cfef_48 : decode cJ2_indexOfSupplementary_4cfef 48 = .ok (.iload 6, 2) := by decide +kernel
theorem dJ2_indexOfSupplementary_4cfef_50 : decode cJ2_indexOfSupplementary_4cfef 50 = .ok (.iconst 1, 1) := by decide +kernel
theorem dJ2_indexOfSupplementary_4cfef_51 : decode cJ2_indexOfSupplementary_4cfef 51 = .ok (.iadd, 1) := by decide +kernel
theorem dJ2_indexOfSupplementary_4cfef_52 : decode cJ2_indexOfSupplementary_4cfef 52 = .ok (.invokestatic 71, 3) := by decide +kernel
theorem dJ2_indexOfSupplementary_4cfef_55 : decode cJ2_indexOfSupplementary_4cfef 55 = .ok (.iload 5, 2) := by decide +kernel
theorem dJ2_indexOfSupplementary_4cfef_57 : decode cJ2_indexOfSupplementary_4cfef 57 = .ok (.if_icmp .ne 6, 3) := by decide +kernel
theorem dJ2_indexOfSupplementary_4cfef_60 : decode cJ2_indexOfSupplementary_4cfef 60 = .ok (.iload 6, 2) := by decide +kernel
theorem dJ2_indexOfSupplementary_4cfef_62 : decode cJ2_indexOfSupplementary_4cfef 62 = .ok (.ireturn, 1) := by decide +kernel
theorem dJ2_indexOfSupplementary_4cfef_63 : decode cJ2_indexOfSupplementary_4cfef 63 = .ok (.iinc 6 1, 3) := by decide +kernel
theorem dJ2_indexOfSupplementary_4cfef_66 : decode cJ2_indexOfSupplementary_4cfef 66 = .ok (.goto (-38), 3) := by decide +kernel
theorem dJ2_indexOfSupplementary_4cfef_69 : decode cJ2_indexOfSupplementary_4cfef 69 = .ok (.iconst (-1), 1) := by decide +kernel
theorem dJ2_indexOfSupplementary_4cfef_70 : decode cJ2_indexOfSupplementary_4cfef 70 = .ok (.ireturn, 1) := by decide +kernel
theorem dJ2_charAt_3b067_0 : decode cJ2_charAt_3b067 0 = .ok (.iload_n 1, 1) := by decide +kernel
theorem dJ2_charAt_3b067_1 : decode cJ2_charAt_3b067 1 = .ok (.aload_n 0, 1) := by decide +kernel
theorem dJ2_charAt_3b067_2 : decode cJ2_charAt_3b067 2 = .ok (.invokestatic 67, 3) := by decide +kernel
theorem dJ2_charAt_3b067_5 : decode cJ2_charAt_3b067 5 = .ok (.aload_n 0, 1) := by decide +kernel
theorem dJ2_charAt_3b067_6 : decode cJ2_charAt_3b067 6 = .ok (.iload_n 1, 1) := by decide +kernel
theorem dJ2_charAt_3b067_7 : decode cJ2_charAt_3b067 7 = .ok (.invokestatic 71, 3) := by decide +kernel
theorem dJ2_charAt_3b067_10 : decode cJ2_charAt_3b067 10 = .ok (.ireturn, 1) := by decide +kernel
theorem dJ2_checkIndex_2214a_0 : decode cJ2_checkIndex_2214a 0 = .ok (.iload_n 0, 1) := by decide +kernel
theorem dJ2_checkIndex_2214a_1 : decode cJ2_checkIndex_2214a 1 = .ok (.aload_n 1, 1) := by decide +kernel
theorem dJ2_checkIndex_2214a_2 : decode cJ2_checkIndex_2214a 2 = .ok (.invokestatic 48, 3) := by decide +kernel
theorem dJ2_checkIndex_2214a_5 : decode cJ2_checkIndex_2214a 5 = .ok (.invokestatic 414, 3) := by decide +kernel
theorem dJ2_checkIndex_2214a_8 : decode cJ2_checkIndex_2214a 8 = .ok (.return_, 1) := by decide +kernel
theorem dJ2_checkBoundsBeginEnd_d044e_0 : decode cJ2_checkBoundsBeginEnd_d044e 0 = .ok (.iload_n 0, 1) := by decide +kernel
theorem dJ2_checkBoundsBeginEnd_d044e_1 : decode cJ2_checkBoundsBeginEnd_d044e 1 = .ok (.iload_n 1, 1) := by decide +kernel
theorem dJ2_checkBoundsBeginEnd_d044e_2 : decode cJ2_checkBoundsBeginEnd_d044e 2 = .ok (.aload_n 2, 1) := by decide +kernel
theorem dJ2_checkBoundsBeginEnd_d044e_3 : decode cJ2_checkBoundsBeginEnd_d044e 3 = .ok (.invokestatic 48, 3) := by decide +kernel
theorem dJ2_checkBoundsBeginEnd_d044e_6 : decode cJ2_checkBoundsBeginEnd_d044e 6 = .ok (.invokestatic 241, 3) := by decide +kernel
theorem dJ2_checkBoundsBeginEnd_d044e_9 : decode cJ2_checkBoundsBeginEnd_d044e 9 = .ok (.return_, 1) := by decide +kernel
theorem dJ3_checkIndex_8e157_0 : decode cJ3_checkIndex_8e157 0 = .ok (.iload_n 0, 1) := by decide +kernel
theorem dJ3_checkIndex_8e157_1 : decode cJ3_checkIndex_8e157 1 = .ok (.ifCond .lt 8, 3) := by decide +kernel
theorem dJ3_checkIndex_8e157_4 : decode cJ3_checkIndex_8e157 4 = .ok (.iload_n 0, 1) := by decide +kernel
theorem dJ3_checkIndex_8e157_5 : decode cJ3_checkIndex_8e157 5 = .ok (.iload_n 1, 1) := by decide +kernel
theorem dJ3_checkIndex_8e157_6 : decode cJ3_checkIndex_8e157 6 = .ok (.if_icmp .lt 10, 3) := by decide +kernel
theorem dJ3_checkIndex_8e157_9 : decode cJ3_checkIndex_8e157 9 = .ok (.aload_n 2, 1) := by decide +kernel
theorem dJ3_checkIndex_8e157_10 : decode cJ3_checkIndex_8e157 10 = .ok (.iload_n 0, 1) := by decide +kernel
theorem dJ3_checkIndex_8e157_11 : decode cJ3_checkIndex_8e157 11 = .ok (.iload_n 1, 1) := by decide +kernel
theorem dJ3_checkIndex_8e157_12 : decode cJ3_checkIndex_8e157 12 = .ok (.invokestatic 95, 3) := by decide +kernel
theorem dJ3_checkIndex_8e157_15 : decode cJ3_checkIndex_8e157 15 = .ok (.athrow, 1) := by decide +kernel
theorem dJ3_checkIndex_8e157_16 : decode cJ3_checkIndex_8e157 16 = .ok (.iload_n 0, 1) := by decide +kernel
theorem dJ3_checkIndex_8e157_17 : decode cJ3_checkIndex_8e157 17 = .ok (.ireturn, 1) := by decide +kernel
theorem dJ3_checkFromToIndex_8c36e_0 : decode cJ3_checkFromToIndex_8c36e 0 = .ok (.iload_n 0, 1) := by decide +kernel
theorem dJ3_checkFromToIndex_8c36e_1 : decode cJ3_checkFromToIndex_8c36e 1 = .ok (.ifCond .lt 13, 3) := by decide +kernel
theorem dJ3_checkFromToIndex_8c36e_4 : decode cJ3_checkFromToIndex_8c36e 4 = .ok (.iload_n 0, 1) := by decide +kernel
theorem dJ3_checkFromToIndex_8c36e_5 : decode cJ3_checkFromToIndex_8c36e 5 = .ok (.iload_n 1, 1) := by decide +kernel
theorem dJ3_checkFromToIndex_8c36e_6 : decode cJ3_checkFromToIndex_8c36e 6 = .ok (.if_icmp .gt 8, 3) := by decide +kernel
theorem dJ3_checkFromToIndex_8c36e_9 : decode cJ3_checkFromToIndex_8c36e 9 = .ok (.iload_n 1, 1) := by decide +kernel
theorem dJ3_checkFromToIndex_8c36e_10 : decode cJ3_checkFromToIndex_8c36e 10 = .ok (.iload_n 2, 1) := by decide +kernel
theorem dJ3_checkFromToIndex_8c36e_11 : decode cJ3_checkFromToIndex_8c36e 11 = .ok (.if_icmp .le 11, 3) := by decide +kernel
theorem dJ3_checkFromToIndex_8c36e_14 : decode cJ3_checkFromToIndex_8c36e 14 = .ok (.aload_n 3, 1) := by decide +kernel
theorem dJ3_checkFromToIndex_8c36e_15 : decode cJ3_checkFromToIndex_8c36e 15 = .ok (.iload_n 0, 1) := by decide +kernel
theorem dJ3_checkFromToIndex_8c36e_16 : decode cJ3_checkFromToIndex_8c36e 16 = .ok (.iload_n 1, 1) := by decide +kernel
theorem dJ3_checkFromToIndex_8c36e_17 : decode cJ3_checkFromToIndex_8c36e 17 = .ok (.iload_n 2, 1) := by decide +kernel
theorem dJ3_checkFromToIndex_8c36e_18 : decode cJ3_checkFromToIndex_8c36e 18 = .ok (.invokestatic 99, 3) := by decide +kernel
theorem dJ3_checkFromToIndex_8c36e_21 : decode cJ3_checkFromToIndex_8c36e 21 = .ok (.athrow, 1) := by decide +kernel
theorem dJ3_checkFromToIndex_8c36e_22 : decode cJ3_checkFromToIndex_8c36e 22 = .ok (.iload_n 0, 1) := by decide +kernel
theorem dJ3_checkFromToIndex_8c36e_23 : decode cJ3_checkFromToIndex_8c36e 23 = .ok (.ireturn, 1) := by decide +kernel
theorem dL_feed_0 : decode cL_feed 0 = .ok (.aload 6, 2) := by decide +kernel
theorem dL_feed_2 : decode cL_feed 2 = .ok (.iconst 0, 1) := by decide +kernel
theorem dL_feed_3 : decode cL_feed 3 = .ok (.aload_n 0, 1) := by decide +kernel
theorem dL_feed_4 : decode cL_feed 4 = .ok (.iload_n 1, 1) := by decide +kernel
theorem dL_feed_5 : decode cL_feed 5 = .ok (.iload_n 2, 1) := by decide +kernel
theorem dL_feed_6 : decode cL_feed 6 = .ok (.iload_n 3, 1) := by decide +kernel
theorem dL_feed_7 : decode cL_feed 7 = .ok (.iload 4, 2) := by decide +kernel
theorem dL_feed_9 : decode cL_feed 9 = .ok (.iload 5, 2) := by decide +kernel
theorem dL_feed_11 : decode cL_feed 11 = .ok (.invokevirtual 7, 3) := by decide +kernel
theorem dL_feed_14 : decode cL_feed 14 = .ok (.i2l, 1) := by decide +kernel
theorem dL_feed_15 : decode cL_feed 15 = .ok (.lastore, 1) := by decide +kernel
theorem dL_feed_16 : decode cL_feed 16 = .ok (.goto 7, 3) := by decide +kernel
theorem dL_feed_19 : decode cL_feed 19 = .ok (.astore 7, 2) := by decide +kernel
theorem dL_feed_21 : decode cL_feed 21 = .ok (.iconst 1, 1) := by decide +kernel
theorem dL_feed_22 : decode cL_feed 22 = .ok (.ireturn, 1) := by decide +kernel
theorem dL_feed_23 : decode cL_feed 23 = .ok (.iconst 0, 1) := by decide +kernel
theorem dL_feed_24 : decode cL_feed 24 = .ok (.ireturn, 1) := by decide +kernel
theorem dL_trim_0 : decode cL_trim 0 = .ok (.aload_n 2, 1) := by decide +kernel
theorem dL_trim_1 : decode cL_trim 1 = .ok (.iconst 0, 1) := by decide +kernel
theorem dL_trim_2 : decode cL_trim 2 = .ok (.aload_n 0, 1) := by decide +kernel
theorem dL_trim_3 : decode cL_trim 3 = .ok (.iload_n 1, 1) := by decide +kernel
theorem dL_trim_4 : decode cL_trim 4 = .ok (.invokevirtual 15, 3) := by decide +kernel
theorem dL_trim_7 : decode cL_trim 7 = .ok (.i2l, 1) := by decide +kernel
theorem dL_trim_8 : decode cL_trim 8 = .ok (.lastore, 1) := by decide +kernel
theorem dL_trim_9 : decode cL_trim 9 = .ok (.goto 6, 3) := by decide +kernel
theorem dL_trim_12 : decode cL_trim 12 = .ok (.astore_n 3, 1) := by decide +kernel
theorem dL_trim_13 : decode cL_trim 13 = .ok (.iconst 1, 1) := by decide +kernel
theorem dL_trim_14 : decode cL_trim 14 = .ok (.ireturn, 1) := by decide +kernel
theorem dL_trim_15 : decode cL_trim 15 = .ok (.iconst 0, 1) := by decide +kernel
theorem dL_trim_16 : decode cL_trim 16 = .ok (.ireturn, 1) := by decide +kernel
theorem dL_count_0 : decode cL_count 0 = .ok (.aload_n 2, 1) := by decide +kernel
theorem dL_count_1 : decode cL_count 1 = .ok (.iconst 0, 1) := by decide +kernel
theorem dL_count_2 : decode cL_count 2 = .ok (.aload_n 0, 1) := by decide +kernel
theorem dL_count_3 : decode cL_count 3 = .ok (.iload_n 1, 1) := by decide +kernel
theorem dL_count_4 : decode cL_count 4 = .ok (.invokevirtual 21, 3) := by decide +kernel
theorem dL_count_7 : decode cL_count 7 = .ok (.i2l, 1) := by decide +kernel
theorem dL_count_8 : decode cL_count 8 = .ok (.lastore, 1) := by decide +kernel
theorem dL_count_9 : decode cL_count 9 = .ok (.goto 6, 3) := by decide +kernel
theorem dL_count_12 : decode cL_count 12 = .ok (.astore_n 3, 1) := by decide +kernel
theorem dL_count_13 : decode cL_count 13 = .ok (.iconst 1, 1) := by decide +kernel
theorem dL_count_14 : decode cL_count 14 = .ok (.ireturn, 1) := by decide +kernel
theorem dL_count_15 : decode cL_count 15 = .ok (.iconst 0, 1) := by decide +kernel
theorem dL_count_16 : decode cL_count 16 = .ok (.ireturn, 1) := by decide +kernel
theorem dL_stream_0 : decode cL_stream 0 = .ok (.aload_n 3, 1) := by decide +kernel
theorem dL_stream_1 : decode cL_stream 1 = .ok (.iconst 0, 1) := by decide +kernel
theorem dL_stream_2 : decode cL_stream 2 = .ok (.aload_n 0, 1) := by decide +kernel
theorem dL_stream_3 : decode cL_stream 3 = .ok (.iload_n 1, 1) := by decide +kernel
theorem dL_stream_4 : decode cL_stream 4 = .ok (.iload_n 2, 1) := by decide +kernel
theorem dL_stream_5 : decode cL_stream 5 = .ok (.invokevirtual 26, 3) := by decide +kernel
theorem dL_stream_8 : decode cL_stream 8 = .ok (.i2l, 1) := by decide +kernel
theorem dL_stream_9 : decode cL_stream 9 = .ok (.lastore, 1) := by decide +kernel
theorem dL_stream_10 : decode cL_stream 10 = .ok (.goto 7, 3) := by decide +kernel
theorem dL_stream_13 : decode cL_stream 13 = .ok (.astore 4, 2) := by decide +kernel
theorem dL_stream_15 : decode cL_stream 15 = .ok (.iconst 1, 1) := by decide +kernel
theorem dL_stream_16 : decode cL_stream 16 = .ok (.ireturn, 1) := by decide +kernel
theorem dL_stream_17 : decode cL_stream 17 = .ok (.iconst 0, 1) := by decide +kernel
theorem dL_stream_18 : decode cL_stream 18 = .ok (.ireturn, 1) := by decide +kernel
theorem dL_value_0 : decode cL_value 0 = .ok (.aload_n 3, 1) := by decide +kernel
theorem dL_value_1 : decode cL_value 1 = .ok (.iconst 0, 1) := by decide +kernel
theorem dL_value_2 : decode cL_value 2 = .ok (.aload_n 0, 1) := by decide +kernel
theorem dL_value_3 : decode cL_value 3 = .ok (.lload_n 1, 1) := by decide +kernel
theorem dL_value_4 : decode cL_value 4 = .ok (.invokevirtual 30, 3) := by decide +kernel
theorem dL_value_7 : decode cL_value 7 = .ok (.i2l, 1) := by decide +kernel
theorem dL_value_8 : decode cL_value 8 = .ok (.lastore, 1) := by decide +kernel
theorem dL_value_9 : decode cL_value 9 = .ok (.goto 7, 3) := by decide +kernel
theorem dL_value_12 : decode cL_value 12 = .ok (.astore 4, 2) := by decide +kernel
theorem dL_value_14 : decode cL_value 14 = .ok (.iconst 1, 1) := by decide +kernel
theorem dL_value_15 : decode cL_value 15 = .ok (.ireturn, 1) := by decide +kernel
theorem dL_value_16 : decode cL_value 16 = .ok (.iconst 0, 1) := by decide +kernel
theorem dL_value_17 : decode cL_value 17 = .ok (.ireturn, 1) := by decide +kernel
theorem dL_push_0 : decode cL_push 0 = .ok (.aload_n 3, 1) := by decide +kernel
theorem dL_push_1 : decode cL_push 1 = .ok (.iconst 0, 1) := by decide +kernel
theorem dL_push_2 : decode cL_push 2 = .ok (.aload_n 0, 1) := by decide +kernel
theorem dL_push_3 : decode cL_push 3 = .ok (.iload_n 1, 1) := by decide +kernel
theorem dL_push_4 : decode cL_push 4 = .ok (.iload_n 2, 1) := by decide +kernel
theorem dL_push_5 : decode cL_push 5 = .ok (.invokevirtual 34, 3) := by decide +kernel
theorem dL_push_8 : decode cL_push 8 = .ok (.i2l, 1) := by decide +kernel
theorem dL_push_9 : decode cL_push 9 = .ok (.lastore, 1) := by decide +kernel
theorem dL_push_10 : decode cL_push 10 = .ok (.goto 15, 3) := by decide +kernel
theorem dL_push_13 : decode cL_push 13 = .ok (.astore 4, 2) := by decide +kernel
theorem dL_push_15 : decode cL_push 15 = .ok (.iconst 1, 1) := by decide +kernel
theorem dL_push_16 : decode cL_push 16 = .ok (.ireturn, 1) := by decide +kernel
theorem dL_push_17 : decode cL_push 17 = .ok (.astore 4, 2) := by decide +kernel
theorem dL_push_19 : decode cL_push 19 = .ok (.iconst 2, 1) := by decide +kernel
theorem dL_push_20 : decode cL_push 20 = .ok (.ireturn, 1) := by decide +kernel
theorem dL_push_21 : decode cL_push 21 = .ok (.astore 4, 2) := by decide +kernel
theorem dL_push_23 : decode cL_push 23 = .ok (.iconst 3, 1) := by decide +kernel
theorem dL_push_24 : decode cL_push 24 = .ok (.ireturn, 1) := by decide +kernel
theorem dL_push_25 : decode cL_push 25 = .ok (.iconst 0, 1) := by decide +kernel
theorem dL_push_26 : decode cL_push 26 = .ok (.ireturn, 1) := by decide +kernel
theorem dL_rows_0 : decode cL_rows 0 = .ok (.aload_n 2, 1) := by decide +kernel
theorem dL_rows_1 : decode cL_rows 1 = .ok (.iconst 0, 1) := by decide +kernel
theorem dL_rows_2 : decode cL_rows 2 = .ok (.aload_n 0, 1) := by decide +kernel
theorem dL_rows_3 : decode cL_rows 3 = .ok (.iload_n 1, 1) := by decide +kernel
theorem dL_rows_4 : decode cL_rows 4 = .ok (.invokevirtual 37, 3) := by decide +kernel
theorem dL_rows_7 : decode cL_rows 7 = .ok (.i2l, 1) := by decide +kernel
theorem dL_rows_8 : decode cL_rows 8 = .ok (.lastore, 1) := by decide +kernel
theorem dL_rows_9 : decode cL_rows 9 = .ok (.goto 6, 3) := by decide +kernel
theorem dL_rows_12 : decode cL_rows 12 = .ok (.astore_n 3, 1) := by decide +kernel
theorem dL_rows_13 : decode cL_rows 13 = .ok (.iconst 1, 1) := by decide +kernel
theorem dL_rows_14 : decode cL_rows 14 = .ok (.ireturn, 1) := by decide +kernel
theorem dL_rows_15 : decode cL_rows 15 = .ok (.iconst 0, 1) := by decide +kernel
theorem dL_rows_16 : decode cL_rows 16 = .ok (.ireturn, 1) := by decide +kernel
theorem dL_cell_0 : decode cL_cell 0 = .ok (.aload 4, 2) := by decide +kernel
theorem dL_cell_2 : decode cL_cell 2 = .ok (.iconst 0, 1) := by decide +kernel
theorem dL_cell_3 : decode cL_cell 3 = .ok (.aload_n 0, 1) := by decide +kernel
theorem dL_cell_4 : decode cL_cell 4 = .ok (.iload_n 1, 1) := by decide +kernel
theorem dL_cell_5 : decode cL_cell 5 = .ok (.iload_n 2, 1) := by decide +kernel
theorem dL_cell_6 : decode cL_cell 6 = .ok (.iload_n 3, 1) := by decide +kernel
theorem dL_cell_7 : decode cL_cell 7 = .ok (.invokevirtual 40, 3) := by decide +kernel
theorem dL_cell_10 : decode cL_cell 10 = .ok (.lastore, 1) := by decide +kernel
theorem dL_cell_11 : decode cL_cell 11 = .ok (.goto 7, 3) := by decide +kernel
theorem dL_cell_14 : decode cL_cell 14 = .ok (.astore 5, 2) := by decide +kernel
theorem dL_cell_16 : decode cL_cell 16 = .ok (.iconst 1, 1) := by decide +kernel
theorem dL_cell_17 : decode cL_cell 17 = .ok (.ireturn, 1) := by decide +kernel
theorem dL_cell_18 : decode cL_cell 18 = .ok (.iconst 0, 1) := by decide +kernel
theorem dL_cell_19 : decode cL_cell 19 = .ok (.ireturn, 1) := by decide +kernel
theorem dL_watermark_0 : decode cL_watermark 0 = .ok (.aload_n 2, 1) := by decide +kernel
theorem dL_watermark_1 : decode cL_watermark 1 = .ok (.iconst 0, 1) := by decide +kernel
theorem dL_watermark_2 : decode cL_watermark 2 = .ok (.aload_n 0, 1) := by decide +kernel
theorem dL_watermark_3 : decode cL_watermark 3 = .ok (.iload_n 1, 1) := by decide +kernel
theorem dL_watermark_4 : decode cL_watermark 4 = .ok (.invokevirtual 44, 3) := by decide +kernel
theorem dL_watermark_7 : decode cL_watermark 7 = .ok (.i2l, 1) := by decide +kernel
theorem dL_watermark_8 : decode cL_watermark 8 = .ok (.lastore, 1) := by decide +kernel
theorem dL_watermark_9 : decode cL_watermark 9 = .ok (.goto 6, 3) := by decide +kernel
theorem dL_watermark_12 : decode cL_watermark 12 = .ok (.astore_n 3, 1) := by decide +kernel
theorem dL_watermark_13 : decode cL_watermark 13 = .ok (.iconst 1, 1) := by decide +kernel
theorem dL_watermark_14 : decode cL_watermark 14 = .ok (.ireturn, 1) := by decide +kernel
theorem dL_watermark_15 : decode cL_watermark 15 = .ok (.iconst 0, 1) := by decide +kernel
theorem dL_watermark_16 : decode cL_watermark 16 = .ok (.ireturn, 1) := by decide +kernel
theorem dL_windows_0 : decode cL_windows 0 = .ok (.aload_n 3, 1) := by decide +kernel
theorem dL_windows_1 : decode cL_windows 1 = .ok (.iconst 0, 1) := by decide +kernel
theorem dL_windows_2 : decode cL_windows 2 = .ok (.aload_n 0, 1) := by decide +kernel
theorem dL_windows_3 : decode cL_windows 3 = .ok (.iload_n 1, 1) := by decide +kernel
theorem dL_windows_4 : decode cL_windows 4 = .ok (.iload_n 2, 1) := by decide +kernel
theorem dL_windows_5 : decode cL_windows 5 = .ok (.invokevirtual 47, 3) := by decide +kernel
theorem dL_windows_8 : decode cL_windows 8 = .ok (.i2l, 1) := by decide +kernel
theorem dL_windows_9 : decode cL_windows 9 = .ok (.lastore, 1) := by decide +kernel
theorem dL_windows_10 : decode cL_windows 10 = .ok (.goto 7, 3) := by decide +kernel
theorem dL_windows_13 : decode cL_windows 13 = .ok (.astore 4, 2) := by decide +kernel
theorem dL_windows_15 : decode cL_windows 15 = .ok (.iconst 1, 1) := by decide +kernel
theorem dL_windows_16 : decode cL_windows 16 = .ok (.ireturn, 1) := by decide +kernel
theorem dL_windows_17 : decode cL_windows 17 = .ok (.iconst 0, 1) := by decide +kernel
theorem dL_windows_18 : decode cL_windows 18 = .ok (.ireturn, 1) := by decide +kernel
theorem dL_held_0 : decode cL_held 0 = .ok (.aload_n 3, 1) := by decide +kernel
theorem dL_held_1 : decode cL_held 1 = .ok (.iconst 0, 1) := by decide +kernel
theorem dL_held_2 : decode cL_held 2 = .ok (.aload_n 0, 1) := by decide +kernel
theorem dL_held_3 : decode cL_held 3 = .ok (.iload_n 1, 1) := by decide +kernel
theorem dL_held_4 : decode cL_held 4 = .ok (.iload_n 2, 1) := by decide +kernel
theorem dL_held_5 : decode cL_held 5 = .ok (.invokevirtual 51, 3) := by decide +kernel
theorem dL_held_8 : decode cL_held 8 = .ok (.i2l, 1) := by decide +kernel
theorem dL_held_9 : decode cL_held 9 = .ok (.lastore, 1) := by decide +kernel
theorem dL_held_10 : decode cL_held 10 = .ok (.goto 7, 3) := by decide +kernel
theorem dL_held_13 : decode cL_held 13 = .ok (.astore 4, 2) := by decide +kernel
theorem dL_held_15 : decode cL_held 15 = .ok (.iconst 1, 1) := by decide +kernel
theorem dL_held_16 : decode cL_held 16 = .ok (.ireturn, 1) := by decide +kernel
theorem dL_held_17 : decode cL_held 17 = .ok (.iconst 0, 1) := by decide +kernel
theorem dL_held_18 : decode cL_held 18 = .ok (.ireturn, 1) := by decide +kernel
theorem dL_heldValue_0 : decode cL_heldValue 0 = .ok (.aload_n 3, 1) := by decide +kernel
theorem dL_heldValue_1 : decode cL_heldValue 1 = .ok (.iconst 0, 1) := by decide +kernel
theorem dL_heldValue_2 : decode cL_heldValue 2 = .ok (.aload_n 0, 1) := by decide +kernel
theorem dL_heldValue_3 : decode cL_heldValue 3 = .ok (.iload_n 1, 1) := by decide +kernel
theorem dL_heldValue_4 : decode cL_heldValue 4 = .ok (.iload_n 2, 1) := by decide +kernel
theorem dL_heldValue_5 : decode cL_heldValue 5 = .ok (.invokevirtual 54, 3) := by decide +kernel
theorem dL_heldValue_8 : decode cL_heldValue 8 = .ok (.lastore, 1) := by decide +kernel
theorem dL_heldValue_9 : decode cL_heldValue 9 = .ok (.goto 7, 3) := by decide +kernel
theorem dL_heldValue_12 : decode cL_heldValue 12 = .ok (.astore 4, 2) := by decide +kernel
theorem dL_heldValue_14 : decode cL_heldValue 14 = .ok (.iconst 1, 1) := by decide +kernel
theorem dL_heldValue_15 : decode cL_heldValue 15 = .ok (.ireturn, 1) := by decide +kernel
theorem dL_heldValue_16 : decode cL_heldValue 16 = .ok (.iconst 0, 1) := by decide +kernel
theorem dL_heldValue_17 : decode cL_heldValue 17 = .ok (.ireturn, 1) := by decide +kernel
theorem dL_release_0 : decode cL_release 0 = .ok (.aload_n 2, 1) := by decide +kernel
theorem dL_release_1 : decode cL_release 1 = .ok (.iconst 0, 1) := by decide +kernel
theorem dL_release_2 : decode cL_release 2 = .ok (.aload_n 0, 1) := by decide +kernel
theorem dL_release_3 : decode cL_release 3 = .ok (.iload_n 1, 1) := by decide +kernel
theorem dL_release_4 : decode cL_release 4 = .ok (.invokevirtual 58, 3) := by decide +kernel
theorem dL_release_7 : decode cL_release 7 = .ok (.i2l, 1) := by decide +kernel
theorem dL_release_8 : decode cL_release 8 = .ok (.lastore, 1) := by decide +kernel
theorem dL_release_9 : decode cL_release 9 = .ok (.goto 9, 3) := by decide +kernel
theorem dL_release_12 : decode cL_release 12 = .ok (.astore_n 3, 1) := by decide +kernel
theorem dL_release_13 : decode cL_release 13 = .ok (.iconst 1, 1) := by decide +kernel
theorem dL_release_14 : decode cL_release 14 = .ok (.ireturn, 1) := by decide +kernel
theorem dL_release_15 : decode cL_release 15 = .ok (.astore_n 3, 1) := by decide +kernel
theorem dL_release_16 : decode cL_release 16 = .ok (.iconst 2, 1) := by decide +kernel
theorem dL_release_17 : decode cL_release 17 = .ok (.ireturn, 1) := by decide +kernel
theorem dL_release_18 : decode cL_release 18 = .ok (.iconst 0, 1) := by decide +kernel
theorem dL_release_19 : decode cL_release 19 = .ok (.ireturn, 1) := by decide +kernel
theorem dL_discard_0 : decode cL_discard 0 = .ok (.aload_n 2, 1) := by decide +kernel
theorem dL_discard_1 : decode cL_discard 1 = .ok (.iconst 0, 1) := by decide +kernel
theorem dL_discard_2 : decode cL_discard 2 = .ok (.aload_n 0, 1) := by decide +kernel
theorem dL_discard_3 : decode cL_discard 3 = .ok (.iload_n 1, 1) := by decide +kernel
theorem dL_discard_4 : decode cL_discard 4 = .ok (.invokevirtual 61, 3) := by decide +kernel
theorem dL_discard_7 : decode cL_discard 7 = .ok (.i2l, 1) := by decide +kernel
theorem dL_discard_8 : decode cL_discard 8 = .ok (.lastore, 1) := by decide +kernel
theorem dL_discard_9 : decode cL_discard 9 = .ok (.goto 9, 3) := by decide +kernel
theorem dL_discard_12 : decode cL_discard 12 = .ok (.astore_n 3, 1) := by decide +kernel
theorem dL_discard_13 : decode cL_discard 13 = .ok (.iconst 1, 1) := by decide +kernel
theorem dL_discard_14 : decode cL_discard 14 = .ok (.ireturn, 1) := by decide +kernel
theorem dL_discard_15 : decode cL_discard 15 = .ok (.astore_n 3, 1) := by decide +kernel
theorem dL_discard_16 : decode cL_discard 16 = .ok (.iconst 2, 1) := by decide +kernel
theorem dL_discard_17 : decode cL_discard 17 = .ok (.ireturn, 1) := by decide +kernel
theorem dL_discard_18 : decode cL_discard 18 = .ok (.iconst 0, 1) := by decide +kernel
theorem dL_discard_19 : decode cL_discard 19 = .ok (.ireturn, 1) := by decide +kernel
theorem dL_broken_0 : decode cL_broken 0 = .ok (.aload_n 2, 1) := by decide +kernel
theorem dL_broken_1 : decode cL_broken 1 = .ok (.iconst 0, 1) := by decide +kernel
theorem dL_broken_2 : decode cL_broken 2 = .ok (.aload_n 0, 1) := by decide +kernel
theorem dL_broken_3 : decode cL_broken 3 = .ok (.iload_n 1, 1) := by decide +kernel
theorem dL_broken_4 : decode cL_broken 4 = .ok (.invokevirtual 64, 3) := by decide +kernel
theorem dL_broken_7 : decode cL_broken 7 = .ok (.i2l, 1) := by decide +kernel
theorem dL_broken_8 : decode cL_broken 8 = .ok (.lastore, 1) := by decide +kernel
theorem dL_broken_9 : decode cL_broken 9 = .ok (.goto 6, 3) := by decide +kernel
theorem dL_broken_12 : decode cL_broken 12 = .ok (.astore_n 3, 1) := by decide +kernel
theorem dL_broken_13 : decode cL_broken 13 = .ok (.iconst 1, 1) := by decide +kernel
theorem dL_broken_14 : decode cL_broken 14 = .ok (.ireturn, 1) := by decide +kernel
theorem dL_broken_15 : decode cL_broken 15 = .ok (.iconst 0, 1) := by decide +kernel
theorem dL_broken_16 : decode cL_broken 16 = .ok (.ireturn, 1) := by decide +kernel
theorem dL_go_0 : decode cL_go 0 = .ok (.aload_n 1, 1) := by decide +kernel
theorem dL_go_1 : decode cL_go 1 = .ok (.iconst 0, 1) := by decide +kernel
theorem dL_go_2 : decode cL_go 2 = .ok (.aload_n 0, 1) := by decide +kernel
theorem dL_go_3 : decode cL_go 3 = .ok (.invokevirtual 67, 3) := by decide +kernel
theorem dL_go_6 : decode cL_go 6 = .ok (.i2l, 1) := by decide +kernel
theorem dL_go_7 : decode cL_go 7 = .ok (.lastore, 1) := by decide +kernel
theorem dL_go_8 : decode cL_go 8 = .ok (.goto 6, 3) := by decide +kernel
theorem dL_go_11 : decode cL_go 11 = .ok (.astore_n 2, 1) := by decide +kernel
theorem dL_go_12 : decode cL_go 12 = .ok (.iconst 1, 1) := by decide +kernel
theorem dL_go_13 : decode cL_go 13 = .ok (.ireturn, 1) := by decide +kernel
theorem dL_go_14 : decode cL_go 14 = .ok (.iconst 0, 1) := by decide +kernel
theorem dL_go_15 : decode cL_go 15 = .ok (.ireturn, 1) := by decide +kernel
theorem dL_mark_0 : decode cL_mark 0 = .ok (.aload_n 1, 1) := by decide +kernel
theorem dL_mark_1 : decode cL_mark 1 = .ok (.iconst 0, 1) := by decide +kernel
theorem dL_mark_2 : decode cL_mark 2 = .ok (.aload_n 0, 1) := by decide +kernel
theorem dL_mark_3 : decode cL_mark 3 = .ok (.invokevirtual 71, 3) := by decide +kernel
theorem dL_mark_6 : decode cL_mark 6 = .ok (.i2l, 1) := by decide +kernel
theorem dL_mark_7 : decode cL_mark 7 = .ok (.lastore, 1) := by decide +kernel
theorem dL_mark_8 : decode cL_mark 8 = .ok (.goto 6, 3) := by decide +kernel
theorem dL_mark_11 : decode cL_mark 11 = .ok (.astore_n 2, 1) := by decide +kernel
theorem dL_mark_12 : decode cL_mark 12 = .ok (.iconst 1, 1) := by decide +kernel
theorem dL_mark_13 : decode cL_mark 13 = .ok (.ireturn, 1) := by decide +kernel
theorem dL_mark_14 : decode cL_mark 14 = .ok (.iconst 0, 1) := by decide +kernel
theorem dL_mark_15 : decode cL_mark 15 = .ok (.ireturn, 1) := by decide +kernel
theorem dL_back_0 : decode cL_back 0 = .ok (.aload_n 2, 1) := by decide +kernel
theorem dL_back_1 : decode cL_back 1 = .ok (.iconst 0, 1) := by decide +kernel
theorem dL_back_2 : decode cL_back 2 = .ok (.aload_n 0, 1) := by decide +kernel
theorem dL_back_3 : decode cL_back 3 = .ok (.iload_n 1, 1) := by decide +kernel
theorem dL_back_4 : decode cL_back 4 = .ok (.invokevirtual 74, 3) := by decide +kernel
theorem dL_back_7 : decode cL_back 7 = .ok (.i2l, 1) := by decide +kernel
theorem dL_back_8 : decode cL_back 8 = .ok (.lastore, 1) := by decide +kernel
theorem dL_back_9 : decode cL_back 9 = .ok (.goto 6, 3) := by decide +kernel
theorem dL_back_12 : decode cL_back 12 = .ok (.astore_n 3, 1) := by decide +kernel
theorem dL_back_13 : decode cL_back 13 = .ok (.iconst 1, 1) := by decide +kernel
theorem dL_back_14 : decode cL_back 14 = .ok (.ireturn, 1) := by decide +kernel
theorem dL_back_15 : decode cL_back 15 = .ok (.iconst 0, 1) := by decide +kernel
theorem dL_back_16 : decode cL_back 16 = .ok (.ireturn, 1) := by decide +kernel
theorem dL_replay_0 : decode cL_replay 0 = .ok (.aload_n 1, 1) := by decide +kernel
theorem dL_replay_1 : decode cL_replay 1 = .ok (.iconst 0, 1) := by decide +kernel
theorem dL_replay_2 : decode cL_replay 2 = .ok (.aload_n 0, 1) := by decide +kernel
theorem dL_replay_3 : decode cL_replay 3 = .ok (.invokevirtual 77, 3) := by decide +kernel
theorem dL_replay_6 : decode cL_replay 6 = .ok (.i2l, 1) := by decide +kernel
theorem dL_replay_7 : decode cL_replay 7 = .ok (.lastore, 1) := by decide +kernel
theorem dL_replay_8 : decode cL_replay 8 = .ok (.goto 6, 3) := by decide +kernel
theorem dL_replay_11 : decode cL_replay 11 = .ok (.astore_n 2, 1) := by decide +kernel
theorem dL_replay_12 : decode cL_replay 12 = .ok (.iconst 1, 1) := by decide +kernel
theorem dL_replay_13 : decode cL_replay 13 = .ok (.ireturn, 1) := by decide +kernel
theorem dL_replay_14 : decode cL_replay 14 = .ok (.iconst 0, 1) := by decide +kernel
theorem dL_replay_15 : decode cL_replay 15 = .ok (.ireturn, 1) := by decide +kernel
theorem dL_changed_0 : decode cL_changed 0 = .ok (.aload_n 2, 1) := by decide +kernel
theorem dL_changed_1 : decode cL_changed 1 = .ok (.iconst 0, 1) := by decide +kernel
theorem dL_changed_2 : decode cL_changed 2 = .ok (.aload_n 0, 1) := by decide +kernel
theorem dL_changed_3 : decode cL_changed 3 = .ok (.iload_n 1, 1) := by decide +kernel
theorem dL_changed_4 : decode cL_changed 4 = .ok (.invokevirtual 80, 3) := by decide +kernel
theorem dL_changed_7 : decode cL_changed 7 = .ok (.i2l, 1) := by decide +kernel
theorem dL_changed_8 : decode cL_changed 8 = .ok (.lastore, 1) := by decide +kernel
theorem dL_changed_9 : decode cL_changed 9 = .ok (.goto 6, 3) := by decide +kernel
theorem dL_changed_12 : decode cL_changed 12 = .ok (.astore_n 3, 1) := by decide +kernel
theorem dL_changed_13 : decode cL_changed 13 = .ok (.iconst 1, 1) := by decide +kernel
theorem dL_changed_14 : decode cL_changed 14 = .ok (.ireturn, 1) := by decide +kernel
theorem dL_changed_15 : decode cL_changed 15 = .ok (.iconst 0, 1) := by decide +kernel
theorem dL_changed_16 : decode cL_changed 16 = .ok (.ireturn, 1) := by decide +kernel
theorem dL_law_0 : decode cL_law 0 = .ok (.new 8, 3) := by decide +kernel
theorem dL_law_3 : decode cL_law 3 = .ok (.dup, 1) := by decide +kernel
theorem dL_law_4 : decode cL_law 4 = .ok (.invokespecial 83, 3) := by decide +kernel
theorem dL_law_7 : decode cL_law 7 = .ok (.astore_n 1, 1) := by decide +kernel
theorem dL_law_8 : decode cL_law 8 = .ok (.new 84, 3) := by decide +kernel
theorem dL_law_11 : decode cL_law 11 = .ok (.dup, 1) := by decide +kernel
theorem dL_law_12 : decode cL_law 12 = .ok (.invokespecial 86, 3) := by decide +kernel
theorem dL_law_15 : decode cL_law 15 = .ok (.astore_n 2, 1) := by decide +kernel
theorem dL_law_16 : decode cL_law 16 = .ok (.iconst 1, 1) := by decide +kernel
theorem dL_law_17 : decode cL_law 17 = .ok (.newarray .long, 2) := by decide +kernel
theorem dL_law_19 : decode cL_law 19 = .ok (.astore_n 3, 1) := by decide +kernel
theorem dL_law_20 : decode cL_law 20 = .ok (.iconst 0, 1) := by decide +kernel
theorem dL_law_21 : decode cL_law 21 = .ok (.istore 4, 2) := by decide +kernel
theorem dL_law_23 : decode cL_law 23 = .ok (.iload 4, 2) := by decide +kernel
theorem dL_law_25 : decode cL_law 25 = .ok (.aload_n 0, 1) := by decide +kernel
theorem dL_law_26 : decode cL_law 26 = .ok (.arraylength, 1) := by decide +kernel
theorem dL_law_27 : decode cL_law 27 = .ok (.bipush 6, 2) := by decide +kernel
theorem dL_law_29 : decode cL_law 29 = .ok (.isub, 1) := by decide +kernel
theorem dL_law_30 : decode cL_law 30 = .ok (.if_icmp .gt 1539, 3) := by decide +kernel
theorem dL_law_33 : decode cL_law 33 = .ok (.aload_n 0, 1) := by decide +kernel
theorem dL_law_34 : decode cL_law 34 = .ok (.iload 4, 2) := by decide +kernel
theorem dL_law_36 : decode cL_law 36 = .ok (.iaload, 1) := by decide +kernel
theorem dL_law_37 : decode cL_law 37 = .ok (.bipush 31, 2) := by decide +kernel
theorem dL_law_39 : decode cL_law 39 = .ok (.iand, 1) := by decide +kernel
theorem dL_law_40 : decode cL_law 40 = .ok (.tableswitch 1523 0 27 #[128, 232, 288, 301, 314, 327, 383, 451, 539, 552, 620, 676, 755, 811, 895, 963, 1030, 1086, 1142, 1198, 1211, 1224, 1268, 1312, 1368, 1412, 1468, 1509], 128) := by decide +kernel
theorem dL_law_168 : decode cL_law 168 = .ok (.aload_n 1, 1) := by decide +kernel
theorem dL_law_169 : decode cL_law 169 = .ok (.aload_n 0, 1) := by decide +kernel
theorem dL_law_170 : decode cL_law 170 = .ok (.iload 4, 2) := by decide +kernel
theorem dL_law_172 : decode cL_law 172 = .ok (.iconst 1, 1) := by decide +kernel
theorem dL_law_173 : decode cL_law 173 = .ok (.iadd, 1) := by decide +kernel
theorem dL_law_174 : decode cL_law 174 = .ok (.iaload, 1) := by decide +kernel
theorem dL_law_175 : decode cL_law 175 = .ok (.aload_n 0, 1) := by decide +kernel
theorem dL_law_176 : decode cL_law 176 = .ok (.iload 4, 2) := by decide +kernel
theorem dL_law_178 : decode cL_law 178 = .ok (.iconst 2, 1) := by decide +kernel
theorem dL_law_179 : decode cL_law 179 = .ok (.iadd, 1) := by decide +kernel
theorem dL_law_180 : decode cL_law 180 = .ok (.iaload, 1) := by decide +kernel
theorem dL_law_181 : decode cL_law 181 = .ok (.aload_n 0, 1) := by decide +kernel
theorem dL_law_182 : decode cL_law 182 = .ok (.iload 4, 2) := by decide +kernel
theorem dL_law_184 : decode cL_law 184 = .ok (.iconst 3, 1) := by decide +kernel
theorem dL_law_185 : decode cL_law 185 = .ok (.iadd, 1) := by decide +kernel
theorem dL_law_186 : decode cL_law 186 = .ok (.iaload, 1) := by decide +kernel
theorem dL_law_187 : decode cL_law 187 = .ok (.aload_n 0, 1) := by decide +kernel
theorem dL_law_188 : decode cL_law 188 = .ok (.iload 4, 2) := by decide +kernel
theorem dL_law_190 : decode cL_law 190 = .ok (.iconst 4, 1) := by decide +kernel
theorem dL_law_191 : decode cL_law 191 = .ok (.iadd, 1) := by decide +kernel
theorem dL_law_192 : decode cL_law 192 = .ok (.iaload, 1) := by decide +kernel
theorem dL_law_193 : decode cL_law 193 = .ok (.aload_n 0, 1) := by decide +kernel
theorem dL_law_194 : decode cL_law 194 = .ok (.iload 4, 2) := by decide +kernel
theorem dL_law_196 : decode cL_law 196 = .ok (.iconst 5, 1) := by decide +kernel
theorem dL_law_197 : decode cL_law 197 = .ok (.iadd, 1) := by decide +kernel
theorem dL_law_198 : decode cL_law 198 = .ok (.iaload, 1) := by decide +kernel
theorem dL_law_199 : decode cL_law 199 = .ok (.aload_n 3, 1) := by decide +kernel
theorem dL_law_200 : decode cL_law 200 = .ok (.invokestatic 87, 3) := by decide +kernel
theorem dL_law_203 : decode cL_law 203 = .ok (.istore 5, 2) := by decide +kernel
theorem dL_law_205 : decode cL_law 205 = .ok (.aload_n 2, 1) := by decide +kernel
theorem dL_law_206 : decode cL_law 206 = .ok (.aload_n 0, 1) := by decide +kernel
theorem dL_law_207 : decode cL_law 207 = .ok (.iload 4, 2) := by decide +kernel
theorem dL_law_209 : decode cL_law 209 = .ok (.iconst 1, 1) := by decide +kernel
theorem dL_law_210 : decode cL_law 210 = .ok (.iadd, 1) := by decide +kernel
theorem dL_law_211 : decode cL_law 211 = .ok (.iaload, 1) := by decide +kernel
theorem dL_law_212 : decode cL_law 212 = .ok (.aload_n 0, 1) := by decide +kernel
theorem dL_law_213 : decode cL_law 213 = .ok (.iload 4, 2) := by decide +kernel
theorem dL_law_215 : decode cL_law 215 = .ok (.iconst 2, 1) := by decide +kernel
theorem dL_law_216 : decode cL_law 216 = .ok (.iadd, 1) := by decide +kernel
theorem dL_law_217 : decode cL_law 217 = .ok (.iaload, 1) := by decide +kernel
theorem dL_law_218 : decode cL_law 218 = .ok (.aload_n 0, 1) := by decide +kernel
theorem dL_law_219 : decode cL_law 219 = .ok (.iload 4, 2) := by decide +kernel
theorem dL_law_221 : decode cL_law 221 = .ok (.iconst 3, 1) := by decide +kernel
theorem dL_law_222 : decode cL_law 222 = .ok (.iadd, 1) := by decide +kernel
theorem dL_law_223 : decode cL_law 223 = .ok (.iaload, 1) := by decide +kernel
theorem dL_law_224 : decode cL_law 224 = .ok (.aload_n 0, 1) := by decide +kernel
theorem dL_law_225 : decode cL_law 225 = .ok (.iload 4, 2) := by decide +kernel
theorem dL_law_227 : decode cL_law 227 = .ok (.iconst 4, 1) := by decide +kernel
theorem dL_law_228 : decode cL_law 228 = .ok (.iadd, 1) := by decide +kernel
theorem dL_law_229 : decode cL_law 229 = .ok (.iaload, 1) := by decide +kernel
theorem dL_law_230 : decode cL_law 230 = .ok (.aload_n 0, 1) := by decide +kernel
theorem dL_law_231 : decode cL_law 231 = .ok (.iload 4, 2) := by decide +kernel
theorem dL_law_233 : decode cL_law 233 = .ok (.iconst 5, 1) := by decide +kernel
theorem dL_law_234 : decode cL_law 234 = .ok (.iadd, 1) := by decide +kernel
theorem dL_law_235 : decode cL_law 235 = .ok (.iaload, 1) := by decide +kernel
theorem dL_law_236 : decode cL_law 236 = .ok (.invokevirtual 92, 3) := by decide +kernel
theorem dL_law_239 : decode cL_law 239 = .ok (.istore 6, 2) := by decide +kernel
theorem dL_law_241 : decode cL_law 241 = .ok (.aload_n 2, 1) := by decide +kernel
theorem dL_law_242 : decode cL_law 242 = .ok (.invokevirtual 93, 3) := by decide +kernel
theorem dL_law_245 : decode cL_law 245 = .ok (.iload 5, 2) := by decide +kernel
theorem dL_law_247 : decode cL_law 247 = .ok (.if_icmp .eq 5, 3) := by decide +kernel
theorem dL_law_250 : decode cL_law 250 = .ok (.iconst 0, 1) := by decide +kernel
theorem dL_law_251 : decode cL_law 251 = .ok (.ireturn, 1) := by decide +kernel
theorem dL_law_252 : decode cL_law 252 = .ok (.iload 5, 2) := by decide +kernel
theorem dL_law_254 : decode cL_law 254 = .ok (.ifCond .ne 15, 3) := by decide +kernel
theorem dL_law_257 : decode cL_law 257 = .ok (.aload_n 3, 1) := by decide +kernel
theorem dL_law_258 : decode cL_law 258 = .ok (.iconst 0, 1) := by decide +kernel
theorem dL_law_259 : decode cL_law 259 = .ok (.laload, 1) := by decide +kernel
theorem dL_law_260 : decode cL_law 260 = .ok (.iload 6, 2) := by decide +kernel
theorem dL_law_262 : decode cL_law 262 = .ok (.i2l, 1) := by decide +kernel
theorem dL_law_263 : decode cL_law 263 = .ok (.lcmp, 1) := by decide +kernel
theorem dL_law_264 : decode cL_law 264 = .ok (.ifCond .eq 5, 3) := by decide +kernel
theorem dL_law_267 : decode cL_law 267 = .ok (.iconst 0, 1) := by decide +kernel
theorem dL_law_268 : decode cL_law 268 = .ok (.ireturn, 1) := by decide +kernel
theorem dL_law_269 : decode cL_law 269 = .ok (.goto 1294, 3) := by decide +kernel
theorem dL_law_272 : decode cL_law 272 = .ok (.aload_n 1, 1) := by decide +kernel
theorem dL_law_273 : decode cL_law 273 = .ok (.aload_n 0, 1) := by decide +kernel
theorem dL_law_274 : decode cL_law 274 = .ok (.iload 4, 2) := by decide +kernel
theorem dL_law_276 : decode cL_law 276 = .ok (.iconst 1, 1) := by decide +kernel
theorem dL_law_277 : decode cL_law 277 = .ok (.iadd, 1) := by decide +kernel
theorem dL_law_278 : decode cL_law 278 = .ok (.iaload, 1) := by decide +kernel
theorem dL_law_279 : decode cL_law 279 = .ok (.aload_n 3, 1) := by decide +kernel
theorem dL_law_280 : decode cL_law 280 = .ok (.invokestatic 96, 3) := by decide +kernel
theorem dL_law_283 : decode cL_law 283 = .ok (.istore 5, 2) := by decide +kernel
theorem dL_law_285 : decode cL_law 285 = .ok (.aload_n 2, 1) := by decide +kernel
theorem dL_law_286 : decode cL_law 286 = .ok (.aload_n 0, 1) := by decide +kernel
theorem dL_law_287 : decode cL_law 287 = .ok (.iload 4, 2) := by decide +kernel
theorem dL_law_289 : decode cL_law 289 = .ok (.iconst 1, 1) := by decide +kernel
theorem dL_law_290 : decode cL_law 290 = .ok (.iadd, 1) := by decide +kernel
theorem dL_law_291 : decode cL_law 291 = .ok (.iaload, 1) := by decide +kernel
theorem dL_law_292 : decode cL_law 292 = .ok (.invokevirtual 99, 3) := by decide +kernel
theorem dL_law_295 : decode cL_law 295 = .ok (.istore 6, 2) := by decide +kernel
theorem dL_law_297 : decode cL_law 297 = .ok (.aload_n 2, 1) := by decide +kernel
theorem dL_law_298 : decode cL_law 298 = .ok (.invokevirtual 93, 3) := by decide +kernel
theorem dL_law_301 : decode cL_law 301 = .ok (.iload 5, 2) := by decide +kernel
theorem dL_law_303 : decode cL_law 303 = .ok (.if_icmp .eq 5, 3) := by decide +kernel
theorem dL_law_306 : decode cL_law 306 = .ok (.iconst 0, 1) := by decide +kernel
theorem dL_law_307 : decode cL_law 307 = .ok (.ireturn, 1) := by decide +kernel
theorem dL_law_308 : decode cL_law 308 = .ok (.iload 5, 2) := by decide +kernel
theorem dL_law_310 : decode cL_law 310 = .ok (.ifCond .ne 15, 3) := by decide +kernel
theorem dL_law_313 : decode cL_law 313 = .ok (.aload_n 3, 1) := by decide +kernel
theorem dL_law_314 : decode cL_law 314 = .ok (.iconst 0, 1) := by decide +kernel
theorem dL_law_315 : decode cL_law 315 = .ok (.laload, 1) := by decide +kernel
theorem dL_law_316 : decode cL_law 316 = .ok (.iload 6, 2) := by decide +kernel
theorem dL_law_318 : decode cL_law 318 = .ok (.i2l, 1) := by decide +kernel
theorem dL_law_319 : decode cL_law 319 = .ok (.lcmp, 1) := by decide +kernel
theorem dL_law_320 : decode cL_law 320 = .ok (.ifCond .eq 5, 3) := by decide +kernel
theorem dL_law_323 : decode cL_law 323 = .ok (.iconst 0, 1) := by decide +kernel
theorem dL_law_324 : decode cL_law 324 = .ok (.ireturn, 1) := by decide +kernel
theorem dL_law_325 : decode cL_law 325 = .ok (.goto 1238, 3) := by decide +kernel
theorem dL_law_328 : decode cL_law 328 = .ok (.aload_n 1, 1) := by decide +kernel
theorem dL_law_329 : decode cL_law 329 = .ok (.invokevirtual 100, 3) := by decide +kernel
theorem dL_law_332 : decode cL_law 332 = .ok (.aload_n 2, 1) := by decide +kernel
theorem dL_law_333 : decode cL_law 333 = .ok (.invokevirtual 103, 3) := by decide +kernel
theorem dL_law_336 : decode cL_law 336 = .ok (.if_icmp .eq 1227, 3) := by decide +kernel
theorem dL_law_339 : decode cL_law 339 = .ok (.iconst 0, 1) := by decide +kernel
theorem dL_law_340 : decode cL_law 340 = .ok (.ireturn, 1) := by decide +kernel
theorem dL_law_341 : decode cL_law 341 = .ok (.aload_n 1, 1) := by decide +kernel
theorem dL_law_342 : decode cL_law 342 = .ok (.invokevirtual 104, 3) := by decide +kernel
theorem dL_law_345 : decode cL_law 345 = .ok (.aload_n 2, 1) := by decide +kernel
theorem dL_law_346 : decode cL_law 346 = .ok (.invokevirtual 107, 3) := by decide +kernel
theorem dL_law_349 : decode cL_law 349 = .ok (.if_icmp .eq 1214, 3) := by decide +kernel
theorem dL_law_352 : decode cL_law 352 = .ok (.iconst 0, 1) := by decide +kernel
theorem dL_law_353 : decode cL_law 353 = .ok (.ireturn, 1) := by decide +kernel
theorem dL_law_354 : decode cL_law 354 = .ok (.aload_n 1, 1) := by decide +kernel
theorem dL_law_355 : decode cL_law 355 = .ok (.invokevirtual 108, 3) := by decide +kernel
theorem dL_law_358 : decode cL_law 358 = .ok (.aload_n 2, 1) := by decide +kernel
theorem dL_law_359 : decode cL_law 359 = .ok (.invokevirtual 111, 3) := by decide +kernel
theorem dL_law_362 : decode cL_law 362 = .ok (.if_icmp .eq 1201, 3) := by decide +kernel
theorem dL_law_365 : decode cL_law 365 = .ok (.iconst 0, 1) := by decide +kernel
theorem dL_law_366 : decode cL_law 366 = .ok (.ireturn, 1) := by decide +kernel
theorem dL_law_367 : decode cL_law 367 = .ok (.aload_n 1, 1) := by decide +kernel
theorem dL_law_368 : decode cL_law 368 = .ok (.aload_n 0, 1) := by decide +kernel
theorem dL_law_369 : decode cL_law 369 = .ok (.iload 4, 2) := by decide +kernel
theorem dL_law_371 : decode cL_law 371 = .ok (.iconst 1, 1) := by decide +kernel
theorem dL_law_372 : decode cL_law 372 = .ok (.iadd, 1) := by decide +kernel
theorem dL_law_373 : decode cL_law 373 = .ok (.iaload, 1) := by decide +kernel
theorem dL_law_374 : decode cL_law 374 = .ok (.aload_n 3, 1) := by decide +kernel
theorem dL_law_375 : decode cL_law 375 = .ok (.invokestatic 112, 3) := by decide +kernel
theorem dL_law_378 : decode cL_law 378 = .ok (.istore 5, 2) := by decide +kernel
theorem dL_law_380 : decode cL_law 380 = .ok (.aload_n 2, 1) := by decide +kernel
theorem dL_law_381 : decode cL_law 381 = .ok (.aload_n 0, 1) := by decide +kernel
theorem dL_law_382 : decode cL_law 382 = .ok (.iload 4, 2) := by decide +kernel
theorem dL_law_384 : decode cL_law 384 = .ok (.iconst 1, 1) := by decide +kernel
theorem dL_law_385 : decode cL_law 385 = .ok (.iadd, 1) := by decide +kernel
theorem dL_law_386 : decode cL_law 386 = .ok (.iaload, 1) := by decide +kernel
theorem dL_law_387 : decode cL_law 387 = .ok (.invokevirtual 114, 3) := by decide +kernel
theorem dL_law_390 : decode cL_law 390 = .ok (.istore 6, 2) := by decide +kernel
theorem dL_law_392 : decode cL_law 392 = .ok (.aload_n 2, 1) := by decide +kernel
theorem dL_law_393 : decode cL_law 393 = .ok (.invokevirtual 93, 3) := by decide +kernel
theorem dL_law_396 : decode cL_law 396 = .ok (.iload 5, 2) := by decide +kernel
theorem dL_law_398 : decode cL_law 398 = .ok (.if_icmp .eq 5, 3) := by decide +kernel
theorem dL_law_401 : decode cL_law 401 = .ok (.iconst 0, 1) := by decide +kernel
theorem dL_law_402 : decode cL_law 402 = .ok (.ireturn, 1) := by decide +kernel
theorem dL_law_403 : decode cL_law 403 = .ok (.iload 5, 2) := by decide +kernel
theorem dL_law_405 : decode cL_law 405 = .ok (.ifCond .ne 15, 3) := by decide +kernel
theorem dL_law_408 : decode cL_law 408 = .ok (.aload_n 3, 1) := by decide +kernel
theorem dL_law_409 : decode cL_law 409 = .ok (.iconst 0, 1) := by decide +kernel
theorem dL_law_410 : decode cL_law 410 = .ok (.laload, 1) := by decide +kernel
theorem dL_law_411 : decode cL_law 411 = .ok (.iload 6, 2) := by decide +kernel
theorem dL_law_413 : decode cL_law 413 = .ok (.i2l, 1) := by decide +kernel
theorem dL_law_414 : decode cL_law 414 = .ok (.lcmp, 1) := by decide +kernel
theorem dL_law_415 : decode cL_law 415 = .ok (.ifCond .eq 5, 3) := by decide +kernel
theorem dL_law_418 : decode cL_law 418 = .ok (.iconst 0, 1) := by decide +kernel
theorem dL_law_419 : decode cL_law 419 = .ok (.ireturn, 1) := by decide +kernel
theorem dL_law_420 : decode cL_law 420 = .ok (.goto 1143, 3) := by decide +kernel
theorem dL_law_423 : decode cL_law 423 = .ok (.aload_n 1, 1) := by decide +kernel
theorem dL_law_424 : decode cL_law 424 = .ok (.aload_n 0, 1) := by decide +kernel
theorem dL_law_425 : decode cL_law 425 = .ok (.iload 4, 2) := by decide +kernel
theorem dL_law_427 : decode cL_law 427 = .ok (.iconst 1, 1) := by decide +kernel
theorem dL_law_428 : decode cL_law 428 = .ok (.iadd, 1) := by decide +kernel
theorem dL_law_429 : decode cL_law 429 = .ok (.iaload, 1) := by decide +kernel
theorem dL_law_430 : decode cL_law 430 = .ok (.aload_n 0, 1) := by decide +kernel
theorem dL_law_431 : decode cL_law 431 = .ok (.iload 4, 2) := by decide +kernel
theorem dL_law_433 : decode cL_law 433 = .ok (.iconst 2, 1) := by decide +kernel
theorem dL_law_434 : decode cL_law 434 = .ok (.iadd, 1) := by decide +kernel
theorem dL_law_435 : decode cL_law 435 = .ok (.iaload, 1) := by decide +kernel
theorem dL_law_436 : decode cL_law 436 = .ok (.aload_n 3, 1) := by decide +kernel
theorem dL_law_437 : decode cL_law 437 = .ok (.invokestatic 115, 3) := by decide +kernel
theorem dL_law_440 : decode cL_law 440 = .ok (.istore 5, 2) := by decide +kernel
theorem dL_law_442 : decode cL_law 442 = .ok (.aload_n 2, 1) := by decide +kernel
theorem dL_law_443 : decode cL_law 443 = .ok (.aload_n 0, 1) := by decide +kernel
theorem dL_law_444 : decode cL_law 444 = .ok (.iload 4, 2) := by decide +kernel
theorem dL_law_446 : decode cL_law 446 = .ok (.iconst 1, 1) := by decide +kernel
theorem dL_law_447 : decode cL_law 447 = .ok (.iadd, 1) := by decide +kernel
theorem dL_law_448 : decode cL_law 448 = .ok (.iaload, 1) := by decide +kernel
theorem dL_law_449 : decode cL_law 449 = .ok (.aload_n 0, 1) := by decide +kernel
theorem dL_law_450 : decode cL_law 450 = .ok (.iload 4, 2) := by decide +kernel
theorem dL_law_452 : decode cL_law 452 = .ok (.iconst 2, 1) := by decide +kernel
theorem dL_law_453 : decode cL_law 453 = .ok (.iadd, 1) := by decide +kernel
theorem dL_law_454 : decode cL_law 454 = .ok (.iaload, 1) := by decide +kernel
theorem dL_law_455 : decode cL_law 455 = .ok (.invokevirtual 118, 3) := by decide +kernel
theorem dL_law_458 : decode cL_law 458 = .ok (.istore 6, 2) := by decide +kernel
theorem dL_law_460 : decode cL_law 460 = .ok (.aload_n 2, 1) := by decide +kernel
theorem dL_law_461 : decode cL_law 461 = .ok (.invokevirtual 93, 3) := by decide +kernel
theorem dL_law_464 : decode cL_law 464 = .ok (.iload 5, 2) := by decide +kernel
theorem dL_law_466 : decode cL_law 466 = .ok (.if_icmp .eq 5, 3) := by decide +kernel
theorem dL_law_469 : decode cL_law 469 = .ok (.iconst 0, 1) := by decide +kernel
theorem dL_law_470 : decode cL_law 470 = .ok (.ireturn, 1) := by decide +kernel
theorem dL_law_471 : decode cL_law 471 = .ok (.iload 5, 2) := by decide +kernel
theorem dL_law_473 : decode cL_law 473 = .ok (.ifCond .ne 15, 3) := by decide +kernel
theorem dL_law_476 : decode cL_law 476 = .ok (.aload_n 3, 1) := by decide +kernel
theorem dL_law_477 : decode cL_law 477 = .ok (.iconst 0, 1) := by decide +kernel
theorem dL_law_478 : decode cL_law 478 = .ok (.laload, 1) := by decide +kernel
theorem dL_law_479 : decode cL_law 479 = .ok (.iload 6, 2) := by decide +kernel
theorem dL_law_481 : decode cL_law 481 = .ok (.i2l, 1) := by decide +kernel
theorem dL_law_482 : decode cL_law 482 = .ok (.lcmp, 1) := by decide +kernel
theorem dL_law_483 : decode cL_law 483 = .ok (.ifCond .eq 5, 3) := by decide +kernel
theorem dL_law_486 : decode cL_law 486 = .ok (.iconst 0, 1) := by decide +kernel
theorem dL_law_487 : decode cL_law 487 = .ok (.ireturn, 1) := by decide +kernel
theorem dL_law_488 : decode cL_law 488 = .ok (.goto 1075, 3) := by decide +kernel
theorem dL_law_491 : decode cL_law 491 = .ok (.aload_n 1, 1) := by decide +kernel
theorem dL_law_492 : decode cL_law 492 = .ok (.aload_n 0, 1) := by decide +kernel
theorem dL_law_493 : decode cL_law 493 = .ok (.iload 4, 2) := by decide +kernel
theorem dL_law_495 : decode cL_law 495 = .ok (.iconst 1, 1) := by decide +kernel
theorem dL_law_496 : decode cL_law 496 = .ok (.iadd, 1) := by decide +kernel
theorem dL_law_497 : decode cL_law 497 = .ok (.iaload, 1) := by decide +kernel
theorem dL_law_498 : decode cL_law 498 = .ok (.i2l, 1) := by decide +kernel
theorem dL_law_499 : decode cL_law 499 = .ok (.bipush 32, 2) := by decide +kernel
theorem dL_law_501 : decode cL_law 501 = .ok (.lshl, 1) := by decide +kernel
theorem dL_law_502 : decode cL_law 502 = .ok (.aload_n 0, 1) := by decide +kernel
theorem dL_law_503 : decode cL_law 503 = .ok (.iload 4, 2) := by decide +kernel
theorem dL_law_505 : decode cL_law 505 = .ok (.iconst 2, 1) := by decide +kernel
theorem dL_law_506 : decode cL_law 506 = .ok (.iadd, 1) := by decide +kernel
theorem dL_law_507 : decode cL_law 507 = .ok (.iaload, 1) := by decide +kernel
theorem dL_law_508 : decode cL_law 508 = .ok (.i2l, 1) := by decide +kernel
theorem dL_law_509 : decode cL_law 509 = .ok (.ldc2_w 119, 3) := by decide +kernel
theorem dL_law_512 : decode cL_law 512 = .ok (.land, 1) := by decide +kernel
theorem dL_law_513 : decode cL_law 513 = .ok (.lor, 1) := by decide +kernel
theorem dL_law_514 : decode cL_law 514 = .ok (.aload_n 3, 1) := by decide +kernel
theorem dL_law_515 : decode cL_law 515 = .ok (.invokestatic 121, 3) := by decide +kernel
theorem dL_law_518 : decode cL_law 518 = .ok (.istore 5, 2) := by decide +kernel
theorem dL_law_520 : decode cL_law 520 = .ok (.aload_n 2, 1) := by decide +kernel
theorem dL_law_521 : decode cL_law 521 = .ok (.aload_n 0, 1) := by decide +kernel
theorem dL_law_522 : decode cL_law 522 = .ok (.iload 4, 2) := by decide +kernel
theorem dL_law_524 : decode cL_law 524 = .ok (.iconst 1, 1) := by decide +kernel
theorem dL_law_525 : decode cL_law 525 = .ok (.iadd, 1) := by decide +kernel
theorem dL_law_526 : decode cL_law 526 = .ok (.iaload, 1) := by decide +kernel
theorem dL_law_527 : decode cL_law 527 = .ok (.i2l, 1) := by decide +kernel
theorem dL_law_528 : decode cL_law 528 = .ok (.bipush 32, 2) := by decide +kernel
theorem dL_law_530 : decode cL_law 530 = .ok (.lshl, 1) := by decide +kernel
theorem dL_law_531 : decode cL_law 531 = .ok (.aload_n 0, 1) := by decide +kernel
theorem dL_law_532 : decode cL_law 532 = .ok (.iload 4, 2) := by decide +kernel
theorem dL_law_534 : decode cL_law 534 = .ok (.iconst 2, 1) := by decide +kernel
theorem dL_law_535 : decode cL_law 535 = .ok (.iadd, 1) := by decide +kernel
theorem dL_law_536 : decode cL_law 536 = .ok (.iaload, 1) := by decide +kernel
theorem dL_law_537 : decode cL_law 537 = .ok (.i2l, 1) := by decide +kernel
theorem dL_law_538 : decode cL_law 538 = .ok (.ldc2_w 119, 3) := by decide +kernel
theorem dL_law_541 : decode cL_law 541 = .ok (.land, 1) := by decide +kernel
theorem dL_law_542 : decode cL_law 542 = .ok (.lor, 1) := by decide +kernel
theorem dL_law_543 : decode cL_law 543 = .ok (.invokevirtual 124, 3) := by decide +kernel
theorem dL_law_546 : decode cL_law 546 = .ok (.istore 6, 2) := by decide +kernel
theorem dL_law_548 : decode cL_law 548 = .ok (.aload_n 2, 1) := by decide +kernel
theorem dL_law_549 : decode cL_law 549 = .ok (.invokevirtual 93, 3) := by decide +kernel
theorem dL_law_552 : decode cL_law 552 = .ok (.iload 5, 2) := by decide +kernel
theorem dL_law_554 : decode cL_law 554 = .ok (.if_icmp .eq 5, 3) := by decide +kernel
theorem dL_law_557 : decode cL_law 557 = .ok (.iconst 0, 1) := by decide +kernel
theorem dL_law_558 : decode cL_law 558 = .ok (.ireturn, 1) := by decide +kernel
theorem dL_law_559 : decode cL_law 559 = .ok (.iload 5, 2) := by decide +kernel
theorem dL_law_561 : decode cL_law 561 = .ok (.ifCond .ne 15, 3) := by decide +kernel
theorem dL_law_564 : decode cL_law 564 = .ok (.aload_n 3, 1) := by decide +kernel
theorem dL_law_565 : decode cL_law 565 = .ok (.iconst 0, 1) := by decide +kernel
theorem dL_law_566 : decode cL_law 566 = .ok (.laload, 1) := by decide +kernel
theorem dL_law_567 : decode cL_law 567 = .ok (.iload 6, 2) := by decide +kernel
theorem dL_law_569 : decode cL_law 569 = .ok (.i2l, 1) := by decide +kernel
theorem dL_law_570 : decode cL_law 570 = .ok (.lcmp, 1) := by decide +kernel
theorem dL_law_571 : decode cL_law 571 = .ok (.ifCond .eq 5, 3) := by decide +kernel
theorem dL_law_574 : decode cL_law 574 = .ok (.iconst 0, 1) := by decide +kernel
theorem dL_law_575 : decode cL_law 575 = .ok (.ireturn, 1) := by decide +kernel
theorem dL_law_576 : decode cL_law 576 = .ok (.goto 987, 3) := by decide +kernel
theorem dL_law_579 : decode cL_law 579 = .ok (.aload_n 1, 1) := by decide +kernel
theorem dL_law_580 : decode cL_law 580 = .ok (.invokevirtual 125, 3) := by decide +kernel
theorem dL_law_583 : decode cL_law 583 = .ok (.aload_n 2, 1) := by decide +kernel
theorem dL_law_584 : decode cL_law 584 = .ok (.invokevirtual 128, 3) := by decide +kernel
theorem dL_law_587 : decode cL_law 587 = .ok (.if_icmp .eq 976, 3) := by decide +kernel
theorem dL_law_590 : decode cL_law 590 = .ok (.iconst 0, 1) := by decide +kernel
theorem dL_law_591 : decode cL_law 591 = .ok (.ireturn, 1) := by decide +kernel
theorem dL_law_592 : decode cL_law 592 = .ok (.aload_n 1, 1) := by decide +kernel
theorem dL_law_593 : decode cL_law 593 = .ok (.aload_n 0, 1) := by decide +kernel
theorem dL_law_594 : decode cL_law 594 = .ok (.iload 4, 2) := by decide +kernel
theorem dL_law_596 : decode cL_law 596 = .ok (.iconst 1, 1) := by decide +kernel
theorem dL_law_597 : decode cL_law 597 = .ok (.iadd, 1) := by decide +kernel
theorem dL_law_598 : decode cL_law 598 = .ok (.iaload, 1) := by decide +kernel
theorem dL_law_599 : decode cL_law 599 = .ok (.aload_n 0, 1) := by decide +kernel
theorem dL_law_600 : decode cL_law 600 = .ok (.iload 4, 2) := by decide +kernel
theorem dL_law_602 : decode cL_law 602 = .ok (.iconst 2, 1) := by decide +kernel
theorem dL_law_603 : decode cL_law 603 = .ok (.iadd, 1) := by decide +kernel
theorem dL_law_604 : decode cL_law 604 = .ok (.iaload, 1) := by decide +kernel
theorem dL_law_605 : decode cL_law 605 = .ok (.aload_n 3, 1) := by decide +kernel
theorem dL_law_606 : decode cL_law 606 = .ok (.invokestatic 129, 3) := by decide +kernel
theorem dL_law_609 : decode cL_law 609 = .ok (.istore 5, 2) := by decide +kernel
theorem dL_law_611 : decode cL_law 611 = .ok (.aload_n 2, 1) := by decide +kernel
theorem dL_law_612 : decode cL_law 612 = .ok (.aload_n 0, 1) := by decide +kernel
theorem dL_law_613 : decode cL_law 613 = .ok (.iload 4, 2) := by decide +kernel
theorem dL_law_615 : decode cL_law 615 = .ok (.iconst 1, 1) := by decide +kernel
theorem dL_law_616 : decode cL_law 616 = .ok (.iadd, 1) := by decide +kernel
theorem dL_law_617 : decode cL_law 617 = .ok (.iaload, 1) := by decide +kernel
theorem dL_law_618 : decode cL_law 618 = .ok (.aload_n 0, 1) := by decide +kernel
theorem dL_law_619 : decode cL_law 619 = .ok (.iload 4, 2) := by decide +kernel
theorem dL_law_621 : decode cL_law 621 = .ok (.iconst 2, 1) := by decide +kernel
theorem dL_law_622 : decode cL_law 622 = .ok (.iadd, 1) := by decide +kernel
theorem dL_law_623 : decode cL_law 623 = .ok (.iaload, 1) := by decide +kernel
theorem dL_law_624 : decode cL_law 624 = .ok (.invokevirtual 131, 3) := by decide +kernel
theorem dL_law_627 : decode cL_law 627 = .ok (.istore 6, 2) := by decide +kernel
theorem dL_law_629 : decode cL_law 629 = .ok (.aload_n 2, 1) := by decide +kernel
theorem dL_law_630 : decode cL_law 630 = .ok (.invokevirtual 93, 3) := by decide +kernel
theorem dL_law_633 : decode cL_law 633 = .ok (.iload 5, 2) := by decide +kernel
theorem dL_law_635 : decode cL_law 635 = .ok (.if_icmp .eq 5, 3) := by decide +kernel
theorem dL_law_638 : decode cL_law 638 = .ok (.iconst 0, 1) := by decide +kernel
theorem dL_law_639 : decode cL_law 639 = .ok (.ireturn, 1) := by decide +kernel
theorem dL_law_640 : decode cL_law 640 = .ok (.iload 5, 2) := by decide +kernel
theorem dL_law_642 : decode cL_law 642 = .ok (.ifCond .ne 15, 3) := by decide +kernel
theorem dL_law_645 : decode cL_law 645 = .ok (.aload_n 3, 1) := by decide +kernel
theorem dL_law_646 : decode cL_law 646 = .ok (.iconst 0, 1) := by decide +kernel
theorem dL_law_647 : decode cL_law 647 = .ok (.laload, 1) := by decide +kernel
theorem dL_law_648 : decode cL_law 648 = .ok (.iload 6, 2) := by decide +kernel
theorem dL_law_650 : decode cL_law 650 = .ok (.i2l, 1) := by decide +kernel
theorem dL_law_651 : decode cL_law 651 = .ok (.lcmp, 1) := by decide +kernel
theorem dL_law_652 : decode cL_law 652 = .ok (.ifCond .eq 5, 3) := by decide +kernel
theorem dL_law_655 : decode cL_law 655 = .ok (.iconst 0, 1) := by decide +kernel
theorem dL_law_656 : decode cL_law 656 = .ok (.ireturn, 1) := by decide +kernel
theorem dL_law_657 : decode cL_law 657 = .ok (.goto 906, 3) := by decide +kernel
theorem dL_law_660 : decode cL_law 660 = .ok (.aload_n 1, 1) := by decide +kernel
theorem dL_law_661 : decode cL_law 661 = .ok (.aload_n 0, 1) := by decide +kernel
theorem dL_law_662 : decode cL_law 662 = .ok (.iload 4, 2) := by decide +kernel
theorem dL_law_664 : decode cL_law 664 = .ok (.iconst 1, 1) := by decide +kernel
theorem dL_law_665 : decode cL_law 665 = .ok (.iadd, 1) := by decide +kernel
theorem dL_law_666 : decode cL_law 666 = .ok (.iaload, 1) := by decide +kernel
theorem dL_law_667 : decode cL_law 667 = .ok (.aload_n 3, 1) := by decide +kernel
theorem dL_law_668 : decode cL_law 668 = .ok (.invokestatic 132, 3) := by decide +kernel
theorem dL_law_671 : decode cL_law 671 = .ok (.istore 5, 2) := by decide +kernel
theorem dL_law_673 : decode cL_law 673 = .ok (.aload_n 2, 1) := by decide +kernel
theorem dL_law_674 : decode cL_law 674 = .ok (.aload_n 0, 1) := by decide +kernel
theorem dL_law_675 : decode cL_law 675 = .ok (.iload 4, 2) := by decide +kernel
theorem dL_law_677 : decode cL_law 677 = .ok (.iconst 1, 1) := by decide +kernel
theorem dL_law_678 : decode cL_law 678 = .ok (.iadd, 1) := by decide +kernel
theorem dL_law_679 : decode cL_law 679 = .ok (.iaload, 1) := by decide +kernel
theorem dL_law_680 : decode cL_law 680 = .ok (.invokevirtual 134, 3) := by decide +kernel
theorem dL_law_683 : decode cL_law 683 = .ok (.istore 6, 2) := by decide +kernel
theorem dL_law_685 : decode cL_law 685 = .ok (.aload_n 2, 1) := by decide +kernel
theorem dL_law_686 : decode cL_law 686 = .ok (.invokevirtual 93, 3) := by decide +kernel
theorem dL_law_689 : decode cL_law 689 = .ok (.iload 5, 2) := by decide +kernel
theorem dL_law_691 : decode cL_law 691 = .ok (.if_icmp .eq 5, 3) := by decide +kernel
theorem dL_law_694 : decode cL_law 694 = .ok (.iconst 0, 1) := by decide +kernel
theorem dL_law_695 : decode cL_law 695 = .ok (.ireturn, 1) := by decide +kernel
theorem dL_law_696 : decode cL_law 696 = .ok (.iload 5, 2) := by decide +kernel
theorem dL_law_698 : decode cL_law 698 = .ok (.ifCond .ne 15, 3) := by decide +kernel
theorem dL_law_701 : decode cL_law 701 = .ok (.aload_n 3, 1) := by decide +kernel
theorem dL_law_702 : decode cL_law 702 = .ok (.iconst 0, 1) := by decide +kernel
theorem dL_law_703 : decode cL_law 703 = .ok (.laload, 1) := by decide +kernel
theorem dL_law_704 : decode cL_law 704 = .ok (.iload 6, 2) := by decide +kernel
theorem dL_law_706 : decode cL_law 706 = .ok (.i2l, 1) := by decide +kernel
theorem dL_law_707 : decode cL_law 707 = .ok (.lcmp, 1) := by decide +kernel
theorem dL_law_708 : decode cL_law 708 = .ok (.ifCond .eq 5, 3) := by decide +kernel
theorem dL_law_711 : decode cL_law 711 = .ok (.iconst 0, 1) := by decide +kernel
theorem dL_law_712 : decode cL_law 712 = .ok (.ireturn, 1) := by decide +kernel
theorem dL_law_713 : decode cL_law 713 = .ok (.goto 850, 3) := by decide +kernel
theorem dL_law_716 : decode cL_law 716 = .ok (.aload_n 1, 1) := by decide +kernel
theorem dL_law_717 : decode cL_law 717 = .ok (.aload_n 0, 1) := by decide +kernel
theorem dL_law_718 : decode cL_law 718 = .ok (.iload 4, 2) := by decide +kernel
theorem dL_law_720 : decode cL_law 720 = .ok (.iconst 1, 1) := by decide +kernel
theorem dL_law_721 : decode cL_law 721 = .ok (.iadd, 1) := by decide +kernel
theorem dL_law_722 : decode cL_law 722 = .ok (.iaload, 1) := by decide +kernel
theorem dL_law_723 : decode cL_law 723 = .ok (.aload_n 0, 1) := by decide +kernel
theorem dL_law_724 : decode cL_law 724 = .ok (.iload 4, 2) := by decide +kernel
theorem dL_law_726 : decode cL_law 726 = .ok (.iconst 2, 1) := by decide +kernel
theorem dL_law_727 : decode cL_law 727 = .ok (.iadd, 1) := by decide +kernel
theorem dL_law_728 : decode cL_law 728 = .ok (.iaload, 1) := by decide +kernel
theorem dL_law_729 : decode cL_law 729 = .ok (.aload_n 0, 1) := by decide +kernel
theorem dL_law_730 : decode cL_law 730 = .ok (.iload 4, 2) := by decide +kernel
theorem dL_law_732 : decode cL_law 732 = .ok (.iconst 3, 1) := by decide +kernel
theorem dL_law_733 : decode cL_law 733 = .ok (.iadd, 1) := by decide +kernel
theorem dL_law_734 : decode cL_law 734 = .ok (.iaload, 1) := by decide +kernel
theorem dL_law_735 : decode cL_law 735 = .ok (.aload_n 3, 1) := by decide +kernel
theorem dL_law_736 : decode cL_law 736 = .ok (.invokestatic 135, 3) := by decide +kernel
theorem dL_law_739 : decode cL_law 739 = .ok (.istore 5, 2) := by decide +kernel
theorem dL_law_741 : decode cL_law 741 = .ok (.aload_n 2, 1) := by decide +kernel
theorem dL_law_742 : decode cL_law 742 = .ok (.aload_n 0, 1) := by decide +kernel
theorem dL_law_743 : decode cL_law 743 = .ok (.iload 4, 2) := by decide +kernel
theorem dL_law_745 : decode cL_law 745 = .ok (.iconst 1, 1) := by decide +kernel
theorem dL_law_746 : decode cL_law 746 = .ok (.iadd, 1) := by decide +kernel
theorem dL_law_747 : decode cL_law 747 = .ok (.iaload, 1) := by decide +kernel
theorem dL_law_748 : decode cL_law 748 = .ok (.aload_n 0, 1) := by decide +kernel
theorem dL_law_749 : decode cL_law 749 = .ok (.iload 4, 2) := by decide +kernel
theorem dL_law_751 : decode cL_law 751 = .ok (.iconst 2, 1) := by decide +kernel
theorem dL_law_752 : decode cL_law 752 = .ok (.iadd, 1) := by decide +kernel
theorem dL_law_753 : decode cL_law 753 = .ok (.iaload, 1) := by decide +kernel
theorem dL_law_754 : decode cL_law 754 = .ok (.aload_n 0, 1) := by decide +kernel
theorem dL_law_755 : decode cL_law 755 = .ok (.iload 4, 2) := by decide +kernel
theorem dL_law_757 : decode cL_law 757 = .ok (.iconst 3, 1) := by decide +kernel
theorem dL_law_758 : decode cL_law 758 = .ok (.iadd, 1) := by decide +kernel
theorem dL_law_759 : decode cL_law 759 = .ok (.iaload, 1) := by decide +kernel
theorem dL_law_760 : decode cL_law 760 = .ok (.invokevirtual 138, 3) := by decide +kernel
theorem dL_law_763 : decode cL_law 763 = .ok (.lstore 6, 2) := by decide +kernel
theorem dL_law_765 : decode cL_law 765 = .ok (.aload_n 2, 1) := by decide +kernel
theorem dL_law_766 : decode cL_law 766 = .ok (.invokevirtual 93, 3) := by decide +kernel
theorem dL_law_769 : decode cL_law 769 = .ok (.iload 5, 2) := by decide +kernel
theorem dL_law_771 : decode cL_law 771 = .ok (.if_icmp .eq 5, 3) := by decide +kernel
theorem dL_law_774 : decode cL_law 774 = .ok (.iconst 0, 1) := by decide +kernel
theorem dL_law_775 : decode cL_law 775 = .ok (.ireturn, 1) := by decide +kernel
theorem dL_law_776 : decode cL_law 776 = .ok (.iload 5, 2) := by decide +kernel
theorem dL_law_778 : decode cL_law 778 = .ok (.ifCond .ne 14, 3) := by decide +kernel
theorem dL_law_781 : decode cL_law 781 = .ok (.aload_n 3, 1) := by decide +kernel
theorem dL_law_782 : decode cL_law 782 = .ok (.iconst 0, 1) := by decide +kernel
theorem dL_law_783 : decode cL_law 783 = .ok (.laload, 1) := by decide +kernel
theorem dL_law_784 : decode cL_law 784 = .ok (.lload 6, 2) := by decide +kernel
theorem dL_law_786 : decode cL_law 786 = .ok (.lcmp, 1) := by decide +kernel
theorem dL_law_787 : decode cL_law 787 = .ok (.ifCond .eq 5, 3) := by decide +kernel
theorem dL_law_790 : decode cL_law 790 = .ok (.iconst 0, 1) := by decide +kernel
theorem dL_law_791 : decode cL_law 791 = .ok (.ireturn, 1) := by decide +kernel
theorem dL_law_792 : decode cL_law 792 = .ok (.goto 771, 3) := by decide +kernel
theorem dL_law_795 : decode cL_law 795 = .ok (.aload_n 1, 1) := by decide +kernel
theorem dL_law_796 : decode cL_law 796 = .ok (.aload_n 0, 1) := by decide +kernel
theorem dL_law_797 : decode cL_law 797 = .ok (.iload 4, 2) := by decide +kernel
theorem dL_law_799 : decode cL_law 799 = .ok (.iconst 1, 1) := by decide +kernel
theorem dL_law_800 : decode cL_law 800 = .ok (.iadd, 1) := by decide +kernel
theorem dL_law_801 : decode cL_law 801 = .ok (.iaload, 1) := by decide +kernel
theorem dL_law_802 : decode cL_law 802 = .ok (.aload_n 3, 1) := by decide +kernel
theorem dL_law_803 : decode cL_law 803 = .ok (.invokestatic 139, 3) := by decide +kernel
theorem dL_law_806 : decode cL_law 806 = .ok (.istore 5, 2) := by decide +kernel
theorem dL_law_808 : decode cL_law 808 = .ok (.aload_n 2, 1) := by decide +kernel
theorem dL_law_809 : decode cL_law 809 = .ok (.aload_n 0, 1) := by decide +kernel
theorem dL_law_810 : decode cL_law 810 = .ok (.iload 4, 2) := by decide +kernel
theorem dL_law_812 : decode cL_law 812 = .ok (.iconst 1, 1) := by decide +kernel
theorem dL_law_813 : decode cL_law 813 = .ok (.iadd, 1) := by decide +kernel
theorem dL_law_814 : decode cL_law 814 = .ok (.iaload, 1) := by decide +kernel
theorem dL_law_815 : decode cL_law 815 = .ok (.invokevirtual 141, 3) := by decide +kernel
theorem dL_law_818 : decode cL_law 818 = .ok (.istore 6, 2) := by decide +kernel
theorem dL_law_820 : decode cL_law 820 = .ok (.aload_n 2, 1) := by decide +kernel
theorem dL_law_821 : decode cL_law 821 = .ok (.invokevirtual 93, 3) := by decide +kernel
theorem dL_law_824 : decode cL_law 824 = .ok (.iload 5, 2) := by decide +kernel
theorem dL_law_826 : decode cL_law 826 = .ok (.if_icmp .eq 5, 3) := by decide +kernel
theorem dL_law_829 : decode cL_law 829 = .ok (.iconst 0, 1) := by decide +kernel
theorem dL_law_830 : decode cL_law 830 = .ok (.ireturn, 1) := by decide +kernel
theorem dL_law_831 : decode cL_law 831 = .ok (.iload 5, 2) := by decide +kernel
theorem dL_law_833 : decode cL_law 833 = .ok (.ifCond .ne 15, 3) := by decide +kernel
theorem dL_law_836 : decode cL_law 836 = .ok (.aload_n 3, 1) := by decide +kernel
theorem dL_law_837 : decode cL_law 837 = .ok (.iconst 0, 1) := by decide +kernel
theorem dL_law_838 : decode cL_law 838 = .ok (.laload, 1) := by decide +kernel
theorem dL_law_839 : decode cL_law 839 = .ok (.iload 6, 2) := by decide +kernel
theorem dL_law_841 : decode cL_law 841 = .ok (.i2l, 1) := by decide +kernel
theorem dL_law_842 : decode cL_law 842 = .ok (.lcmp, 1) := by decide +kernel
theorem dL_law_843 : decode cL_law 843 = .ok (.ifCond .eq 5, 3) := by decide +kernel
theorem dL_law_846 : decode cL_law 846 = .ok (.iconst 0, 1) := by decide +kernel
theorem dL_law_847 : decode cL_law 847 = .ok (.ireturn, 1) := by decide +kernel
theorem dL_law_848 : decode cL_law 848 = .ok (.goto 715, 3) := by decide +kernel
theorem dL_law_851 : decode cL_law 851 = .ok (.aload_n 1, 1) := by decide +kernel
theorem dL_law_852 : decode cL_law 852 = .ok (.aload_n 0, 1) := by decide +kernel
theorem dL_law_853 : decode cL_law 853 = .ok (.iload 4, 2) := by decide +kernel
theorem dL_law_855 : decode cL_law 855 = .ok (.iconst 1, 1) := by decide +kernel
theorem dL_law_856 : decode cL_law 856 = .ok (.iadd, 1) := by decide +kernel
theorem dL_law_857 : decode cL_law 857 = .ok (.iaload, 1) := by decide +kernel
theorem dL_law_858 : decode cL_law 858 = .ok (.aload_n 0, 1) := by decide +kernel
theorem dL_law_859 : decode cL_law 859 = .ok (.iload 4, 2) := by decide +kernel
theorem dL_law_861 : decode cL_law 861 = .ok (.iconst 2, 1) := by decide +kernel
theorem dL_law_862 : decode cL_law 862 = .ok (.iadd, 1) := by decide +kernel
theorem dL_law_863 : decode cL_law 863 = .ok (.iaload, 1) := by decide +kernel
theorem dL_law_864 : decode cL_law 864 = .ok (.ifCond .eq 7, 3) := by decide +kernel
theorem dL_law_867 : decode cL_law 867 = .ok (.iconst 1, 1) := by decide +kernel
theorem dL_law_868 : decode cL_law 868 = .ok (.goto 4, 3) := by decide +kernel
theorem dL_law_871 : decode cL_law 871 = .ok (.iconst 0, 1) := by decide +kernel
theorem dL_law_872 : decode cL_law 872 = .ok (.aload_n 3, 1) := by decide +kernel
theorem dL_law_873 : decode cL_law 873 = .ok (.invokestatic 142, 3) := by decide +kernel
theorem dL_law_876 : decode cL_law 876 = .ok (.istore 5, 2) := by decide +kernel
theorem dL_law_878 : decode cL_law 878 = .ok (.aload_n 2, 1) := by decide +kernel
theorem dL_law_879 : decode cL_law 879 = .ok (.aload_n 0, 1) := by decide +kernel
theorem dL_law_880 : decode cL_law 880 = .ok (.iload 4, 2) := by decide +kernel
theorem dL_law_882 : decode cL_law 882 = .ok (.iconst 1, 1) := by decide +kernel
theorem dL_law_883 : decode cL_law 883 = .ok (.iadd, 1) := by decide +kernel
theorem dL_law_884 : decode cL_law 884 = .ok (.iaload, 1) := by decide +kernel
theorem dL_law_885 : decode cL_law 885 = .ok (.aload_n 0, 1) := by decide +kernel
theorem dL_law_886 : decode cL_law 886 = .ok (.iload 4, 2) := by decide +kernel
theorem dL_law_888 : decode cL_law 888 = .ok (.iconst 2, 1) := by decide +kernel
theorem dL_law_889 : decode cL_law 889 = .ok (.iadd, 1) := by decide +kernel
theorem dL_law_890 : decode cL_law 890 = .ok (.iaload, 1) := by decide +kernel
theorem dL_law_891 : decode cL_law 891 = .ok (.ifCond .eq 7, 3) := by decide +kernel
theorem dL_law_894 : decode cL_law 894 = .ok (.iconst 1, 1) := by decide +kernel
theorem dL_law_895 : decode cL_law 895 = .ok (.goto 4, 3) := by decide +kernel
theorem dL_law_898 : decode cL_law 898 = .ok (.iconst 0, 1) := by decide +kernel
theorem dL_law_899 : decode cL_law 899 = .ok (.invokevirtual 145, 3) := by decide +kernel
theorem dL_law_902 : decode cL_law 902 = .ok (.istore 6, 2) := by decide +kernel
theorem dL_law_904 : decode cL_law 904 = .ok (.aload_n 2, 1) := by decide +kernel
theorem dL_law_905 : decode cL_law 905 = .ok (.invokevirtual 93, 3) := by decide +kernel
theorem dL_law_908 : decode cL_law 908 = .ok (.iload 5, 2) := by decide +kernel
theorem dL_law_910 : decode cL_law 910 = .ok (.if_icmp .eq 5, 3) := by decide +kernel
theorem dL_law_913 : decode cL_law 913 = .ok (.iconst 0, 1) := by decide +kernel
theorem dL_law_914 : decode cL_law 914 = .ok (.ireturn, 1) := by decide +kernel
theorem dL_law_915 : decode cL_law 915 = .ok (.iload 5, 2) := by decide +kernel
theorem dL_law_917 : decode cL_law 917 = .ok (.ifCond .ne 15, 3) := by decide +kernel
theorem dL_law_920 : decode cL_law 920 = .ok (.aload_n 3, 1) := by decide +kernel
theorem dL_law_921 : decode cL_law 921 = .ok (.iconst 0, 1) := by decide +kernel
theorem dL_law_922 : decode cL_law 922 = .ok (.laload, 1) := by decide +kernel
theorem dL_law_923 : decode cL_law 923 = .ok (.iload 6, 2) := by decide +kernel
theorem dL_law_925 : decode cL_law 925 = .ok (.i2l, 1) := by decide +kernel
theorem dL_law_926 : decode cL_law 926 = .ok (.lcmp, 1) := by decide +kernel
theorem dL_law_927 : decode cL_law 927 = .ok (.ifCond .eq 5, 3) := by decide +kernel
theorem dL_law_930 : decode cL_law 930 = .ok (.iconst 0, 1) := by decide +kernel
theorem dL_law_931 : decode cL_law 931 = .ok (.ireturn, 1) := by decide +kernel
theorem dL_law_932 : decode cL_law 932 = .ok (.goto 631, 3) := by decide +kernel
theorem dL_law_935 : decode cL_law 935 = .ok (.aload_n 1, 1) := by decide +kernel
theorem dL_law_936 : decode cL_law 936 = .ok (.aload_n 0, 1) := by decide +kernel
theorem dL_law_937 : decode cL_law 937 = .ok (.iload 4, 2) := by decide +kernel
theorem dL_law_939 : decode cL_law 939 = .ok (.iconst 1, 1) := by decide +kernel
theorem dL_law_940 : decode cL_law 940 = .ok (.iadd, 1) := by decide +kernel
theorem dL_law_941 : decode cL_law 941 = .ok (.iaload, 1) := by decide +kernel
theorem dL_law_942 : decode cL_law 942 = .ok (.aload_n 0, 1) := by decide +kernel
theorem dL_law_943 : decode cL_law 943 = .ok (.iload 4, 2) := by decide +kernel
theorem dL_law_945 : decode cL_law 945 = .ok (.iconst 2, 1) := by decide +kernel
theorem dL_law_946 : decode cL_law 946 = .ok (.iadd, 1) := by decide +kernel
theorem dL_law_947 : decode cL_law 947 = .ok (.iaload, 1) := by decide +kernel
theorem dL_law_948 : decode cL_law 948 = .ok (.aload_n 3, 1) := by decide +kernel
theorem dL_law_949 : decode cL_law 949 = .ok (.invokestatic 146, 3) := by decide +kernel
theorem dL_law_952 : decode cL_law 952 = .ok (.istore 5, 2) := by decide +kernel
theorem dL_law_954 : decode cL_law 954 = .ok (.aload_n 2, 1) := by decide +kernel
theorem dL_law_955 : decode cL_law 955 = .ok (.aload_n 0, 1) := by decide +kernel
theorem dL_law_956 : decode cL_law 956 = .ok (.iload 4, 2) := by decide +kernel
theorem dL_law_958 : decode cL_law 958 = .ok (.iconst 1, 1) := by decide +kernel
theorem dL_law_959 : decode cL_law 959 = .ok (.iadd, 1) := by decide +kernel
theorem dL_law_960 : decode cL_law 960 = .ok (.iaload, 1) := by decide +kernel
theorem dL_law_961 : decode cL_law 961 = .ok (.aload_n 0, 1) := by decide +kernel
theorem dL_law_962 : decode cL_law 962 = .ok (.iload 4, 2) := by decide +kernel
theorem dL_law_964 : decode cL_law 964 = .ok (.iconst 2, 1) := by decide +kernel
theorem dL_law_965 : decode cL_law 965 = .ok (.iadd, 1) := by decide +kernel
theorem dL_law_966 : decode cL_law 966 = .ok (.iaload, 1) := by decide +kernel
theorem dL_law_967 : decode cL_law 967 = .ok (.invokevirtual 148, 3) := by decide +kernel
theorem dL_law_970 : decode cL_law 970 = .ok (.istore 6, 2) := by decide +kernel
theorem dL_law_972 : decode cL_law 972 = .ok (.aload_n 2, 1) := by decide +kernel
theorem dL_law_973 : decode cL_law 973 = .ok (.invokevirtual 93, 3) := by decide +kernel
theorem dL_law_976 : decode cL_law 976 = .ok (.iload 5, 2) := by decide +kernel
theorem dL_law_978 : decode cL_law 978 = .ok (.if_icmp .eq 5, 3) := by decide +kernel
theorem dL_law_981 : decode cL_law 981 = .ok (.iconst 0, 1) := by decide +kernel
theorem dL_law_982 : decode cL_law 982 = .ok (.ireturn, 1) := by decide +kernel
theorem dL_law_983 : decode cL_law 983 = .ok (.iload 5, 2) := by decide +kernel
theorem dL_law_985 : decode cL_law 985 = .ok (.ifCond .ne 15, 3) := by decide +kernel
theorem dL_law_988 : decode cL_law 988 = .ok (.aload_n 3, 1) := by decide +kernel
theorem dL_law_989 : decode cL_law 989 = .ok (.iconst 0, 1) := by decide +kernel
theorem dL_law_990 : decode cL_law 990 = .ok (.laload, 1) := by decide +kernel
theorem dL_law_991 : decode cL_law 991 = .ok (.iload 6, 2) := by decide +kernel
theorem dL_law_993 : decode cL_law 993 = .ok (.i2l, 1) := by decide +kernel
theorem dL_law_994 : decode cL_law 994 = .ok (.lcmp, 1) := by decide +kernel
theorem dL_law_995 : decode cL_law 995 = .ok (.ifCond .eq 5, 3) := by decide +kernel
theorem dL_law_998 : decode cL_law 998 = .ok (.iconst 0, 1) := by decide +kernel
theorem dL_law_999 : decode cL_law 999 = .ok (.ireturn, 1) := by decide +kernel
theorem dL_law_1000 : decode cL_law 1000 = .ok (.goto 563, 3) := by decide +kernel
theorem dL_law_1003 : decode cL_law 1003 = .ok (.aload_n 1, 1) := by decide +kernel
theorem dL_law_1004 : decode cL_law 1004 = .ok (.aload_n 0, 1) := by decide +kernel
theorem dL_law_1005 : decode cL_law 1005 = .ok (.iload 4, 2) := by decide +kernel
theorem dL_law_1007 : decode cL_law 1007 = .ok (.iconst 1, 1) := by decide +kernel
theorem dL_law_1008 : decode cL_law 1008 = .ok (.iadd, 1) := by decide +kernel
theorem dL_law_1009 : decode cL_law 1009 = .ok (.iaload, 1) := by decide +kernel
theorem dL_law_1010 : decode cL_law 1010 = .ok (.aload_n 0, 1) := by decide +kernel
theorem dL_law_1011 : decode cL_law 1011 = .ok (.iload 4, 2) := by decide +kernel
theorem dL_law_1013 : decode cL_law 1013 = .ok (.iconst 2, 1) := by decide +kernel
theorem dL_law_1014 : decode cL_law 1014 = .ok (.iadd, 1) := by decide +kernel
theorem dL_law_1015 : decode cL_law 1015 = .ok (.iaload, 1) := by decide +kernel
theorem dL_law_1016 : decode cL_law 1016 = .ok (.aload_n 3, 1) := by decide +kernel
theorem dL_law_1017 : decode cL_law 1017 = .ok (.invokestatic 149, 3) := by decide +kernel
theorem dL_law_1020 : decode cL_law 1020 = .ok (.istore 5, 2) := by decide +kernel
theorem dL_law_1022 : decode cL_law 1022 = .ok (.aload_n 2, 1) := by decide +kernel
theorem dL_law_1023 : decode cL_law 1023 = .ok (.aload_n 0, 1) := by decide +kernel
theorem dL_law_1024 : decode cL_law 1024 = .ok (.iload 4, 2) := by decide +kernel
theorem dL_law_1026 : decode cL_law 1026 = .ok (.iconst 1, 1) := by decide +kernel
theorem dL_law_1027 : decode cL_law 1027 = .ok (.iadd, 1) := by decide +kernel
theorem dL_law_1028 : decode cL_law 1028 = .ok (.iaload, 1) := by decide +kernel
theorem dL_law_1029 : decode cL_law 1029 = .ok (.aload_n 0, 1) := by decide +kernel
theorem dL_law_1030 : decode cL_law 1030 = .ok (.iload 4, 2) := by decide +kernel
theorem dL_law_1032 : decode cL_law 1032 = .ok (.iconst 2, 1) := by decide +kernel
theorem dL_law_1033 : decode cL_law 1033 = .ok (.iadd, 1) := by decide +kernel
theorem dL_law_1034 : decode cL_law 1034 = .ok (.iaload, 1) := by decide +kernel
theorem dL_law_1035 : decode cL_law 1035 = .ok (.invokevirtual 151, 3) := by decide +kernel
theorem dL_law_1038 : decode cL_law 1038 = .ok (.lstore 6, 2) := by decide +kernel
theorem dL_law_1040 : decode cL_law 1040 = .ok (.aload_n 2, 1) := by decide +kernel
theorem dL_law_1041 : decode cL_law 1041 = .ok (.invokevirtual 93, 3) := by decide +kernel
theorem dL_law_1044 : decode cL_law 1044 = .ok (.iload 5, 2) := by decide +kernel
theorem dL_law_1046 : decode cL_law 1046 = .ok (.if_icmp .eq 5, 3) := by decide +kernel
theorem dL_law_1049 : decode cL_law 1049 = .ok (.iconst 0, 1) := by decide +kernel
theorem dL_law_1050 : decode cL_law 1050 = .ok (.ireturn, 1) := by decide +kernel
theorem dL_law_1051 : decode cL_law 1051 = .ok (.iload 5, 2) := by decide +kernel
theorem dL_law_1053 : decode cL_law 1053 = .ok (.ifCond .ne 14, 3) := by decide +kernel
theorem dL_law_1056 : decode cL_law 1056 = .ok (.aload_n 3, 1) := by decide +kernel
theorem dL_law_1057 : decode cL_law 1057 = .ok (.iconst 0, 1) := by decide +kernel
theorem dL_law_1058 : decode cL_law 1058 = .ok (.laload, 1) := by decide +kernel
theorem dL_law_1059 : decode cL_law 1059 = .ok (.lload 6, 2) := by decide +kernel
theorem dL_law_1061 : decode cL_law 1061 = .ok (.lcmp, 1) := by decide +kernel
theorem dL_law_1062 : decode cL_law 1062 = .ok (.ifCond .eq 5, 3) := by decide +kernel
theorem dL_law_1065 : decode cL_law 1065 = .ok (.iconst 0, 1) := by decide +kernel
theorem dL_law_1066 : decode cL_law 1066 = .ok (.ireturn, 1) := by decide +kernel
theorem dL_law_1067 : decode cL_law 1067 = .ok (.goto 496, 3) := by decide +kernel
theorem dL_law_1070 : decode cL_law 1070 = .ok (.aload_n 1, 1) := by decide +kernel
theorem dL_law_1071 : decode cL_law 1071 = .ok (.aload_n 0, 1) := by decide +kernel
theorem dL_law_1072 : decode cL_law 1072 = .ok (.iload 4, 2) := by decide +kernel
theorem dL_law_1074 : decode cL_law 1074 = .ok (.iconst 1, 1) := by decide +kernel
theorem dL_law_1075 : decode cL_law 1075 = .ok (.iadd, 1) := by decide +kernel
theorem dL_law_1076 : decode cL_law 1076 = .ok (.iaload, 1) := by decide +kernel
theorem dL_law_1077 : decode cL_law 1077 = .ok (.aload_n 3, 1) := by decide +kernel
theorem dL_law_1078 : decode cL_law 1078 = .ok (.invokestatic 152, 3) := by decide +kernel
theorem dL_law_1081 : decode cL_law 1081 = .ok (.istore 5, 2) := by decide +kernel
theorem dL_law_1083 : decode cL_law 1083 = .ok (.aload_n 2, 1) := by decide +kernel
theorem dL_law_1084 : decode cL_law 1084 = .ok (.aload_n 0, 1) := by decide +kernel
theorem dL_law_1085 : decode cL_law 1085 = .ok (.iload 4, 2) := by decide +kernel
theorem dL_law_1087 : decode cL_law 1087 = .ok (.iconst 1, 1) := by decide +kernel
theorem dL_law_1088 : decode cL_law 1088 = .ok (.iadd, 1) := by decide +kernel
theorem dL_law_1089 : decode cL_law 1089 = .ok (.iaload, 1) := by decide +kernel
theorem dL_law_1090 : decode cL_law 1090 = .ok (.invokevirtual 154, 3) := by decide +kernel
theorem dL_law_1093 : decode cL_law 1093 = .ok (.istore 6, 2) := by decide +kernel
theorem dL_law_1095 : decode cL_law 1095 = .ok (.aload_n 2, 1) := by decide +kernel
theorem dL_law_1096 : decode cL_law 1096 = .ok (.invokevirtual 93, 3) := by decide +kernel
theorem dL_law_1099 : decode cL_law 1099 = .ok (.iload 5, 2) := by decide +kernel
theorem dL_law_1101 : decode cL_law 1101 = .ok (.if_icmp .eq 5, 3) := by decide +kernel
theorem dL_law_1104 : decode cL_law 1104 = .ok (.iconst 0, 1) := by decide +kernel
theorem dL_law_1105 : decode cL_law 1105 = .ok (.ireturn, 1) := by decide +kernel
theorem dL_law_1106 : decode cL_law 1106 = .ok (.iload 5, 2) := by decide +kernel
theorem dL_law_1108 : decode cL_law 1108 = .ok (.ifCond .ne 15, 3) := by decide +kernel
theorem dL_law_1111 : decode cL_law 1111 = .ok (.aload_n 3, 1) := by decide +kernel
theorem dL_law_1112 : decode cL_law 1112 = .ok (.iconst 0, 1) := by decide +kernel
theorem dL_law_1113 : decode cL_law 1113 = .ok (.laload, 1) := by decide +kernel
theorem dL_law_1114 : decode cL_law 1114 = .ok (.iload 6, 2) := by decide +kernel
theorem dL_law_1116 : decode cL_law 1116 = .ok (.i2l, 1) := by decide +kernel
theorem dL_law_1117 : decode cL_law 1117 = .ok (.lcmp, 1) := by decide +kernel
theorem dL_law_1118 : decode cL_law 1118 = .ok (.ifCond .eq 5, 3) := by decide +kernel
theorem dL_law_1121 : decode cL_law 1121 = .ok (.iconst 0, 1) := by decide +kernel
theorem dL_law_1122 : decode cL_law 1122 = .ok (.ireturn, 1) := by decide +kernel
theorem dL_law_1123 : decode cL_law 1123 = .ok (.goto 440, 3) := by decide +kernel
theorem dL_law_1126 : decode cL_law 1126 = .ok (.aload_n 1, 1) := by decide +kernel
theorem dL_law_1127 : decode cL_law 1127 = .ok (.aload_n 0, 1) := by decide +kernel
theorem dL_law_1128 : decode cL_law 1128 = .ok (.iload 4, 2) := by decide +kernel
theorem dL_law_1130 : decode cL_law 1130 = .ok (.iconst 1, 1) := by decide +kernel
theorem dL_law_1131 : decode cL_law 1131 = .ok (.iadd, 1) := by decide +kernel
theorem dL_law_1132 : decode cL_law 1132 = .ok (.iaload, 1) := by decide +kernel
theorem dL_law_1133 : decode cL_law 1133 = .ok (.aload_n 3, 1) := by decide +kernel
theorem dL_law_1134 : decode cL_law 1134 = .ok (.invokestatic 155, 3) := by decide +kernel
theorem dL_law_1137 : decode cL_law 1137 = .ok (.istore 5, 2) := by decide +kernel
theorem dL_law_1139 : decode cL_law 1139 = .ok (.aload_n 2, 1) := by decide +kernel
theorem dL_law_1140 : decode cL_law 1140 = .ok (.aload_n 0, 1) := by decide +kernel
theorem dL_law_1141 : decode cL_law 1141 = .ok (.iload 4, 2) := by decide +kernel
theorem dL_law_1143 : decode cL_law 1143 = .ok (.iconst 1, 1) := by decide +kernel
theorem dL_law_1144 : decode cL_law 1144 = .ok (.iadd, 1) := by decide +kernel
theorem dL_law_1145 : decode cL_law 1145 = .ok (.iaload, 1) := by decide +kernel
theorem dL_law_1146 : decode cL_law 1146 = .ok (.invokevirtual 157, 3) := by decide +kernel
theorem dL_law_1149 : decode cL_law 1149 = .ok (.istore 6, 2) := by decide +kernel
theorem dL_law_1151 : decode cL_law 1151 = .ok (.aload_n 2, 1) := by decide +kernel
theorem dL_law_1152 : decode cL_law 1152 = .ok (.invokevirtual 93, 3) := by decide +kernel
theorem dL_law_1155 : decode cL_law 1155 = .ok (.iload 5, 2) := by decide +kernel
theorem dL_law_1157 : decode cL_law 1157 = .ok (.if_icmp .eq 5, 3) := by decide +kernel
theorem dL_law_1160 : decode cL_law 1160 = .ok (.iconst 0, 1) := by decide +kernel
theorem dL_law_1161 : decode cL_law 1161 = .ok (.ireturn, 1) := by decide +kernel
theorem dL_law_1162 : decode cL_law 1162 = .ok (.iload 5, 2) := by decide +kernel
theorem dL_law_1164 : decode cL_law 1164 = .ok (.ifCond .ne 15, 3) := by decide +kernel
theorem dL_law_1167 : decode cL_law 1167 = .ok (.aload_n 3, 1) := by decide +kernel
theorem dL_law_1168 : decode cL_law 1168 = .ok (.iconst 0, 1) := by decide +kernel
theorem dL_law_1169 : decode cL_law 1169 = .ok (.laload, 1) := by decide +kernel
theorem dL_law_1170 : decode cL_law 1170 = .ok (.iload 6, 2) := by decide +kernel
theorem dL_law_1172 : decode cL_law 1172 = .ok (.i2l, 1) := by decide +kernel
theorem dL_law_1173 : decode cL_law 1173 = .ok (.lcmp, 1) := by decide +kernel
theorem dL_law_1174 : decode cL_law 1174 = .ok (.ifCond .eq 5, 3) := by decide +kernel
theorem dL_law_1177 : decode cL_law 1177 = .ok (.iconst 0, 1) := by decide +kernel
theorem dL_law_1178 : decode cL_law 1178 = .ok (.ireturn, 1) := by decide +kernel
theorem dL_law_1179 : decode cL_law 1179 = .ok (.goto 384, 3) := by decide +kernel
theorem dL_law_1182 : decode cL_law 1182 = .ok (.aload_n 1, 1) := by decide +kernel
theorem dL_law_1183 : decode cL_law 1183 = .ok (.aload_n 0, 1) := by decide +kernel
theorem dL_law_1184 : decode cL_law 1184 = .ok (.iload 4, 2) := by decide +kernel
theorem dL_law_1186 : decode cL_law 1186 = .ok (.iconst 1, 1) := by decide +kernel
theorem dL_law_1187 : decode cL_law 1187 = .ok (.iadd, 1) := by decide +kernel
theorem dL_law_1188 : decode cL_law 1188 = .ok (.iaload, 1) := by decide +kernel
theorem dL_law_1189 : decode cL_law 1189 = .ok (.aload_n 3, 1) := by decide +kernel
theorem dL_law_1190 : decode cL_law 1190 = .ok (.invokestatic 158, 3) := by decide +kernel
theorem dL_law_1193 : decode cL_law 1193 = .ok (.istore 5, 2) := by decide +kernel
theorem dL_law_1195 : decode cL_law 1195 = .ok (.aload_n 2, 1) := by decide +kernel
theorem dL_law_1196 : decode cL_law 1196 = .ok (.aload_n 0, 1) := by decide +kernel
theorem dL_law_1197 : decode cL_law 1197 = .ok (.iload 4, 2) := by decide +kernel
theorem dL_law_1199 : decode cL_law 1199 = .ok (.iconst 1, 1) := by decide +kernel
theorem dL_law_1200 : decode cL_law 1200 = .ok (.iadd, 1) := by decide +kernel
theorem dL_law_1201 : decode cL_law 1201 = .ok (.iaload, 1) := by decide +kernel
theorem dL_law_1202 : decode cL_law 1202 = .ok (.invokevirtual 160, 3) := by decide +kernel
theorem dL_law_1205 : decode cL_law 1205 = .ok (.istore 6, 2) := by decide +kernel
theorem dL_law_1207 : decode cL_law 1207 = .ok (.aload_n 2, 1) := by decide +kernel
theorem dL_law_1208 : decode cL_law 1208 = .ok (.invokevirtual 93, 3) := by decide +kernel
theorem dL_law_1211 : decode cL_law 1211 = .ok (.iload 5, 2) := by decide +kernel
theorem dL_law_1213 : decode cL_law 1213 = .ok (.if_icmp .eq 5, 3) := by decide +kernel
theorem dL_law_1216 : decode cL_law 1216 = .ok (.iconst 0, 1) := by decide +kernel
theorem dL_law_1217 : decode cL_law 1217 = .ok (.ireturn, 1) := by decide +kernel
theorem dL_law_1218 : decode cL_law 1218 = .ok (.iload 5, 2) := by decide +kernel
theorem dL_law_1220 : decode cL_law 1220 = .ok (.ifCond .ne 15, 3) := by decide +kernel
theorem dL_law_1223 : decode cL_law 1223 = .ok (.aload_n 3, 1) := by decide +kernel
theorem dL_law_1224 : decode cL_law 1224 = .ok (.iconst 0, 1) := by decide +kernel
theorem dL_law_1225 : decode cL_law 1225 = .ok (.laload, 1) := by decide +kernel
theorem dL_law_1226 : decode cL_law 1226 = .ok (.iload 6, 2) := by decide +kernel
theorem dL_law_1228 : decode cL_law 1228 = .ok (.i2l, 1) := by decide +kernel
theorem dL_law_1229 : decode cL_law 1229 = .ok (.lcmp, 1) := by decide +kernel
theorem dL_law_1230 : decode cL_law 1230 = .ok (.ifCond .eq 5, 3) := by decide +kernel
theorem dL_law_1233 : decode cL_law 1233 = .ok (.iconst 0, 1) := by decide +kernel
theorem dL_law_1234 : decode cL_law 1234 = .ok (.ireturn, 1) := by decide +kernel
theorem dL_law_1235 : decode cL_law 1235 = .ok (.goto 328, 3) := by decide +kernel
theorem dL_law_1238 : decode cL_law 1238 = .ok (.aload_n 1, 1) := by decide +kernel
theorem dL_law_1239 : decode cL_law 1239 = .ok (.invokevirtual 161, 3) := by decide +kernel
theorem dL_law_1242 : decode cL_law 1242 = .ok (.aload_n 2, 1) := by decide +kernel
theorem dL_law_1243 : decode cL_law 1243 = .ok (.invokevirtual 164, 3) := by decide +kernel
theorem dL_law_1246 : decode cL_law 1246 = .ok (.if_icmp .eq 317, 3) := by decide +kernel
theorem dL_law_1249 : decode cL_law 1249 = .ok (.iconst 0, 1) := by decide +kernel
theorem dL_law_1250 : decode cL_law 1250 = .ok (.ireturn, 1) := by decide +kernel
theorem dL_law_1251 : decode cL_law 1251 = .ok (.aload_n 1, 1) := by decide +kernel
theorem dL_law_1252 : decode cL_law 1252 = .ok (.invokevirtual 165, 3) := by decide +kernel
theorem dL_law_1255 : decode cL_law 1255 = .ok (.aload_n 2, 1) := by decide +kernel
theorem dL_law_1256 : decode cL_law 1256 = .ok (.invokevirtual 169, 3) := by decide +kernel
theorem dL_law_1259 : decode cL_law 1259 = .ok (.if_icmp .eq 304, 3) := by decide +kernel
theorem dL_law_1262 : decode cL_law 1262 = .ok (.iconst 0, 1) := by decide +kernel
theorem dL_law_1263 : decode cL_law 1263 = .ok (.ireturn, 1) := by decide +kernel
theorem dL_law_1264 : decode cL_law 1264 = .ok (.aload_n 1, 1) := by decide +kernel
theorem dL_law_1265 : decode cL_law 1265 = .ok (.aload_n 3, 1) := by decide +kernel
theorem dL_law_1266 : decode cL_law 1266 = .ok (.invokestatic 170, 3) := by decide +kernel
theorem dL_law_1269 : decode cL_law 1269 = .ok (.istore 5, 2) := by decide +kernel
theorem dL_law_1271 : decode cL_law 1271 = .ok (.aload_n 2, 1) := by decide +kernel
theorem dL_law_1272 : decode cL_law 1272 = .ok (.invokevirtual 173, 3) := by decide +kernel
theorem dL_law_1275 : decode cL_law 1275 = .ok (.istore 6, 2) := by decide +kernel
theorem dL_law_1277 : decode cL_law 1277 = .ok (.aload_n 2, 1) := by decide +kernel
theorem dL_law_1278 : decode cL_law 1278 = .ok (.invokevirtual 93, 3) := by decide +kernel
theorem dL_law_1281 : decode cL_law 1281 = .ok (.iload 5, 2) := by decide +kernel
theorem dL_law_1283 : decode cL_law 1283 = .ok (.if_icmp .eq 5, 3) := by decide +kernel
theorem dL_law_1286 : decode cL_law 1286 = .ok (.iconst 0, 1) := by decide +kernel
theorem dL_law_1287 : decode cL_law 1287 = .ok (.ireturn, 1) := by decide +kernel
theorem dL_law_1288 : decode cL_law 1288 = .ok (.iload 5, 2) := by decide +kernel
theorem dL_law_1290 : decode cL_law 1290 = .ok (.ifCond .ne 15, 3) := by decide +kernel
theorem dL_law_1293 : decode cL_law 1293 = .ok (.aload_n 3, 1) := by decide +kernel
theorem dL_law_1294 : decode cL_law 1294 = .ok (.iconst 0, 1) := by decide +kernel
theorem dL_law_1295 : decode cL_law 1295 = .ok (.laload, 1) := by decide +kernel
theorem dL_law_1296 : decode cL_law 1296 = .ok (.iload 6, 2) := by decide +kernel
theorem dL_law_1298 : decode cL_law 1298 = .ok (.i2l, 1) := by decide +kernel
theorem dL_law_1299 : decode cL_law 1299 = .ok (.lcmp, 1) := by decide +kernel
theorem dL_law_1300 : decode cL_law 1300 = .ok (.ifCond .eq 5, 3) := by decide +kernel
theorem dL_law_1303 : decode cL_law 1303 = .ok (.iconst 0, 1) := by decide +kernel
theorem dL_law_1304 : decode cL_law 1304 = .ok (.ireturn, 1) := by decide +kernel
theorem dL_law_1305 : decode cL_law 1305 = .ok (.goto 258, 3) := by decide +kernel
theorem dL_law_1308 : decode cL_law 1308 = .ok (.aload_n 1, 1) := by decide +kernel
theorem dL_law_1309 : decode cL_law 1309 = .ok (.aload_n 3, 1) := by decide +kernel
theorem dL_law_1310 : decode cL_law 1310 = .ok (.invokestatic 174, 3) := by decide +kernel
theorem dL_law_1313 : decode cL_law 1313 = .ok (.istore 5, 2) := by decide +kernel
theorem dL_law_1315 : decode cL_law 1315 = .ok (.aload_n 2, 1) := by decide +kernel
theorem dL_law_1316 : decode cL_law 1316 = .ok (.invokevirtual 176, 3) := by decide +kernel
theorem dL_law_1319 : decode cL_law 1319 = .ok (.istore 6, 2) := by decide +kernel
theorem dL_law_1321 : decode cL_law 1321 = .ok (.aload_n 2, 1) := by decide +kernel
theorem dL_law_1322 : decode cL_law 1322 = .ok (.invokevirtual 93, 3) := by decide +kernel
theorem dL_law_1325 : decode cL_law 1325 = .ok (.iload 5, 2) := by decide +kernel
theorem dL_law_1327 : decode cL_law 1327 = .ok (.if_icmp .eq 5, 3) := by decide +kernel
theorem dL_law_1330 : decode cL_law 1330 = .ok (.iconst 0, 1) := by decide +kernel
theorem dL_law_1331 : decode cL_law 1331 = .ok (.ireturn, 1) := by decide +kernel
theorem dL_law_1332 : decode cL_law 1332 = .ok (.iload 5, 2) := by decide +kernel
theorem dL_law_1334 : decode cL_law 1334 = .ok (.ifCond .ne 15, 3) := by decide +kernel
theorem dL_law_1337 : decode cL_law 1337 = .ok (.aload_n 3, 1) := by decide +kernel
theorem dL_law_1338 : decode cL_law 1338 = .ok (.iconst 0, 1) := by decide +kernel
theorem dL_law_1339 : decode cL_law 1339 = .ok (.laload, 1) := by decide +kernel
theorem dL_law_1340 : decode cL_law 1340 = .ok (.iload 6, 2) := by decide +kernel
theorem dL_law_1342 : decode cL_law 1342 = .ok (.i2l, 1) := by decide +kernel
theorem dL_law_1343 : decode cL_law 1343 = .ok (.lcmp, 1) := by decide +kernel
theorem dL_law_1344 : decode cL_law 1344 = .ok (.ifCond .eq 5, 3) := by decide +kernel
theorem dL_law_1347 : decode cL_law 1347 = .ok (.iconst 0, 1) := by decide +kernel
theorem dL_law_1348 : decode cL_law 1348 = .ok (.ireturn, 1) := by decide +kernel
theorem dL_law_1349 : decode cL_law 1349 = .ok (.goto 214, 3) := by decide +kernel
theorem dL_law_1352 : decode cL_law 1352 = .ok (.aload_n 1, 1) := by decide +kernel
theorem dL_law_1353 : decode cL_law 1353 = .ok (.aload_n 0, 1) := by decide +kernel
theorem dL_law_1354 : decode cL_law 1354 = .ok (.iload 4, 2) := by decide +kernel
theorem dL_law_1356 : decode cL_law 1356 = .ok (.iconst 1, 1) := by decide +kernel
theorem dL_law_1357 : decode cL_law 1357 = .ok (.iadd, 1) := by decide +kernel
theorem dL_law_1358 : decode cL_law 1358 = .ok (.iaload, 1) := by decide +kernel
theorem dL_law_1359 : decode cL_law 1359 = .ok (.aload_n 3, 1) := by decide +kernel
theorem dL_law_1360 : decode cL_law 1360 = .ok (.invokestatic 177, 3) := by decide +kernel
theorem dL_law_1363 : decode cL_law 1363 = .ok (.istore 5, 2) := by decide +kernel
theorem dL_law_1365 : decode cL_law 1365 = .ok (.aload_n 2, 1) := by decide +kernel
theorem dL_law_1366 : decode cL_law 1366 = .ok (.aload_n 0, 1) := by decide +kernel
theorem dL_law_1367 : decode cL_law 1367 = .ok (.iload 4, 2) := by decide +kernel
theorem dL_law_1369 : decode cL_law 1369 = .ok (.iconst 1, 1) := by decide +kernel
theorem dL_law_1370 : decode cL_law 1370 = .ok (.iadd, 1) := by decide +kernel
theorem dL_law_1371 : decode cL_law 1371 = .ok (.iaload, 1) := by decide +kernel
theorem dL_law_1372 : decode cL_law 1372 = .ok (.invokevirtual 179, 3) := by decide +kernel
theorem dL_law_1375 : decode cL_law 1375 = .ok (.istore 6, 2) := by decide +kernel
theorem dL_law_1377 : decode cL_law 1377 = .ok (.aload_n 2, 1) := by decide +kernel
theorem dL_law_1378 : decode cL_law 1378 = .ok (.invokevirtual 93, 3) := by decide +kernel
theorem dL_law_1381 : decode cL_law 1381 = .ok (.iload 5, 2) := by decide +kernel
theorem dL_law_1383 : decode cL_law 1383 = .ok (.if_icmp .eq 5, 3) := by decide +kernel
theorem dL_law_1386 : decode cL_law 1386 = .ok (.iconst 0, 1) := by decide +kernel
theorem dL_law_1387 : decode cL_law 1387 = .ok (.ireturn, 1) := by decide +kernel
theorem dL_law_1388 : decode cL_law 1388 = .ok (.iload 5, 2) := by decide +kernel
theorem dL_law_1390 : decode cL_law 1390 = .ok (.ifCond .ne 15, 3) := by decide +kernel
theorem dL_law_1393 : decode cL_law 1393 = .ok (.aload_n 3, 1) := by decide +kernel
theorem dL_law_1394 : decode cL_law 1394 = .ok (.iconst 0, 1) := by decide +kernel
theorem dL_law_1395 : decode cL_law 1395 = .ok (.laload, 1) := by decide +kernel
theorem dL_law_1396 : decode cL_law 1396 = .ok (.iload 6, 2) := by decide +kernel
theorem dL_law_1398 : decode cL_law 1398 = .ok (.i2l, 1) := by decide +kernel
theorem dL_law_1399 : decode cL_law 1399 = .ok (.lcmp, 1) := by decide +kernel
theorem dL_law_1400 : decode cL_law 1400 = .ok (.ifCond .eq 5, 3) := by decide +kernel
theorem dL_law_1403 : decode cL_law 1403 = .ok (.iconst 0, 1) := by decide +kernel
theorem dL_law_1404 : decode cL_law 1404 = .ok (.ireturn, 1) := by decide +kernel
theorem dL_law_1405 : decode cL_law 1405 = .ok (.goto 158, 3) := by decide +kernel
theorem dL_law_1408 : decode cL_law 1408 = .ok (.aload_n 1, 1) := by decide +kernel
theorem dL_law_1409 : decode cL_law 1409 = .ok (.aload_n 3, 1) := by decide +kernel
theorem dL_law_1410 : decode cL_law 1410 = .ok (.invokestatic 180, 3) := by decide +kernel
theorem dL_law_1413 : decode cL_law 1413 = .ok (.istore 5, 2) := by decide +kernel
theorem dL_law_1415 : decode cL_law 1415 = .ok (.aload_n 2, 1) := by decide +kernel
theorem dL_law_1416 : decode cL_law 1416 = .ok (.invokevirtual 182, 3) := by decide +kernel
theorem dL_law_1419 : decode cL_law 1419 = .ok (.istore 6, 2) := by decide +kernel
theorem dL_law_1421 : decode cL_law 1421 = .ok (.aload_n 2, 1) := by decide +kernel
theorem dL_law_1422 : decode cL_law 1422 = .ok (.invokevirtual 93, 3) := by decide +kernel
theorem dL_law_1425 : decode cL_law 1425 = .ok (.iload 5, 2) := by decide +kernel
theorem dL_law_1427 : decode cL_law 1427 = .ok (.if_icmp .eq 5, 3) := by decide +kernel
theorem dL_law_1430 : decode cL_law 1430 = .ok (.iconst 0, 1) := by decide +kernel
theorem dL_law_1431 : decode cL_law 1431 = .ok (.ireturn, 1) := by decide +kernel
theorem dL_law_1432 : decode cL_law 1432 = .ok (.iload 5, 2) := by decide +kernel
theorem dL_law_1434 : decode cL_law 1434 = .ok (.ifCond .ne 15, 3) := by decide +kernel
theorem dL_law_1437 : decode cL_law 1437 = .ok (.aload_n 3, 1) := by decide +kernel
theorem dL_law_1438 : decode cL_law 1438 = .ok (.iconst 0, 1) := by decide +kernel
theorem dL_law_1439 : decode cL_law 1439 = .ok (.laload, 1) := by decide +kernel
theorem dL_law_1440 : decode cL_law 1440 = .ok (.iload 6, 2) := by decide +kernel
theorem dL_law_1442 : decode cL_law 1442 = .ok (.i2l, 1) := by decide +kernel
theorem dL_law_1443 : decode cL_law 1443 = .ok (.lcmp, 1) := by decide +kernel
theorem dL_law_1444 : decode cL_law 1444 = .ok (.ifCond .eq 5, 3) := by decide +kernel
theorem dL_law_1447 : decode cL_law 1447 = .ok (.iconst 0, 1) := by decide +kernel
theorem dL_law_1448 : decode cL_law 1448 = .ok (.ireturn, 1) := by decide +kernel
theorem dL_law_1449 : decode cL_law 1449 = .ok (.goto 114, 3) := by decide +kernel
theorem dL_law_1452 : decode cL_law 1452 = .ok (.aload_n 1, 1) := by decide +kernel
theorem dL_law_1453 : decode cL_law 1453 = .ok (.aload_n 0, 1) := by decide +kernel
theorem dL_law_1454 : decode cL_law 1454 = .ok (.iload 4, 2) := by decide +kernel
theorem dL_law_1456 : decode cL_law 1456 = .ok (.iconst 1, 1) := by decide +kernel
theorem dL_law_1457 : decode cL_law 1457 = .ok (.iadd, 1) := by decide +kernel
theorem dL_law_1458 : decode cL_law 1458 = .ok (.iaload, 1) := by decide +kernel
theorem dL_law_1459 : decode cL_law 1459 = .ok (.aload_n 3, 1) := by decide +kernel
theorem dL_law_1460 : decode cL_law 1460 = .ok (.invokestatic 183, 3) := by decide +kernel
theorem dL_law_1463 : decode cL_law 1463 = .ok (.istore 5, 2) := by decide +kernel
theorem dL_law_1465 : decode cL_law 1465 = .ok (.aload_n 2, 1) := by decide +kernel
theorem dL_law_1466 : decode cL_law 1466 = .ok (.aload_n 0, 1) := by decide +kernel
theorem dL_law_1467 : decode cL_law 1467 = .ok (.iload 4, 2) := by decide +kernel
theorem dL_law_1469 : decode cL_law 1469 = .ok (.iconst 1, 1) := by decide +kernel
theorem dL_law_1470 : decode cL_law 1470 = .ok (.iadd, 1) := by decide +kernel
theorem dL_law_1471 : decode cL_law 1471 = .ok (.iaload, 1) := by decide +kernel
theorem dL_law_1472 : decode cL_law 1472 = .ok (.invokevirtual 185, 3) := by decide +kernel
theorem dL_law_1475 : decode cL_law 1475 = .ok (.istore 6, 2) := by decide +kernel
theorem dL_law_1477 : decode cL_law 1477 = .ok (.aload_n 2, 1) := by decide +kernel
theorem dL_law_1478 : decode cL_law 1478 = .ok (.invokevirtual 93, 3) := by decide +kernel
theorem dL_law_1481 : decode cL_law 1481 = .ok (.iload 5, 2) := by decide +kernel
theorem dL_law_1483 : decode cL_law 1483 = .ok (.if_icmp .eq 5, 3) := by decide +kernel
theorem dL_law_1486 : decode cL_law 1486 = .ok (.iconst 0, 1) := by decide +kernel
theorem dL_law_1487 : decode cL_law 1487 = .ok (.ireturn, 1) := by decide +kernel
theorem dL_law_1488 : decode cL_law 1488 = .ok (.iload 5, 2) := by decide +kernel
theorem dL_law_1490 : decode cL_law 1490 = .ok (.ifCond .ne 15, 3) := by decide +kernel
theorem dL_law_1493 : decode cL_law 1493 = .ok (.aload_n 3, 1) := by decide +kernel
theorem dL_law_1494 : decode cL_law 1494 = .ok (.iconst 0, 1) := by decide +kernel
theorem dL_law_1495 : decode cL_law 1495 = .ok (.laload, 1) := by decide +kernel
theorem dL_law_1496 : decode cL_law 1496 = .ok (.iload 6, 2) := by decide +kernel
theorem dL_law_1498 : decode cL_law 1498 = .ok (.i2l, 1) := by decide +kernel
theorem dL_law_1499 : decode cL_law 1499 = .ok (.lcmp, 1) := by decide +kernel
theorem dL_law_1500 : decode cL_law 1500 = .ok (.ifCond .eq 5, 3) := by decide +kernel
theorem dL_law_1503 : decode cL_law 1503 = .ok (.iconst 0, 1) := by decide +kernel
theorem dL_law_1504 : decode cL_law 1504 = .ok (.ireturn, 1) := by decide +kernel
theorem dL_law_1505 : decode cL_law 1505 = .ok (.goto 58, 3) := by decide +kernel
theorem dL_law_1508 : decode cL_law 1508 = .ok (.aload_n 1, 1) := by decide +kernel
theorem dL_law_1509 : decode cL_law 1509 = .ok (.invokevirtual 186, 3) := by decide +kernel
theorem dL_law_1512 : decode cL_law 1512 = .ok (.dstore 5, 2) := by decide +kernel
theorem dL_law_1514 : decode cL_law 1514 = .ok (.aload_n 2, 1) := by decide +kernel
theorem dL_law_1515 : decode cL_law 1515 = .ok (.invokevirtual 190, 3) := by decide +kernel
theorem dL_law_1518 : decode cL_law 1518 = .ok (.dstore 7, 2) := by decide +kernel
theorem dL_law_1520 : decode cL_law 1520 = .ok (.dload 5, 2) := by decide +kernel
theorem dL_law_1522 : decode cL_law 1522 = .ok (.dload 7, 2) := by decide +kernel
theorem dL_law_1524 : decode cL_law 1524 = .ok (.dcmp .l, 1) := by decide +kernel
theorem dL_law_1525 : decode cL_law 1525 = .ok (.ifCond .eq 21, 3) := by decide +kernel
theorem dL_law_1528 : decode cL_law 1528 = .ok (.dload 5, 2) := by decide +kernel
theorem dL_law_1530 : decode cL_law 1530 = .ok (.dload 5, 2) := by decide +kernel
theorem dL_law_1532 : decode cL_law 1532 = .ok (.dcmp .l, 1) := by decide +kernel
theorem dL_law_1533 : decode cL_law 1533 = .ok (.ifCond .eq 11, 3) := by decide +kernel
theorem dL_law_1536 : decode cL_law 1536 = .ok (.dload 7, 2) := by decide +kernel
theorem dL_law_1538 : decode cL_law 1538 = .ok (.dload 7, 2) := by decide +kernel
theorem dL_law_1540 : decode cL_law 1540 = .ok (.dcmp .l, 1) := by decide +kernel
theorem dL_law_1541 : decode cL_law 1541 = .ok (.ifCond .ne 5, 3) := by decide +kernel
theorem dL_law_1544 : decode cL_law 1544 = .ok (.iconst 0, 1) := by decide +kernel
theorem dL_law_1545 : decode cL_law 1545 = .ok (.ireturn, 1) := by decide +kernel
theorem dL_law_1546 : decode cL_law 1546 = .ok (.goto 17, 3) := by decide +kernel
theorem dL_law_1549 : decode cL_law 1549 = .ok (.aload_n 1, 1) := by decide +kernel
theorem dL_law_1550 : decode cL_law 1550 = .ok (.invokevirtual 191, 3) := by decide +kernel
theorem dL_law_1553 : decode cL_law 1553 = .ok (.aload_n 2, 1) := by decide +kernel
theorem dL_law_1554 : decode cL_law 1554 = .ok (.invokevirtual 195, 3) := by decide +kernel
theorem dL_law_1557 : decode cL_law 1557 = .ok (.lcmp, 1) := by decide +kernel
theorem dL_law_1558 : decode cL_law 1558 = .ok (.ifCond .eq 5, 3) := by decide +kernel
theorem dL_law_1561 : decode cL_law 1561 = .ok (.iconst 0, 1) := by decide +kernel
theorem dL_law_1562 : decode cL_law 1562 = .ok (.ireturn, 1) := by decide +kernel
theorem dL_law_1563 : decode cL_law 1563 = .ok (.iinc 4 6, 3) := by decide +kernel
theorem dL_law_1566 : decode cL_law 1566 = .ok (.goto (-1543), 3) := by decide +kernel
theorem dL_law_1569 : decode cL_law 1569 = .ok (.iconst 1, 1) := by decide +kernel
theorem dL_law_1570 : decode cL_law 1570 = .ok (.ireturn, 1) := by decide +kernel
