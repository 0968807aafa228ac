theorem dX12_sellsOn_87 : decode cX12_sellsOn 87 = .ok (.iconst 0, 1) := by decide +kernel
theorem dX12_sellsOn_88 : decode cX12_sellsOn 88 = .ok (.istore 5, 2) := by decide +kernel
theorem dX12_sellsOn_90 : decode cX12_sellsOn 90 = .ok (.aload_n 0, 1) := by decide +kernel
theorem dX12_sellsOn_91 : decode cX12_sellsOn 91 = .ok (.dup, 1) := by decide +kernel
theorem dX12_sellsOn_92 : decode cX12_sellsOn 92 = .ok (.getfield 291, 3) := by decide +kernel
theorem dX12_sellsOn_95 : decode cX12_sellsOn 95 = .ok (.iload 5, 2) := by decide +kernel
theorem dX12_sellsOn_97 : decode cX12_sellsOn 97 = .ok (.ifCond .eq 7, 3) := by decide +kernel
theorem dX12_sellsOn_100 : decode cX12_sellsOn 100 = .ok (.iconst 1, 1) := by decide +kernel
theorem dX12_sellsOn_101 : decode cX12_sellsOn 101 = .ok (.goto 4, 3) := by decide +kernel
theorem dX12_sellsOn_104 : decode cX12_sellsOn 104 = .ok (.iconst 0, 1) := by decide +kernel
theorem dX12_sellsOn_105 : decode cX12_sellsOn 105 = .ok (.iadd, 1) := by decide +kernel
theorem dX12_sellsOn_106 : decode cX12_sellsOn 106 = .ok (.putfield 291, 3) := by decide +kernel
theorem dX12_sellsOn_109 : decode cX12_sellsOn 109 = .ok (.aload_n 0, 1) := by decide +kernel
theorem dX12_sellsOn_110 : decode cX12_sellsOn 110 = .ok (.iload_n 1, 1) := by decide +kernel
theorem dX12_sellsOn_111 : decode cX12_sellsOn 111 = .ok (.iload_n 2, 1) := by decide +kernel
theorem dX12_sellsOn_112 : decode cX12_sellsOn 112 = .ok (.iload 5, 2) := by decide +kernel
theorem dX12_sellsOn_114 : decode cX12_sellsOn 114 = .ok (.invokevirtual 294, 3) := by decide +kernel
theorem dX12_sellsOn_117 : decode cX12_sellsOn 117 = .ok (.istore 6, 2) := by decide +kernel
theorem dX12_sellsOn_119 : decode cX12_sellsOn 119 = .ok (.iload_n 3, 1) := by decide +kernel
theorem dX12_sellsOn_120 : decode cX12_sellsOn 120 = .ok (.istore 7, 2) := by decide +kernel
theorem dX12_sellsOn_122 : decode cX12_sellsOn 122 = .ok (.iconst 0, 1) := by decide +kernel
theorem dX12_sellsOn_123 : decode cX12_sellsOn 123 = .ok (.istore 8, 2) := by decide +kernel
theorem dX12_sellsOn_125 : decode cX12_sellsOn 125 = .ok (.iload 8, 2) := by decide +kernel
theorem dX12_sellsOn_127 : decode cX12_sellsOn 127 = .ok (.iload 6, 2) := by decide +kernel
theorem dX12_sellsOn_129 : decode cX12_sellsOn 129 = .ok (.if_icmp .ge 76, 3) := by decide +kernel
theorem dX12_sellsOn_132 : decode cX12_sellsOn 132 = .ok (.iload 7, 2) := by decide +kernel
theorem dX12_sellsOn_134 : decode cX12_sellsOn 134 = .ok (.aload_n 0, 1) := by decide +kernel
theorem dX12_sellsOn_135 : decode cX12_sellsOn 135 = .ok (.aload_n 0, 1) := by decide +kernel
theorem dX12_sellsOn_136 : decode cX12_sellsOn 136 = .ok (.getfield 67, 3) := by decide +kernel
theorem dX12_sellsOn_139 : decode cX12_sellsOn 139 = .ok (.iload 8, 2) := by decide +kernel
theorem dX12_sellsOn_141 : decode cX12_sellsOn 141 = .ok (.iaload, 1) := by decide +kernel
theorem dX12_sellsOn_142 : decode cX12_sellsOn 142 = .ok (.iconst 1, 1) := by decide +kernel
theorem dX12_sellsOn_143 : decode cX12_sellsOn 143 = .ok (.invokevirtual 260, 3) := by decide +kernel
theorem dX12_sellsOn_146 : decode cX12_sellsOn 146 = .ok (.invokestatic 142, 3) := by decide +kernel
theorem dX12_sellsOn_149 : decode cX12_sellsOn 149 = .ok (.istore 9, 2) := by decide +kernel
theorem dX12_sellsOn_151 : decode cX12_sellsOn 151 = .ok (.aload_n 0, 1) := by decide +kernel
theorem dX12_sellsOn_152 : decode cX12_sellsOn 152 = .ok (.getfield 61, 3) := by decide +kernel
theorem dX12_sellsOn_155 : decode cX12_sellsOn 155 = .ok (.aload_n 0, 1) := by decide +kernel
theorem dX12_sellsOn_156 : decode cX12_sellsOn 156 = .ok (.getfield 67, 3) := by decide +kernel
theorem dX12_sellsOn_159 : decode cX12_sellsOn 159 = .ok (.iload 8, 2) := by decide +kernel
theorem dX12_sellsOn_161 : decode cX12_sellsOn 161 = .ok (.iaload, 1) := by decide +kernel
theorem dX12_sellsOn_162 : decode cX12_sellsOn 162 = .ok (.dup2, 1) := by decide +kernel
theorem dX12_sellsOn_163 : decode cX12_sellsOn 163 = .ok (.iaload, 1) := by decide +kernel
theorem dX12_sellsOn_164 : decode cX12_sellsOn 164 = .ok (.iload 9, 2) := by decide +kernel
theorem dX12_sellsOn_166 : decode cX12_sellsOn 166 = .ok (.iadd, 1) := by decide +kernel
theorem dX12_sellsOn_167 : decode cX12_sellsOn 167 = .ok (.iastore, 1) := by decide +kernel
theorem dX12_sellsOn_168 : decode cX12_sellsOn 168 = .ok (.aload_n 0, 1) := by decide +kernel
theorem dX12_sellsOn_169 : decode cX12_sellsOn 169 = .ok (.getfield 58, 3) := by decide +kernel
theorem dX12_sellsOn_172 : decode cX12_sellsOn 172 = .ok (.aload_n 0, 1) := by decide +kernel
theorem dX12_sellsOn_173 : decode cX12_sellsOn 173 = .ok (.getfield 67, 3) := by decide +kernel
theorem dX12_sellsOn_176 : decode cX12_sellsOn 176 = .ok (.iload 8, 2) := by decide +kernel
theorem dX12_sellsOn_178 : decode cX12_sellsOn 178 = .ok (.iaload, 1) := by decide +kernel
theorem dX12_sellsOn_179 : decode cX12_sellsOn 179 = .ok (.dup2, 1) := by decide +kernel
theorem dX12_sellsOn_180 : decode cX12_sellsOn 180 = .ok (.iaload, 1) := by decide +kernel
theorem dX12_sellsOn_181 : decode cX12_sellsOn 181 = .ok (.iload 9, 2) := by decide +kernel
theorem dX12_sellsOn_183 : decode cX12_sellsOn 183 = .ok (.aload_n 0, 1) := by decide +kernel
theorem dX12_sellsOn_184 : decode cX12_sellsOn 184 = .ok (.iload_n 1, 1) := by decide +kernel
theorem dX12_sellsOn_185 : decode cX12_sellsOn 185 = .ok (.iload_n 2, 1) := by decide +kernel
theorem dX12_sellsOn_186 : decode cX12_sellsOn 186 = .ok (.invokevirtual 263, 3) := by decide +kernel
theorem dX12_sellsOn_189 : decode cX12_sellsOn 189 = .ok (.imul, 1) := by decide +kernel
theorem dX12_sellsOn_190 : decode cX12_sellsOn 190 = .ok (.iadd, 1) := by decide +kernel
theorem dX12_sellsOn_191 : decode cX12_sellsOn 191 = .ok (.iastore, 1) := by decide +kernel
theorem dX12_sellsOn_192 : decode cX12_sellsOn 192 = .ok (.iload 7, 2) := by decide +kernel
theorem dX12_sellsOn_194 : decode cX12_sellsOn 194 = .ok (.iload 9, 2) := by decide +kernel
theorem dX12_sellsOn_196 : decode cX12_sellsOn 196 = .ok (.isub, 1) := by decide +kernel
theorem dX12_sellsOn_197 : decode cX12_sellsOn 197 = .ok (.istore 7, 2) := by decide +kernel
theorem dX12_sellsOn_199 : decode cX12_sellsOn 199 = .ok (.iinc 8 1, 3) := by decide +kernel
theorem dX12_sellsOn_202 : decode cX12_sellsOn 202 = .ok (.goto (-77), 3) := by decide +kernel
theorem dX12_sellsOn_205 : decode cX12_sellsOn 205 = .ok (.aload_n 0, 1) := by decide +kernel
theorem dX12_sellsOn_206 : decode cX12_sellsOn 206 = .ok (.getfield 43, 3) := by decide +kernel
theorem dX12_sellsOn_209 : decode cX12_sellsOn 209 = .ok (.iload_n 1, 1) := by decide +kernel
theorem dX12_sellsOn_210 : decode cX12_sellsOn 210 = .ok (.iload_n 2, 1) := by decide +kernel
theorem dX12_sellsOn_211 : decode cX12_sellsOn 211 = .ok (.invokestatic 105, 3) := by decide +kernel
theorem dX12_sellsOn_214 : decode cX12_sellsOn 214 = .ok (.iload_n 3, 1) := by decide +kernel
theorem dX12_sellsOn_215 : decode cX12_sellsOn 215 = .ok (.iload 7, 2) := by decide +kernel
theorem dX12_sellsOn_217 : decode cX12_sellsOn 217 = .ok (.isub, 1) := by decide +kernel
theorem dX12_sellsOn_218 : decode cX12_sellsOn 218 = .ok (.iastore, 1) := by decide +kernel
theorem dX12_sellsOn_219 : decode cX12_sellsOn 219 = .ok (.aload_n 0, 1) := by decide +kernel
theorem dX12_sellsOn_220 : decode cX12_sellsOn 220 = .ok (.iload_n 1, 1) := by decide +kernel
theorem dX12_sellsOn_221 : decode cX12_sellsOn 221 = .ok (.iload_n 2, 1) := by decide +kernel
theorem dX12_sellsOn_222 : decode cX12_sellsOn 222 = .ok (.iload_n 3, 1) := by decide +kernel
theorem dX12_sellsOn_223 : decode cX12_sellsOn 223 = .ok (.iload 7, 2) := by decide +kernel
theorem dX12_sellsOn_225 : decode cX12_sellsOn 225 = .ok (.isub, 1) := by decide +kernel
theorem dX12_sellsOn_226 : decode cX12_sellsOn 226 = .ok (.invokevirtual 298, 3) := by decide +kernel
theorem dX12_sellsOn_229 : decode cX12_sellsOn 229 = .ok (.return_, 1) := by decide +kernel
theorem dX12_runs_0 : decode cX12_runs 0 = .ok (.aload_n 0, 1) := by decide +kernel
theorem dX12_runs_1 : decode cX12_runs 1 = .ok (.lload_n 1, 1) := by decide +kernel
theorem dX12_runs_2 : decode cX12_runs 2 = .ok (.putfield 250, 3) := by decide +kernel
theorem dX12_runs_5 : decode cX12_runs 5 = .ok (.aload_n 0, 1) := by decide +kernel
theorem dX12_runs_6 : decode cX12_runs 6 = .ok (.iconst 0, 1) := by decide +kernel
theorem dX12_runs_7 : decode cX12_runs 7 = .ok (.putfield 291, 3) := by decide +kernel
theorem dX12_runs_10 : decode cX12_runs 10 = .ok (.iconst 0, 1) := by decide +kernel
theorem dX12_runs_11 : decode cX12_runs 11 = .ok (.istore_n 3, 1) := by decide +kernel
theorem dX12_runs_12 : decode cX12_runs 12 = .ok (.iload_n 3, 1) := by decide +kernel
theorem dX12_runs_13 : decode cX12_runs 13 = .ok (.bipush 100, 2) := by decide +kernel
theorem dX12_runs_15 : decode cX12_runs 15 = .ok (.if_icmp .ge 30, 3) := by decide +kernel
theorem dX12_runs_18 : decode cX12_runs 18 = .ok (.aload_n 0, 1) := by decide +kernel
theorem dX12_runs_19 : decode cX12_runs 19 = .ok (.getfield 34, 3) := by decide +kernel
theorem dX12_runs_22 : decode cX12_runs 22 = .ok (.iload_n 3, 1) := by decide +kernel
theorem dX12_runs_23 : decode cX12_runs 23 = .ok (.iconst 0, 1) := by decide +kernel
theorem dX12_runs_24 : decode cX12_runs 24 = .ok (.iastore, 1) := by decide +kernel
theorem dX12_runs_25 : decode cX12_runs 25 = .ok (.aload_n 0, 1) := by decide +kernel
theorem dX12_runs_26 : decode cX12_runs 26 = .ok (.getfield 46, 3) := by decide +kernel
theorem dX12_runs_29 : decode cX12_runs 29 = .ok (.iload_n 3, 1) := by decide +kernel
theorem dX12_runs_30 : decode cX12_runs 30 = .ok (.iconst 0, 1) := by decide +kernel
theorem dX12_runs_31 : decode cX12_runs 31 = .ok (.iastore, 1) := by decide +kernel
theorem dX12_runs_32 : decode cX12_runs 32 = .ok (.aload_n 0, 1) := by decide +kernel
theorem dX12_runs_33 : decode cX12_runs 33 = .ok (.getfield 49, 3) := by decide +kernel
theorem dX12_runs_36 : decode cX12_runs 36 = .ok (.iload_n 3, 1) := by decide +kernel
theorem dX12_runs_37 : decode cX12_runs 37 = .ok (.iconst 0, 1) := by decide +kernel
theorem dX12_runs_38 : decode cX12_runs 38 = .ok (.iastore, 1) := by decide +kernel
theorem dX12_runs_39 : decode cX12_runs 39 = .ok (.iinc 3 1, 3) := by decide +kernel
theorem dX12_runs_42 : decode cX12_runs 42 = .ok (.goto (-30), 3) := by decide +kernel
theorem dX12_runs_45 : decode cX12_runs 45 = .ok (.iconst 0, 1) := by decide +kernel
theorem dX12_runs_46 : decode cX12_runs 46 = .ok (.istore_n 3, 1) := by decide +kernel
theorem dX12_runs_47 : decode cX12_runs 47 = .ok (.iload_n 3, 1) := by decide +kernel
theorem dX12_runs_48 : decode cX12_runs 48 = .ok (.bipush 100, 2) := by decide +kernel
theorem dX12_runs_50 : decode cX12_runs 50 = .ok (.if_icmp .ge 16, 3) := by decide +kernel
theorem dX12_runs_53 : decode cX12_runs 53 = .ok (.aload_n 0, 1) := by decide +kernel
theorem dX12_runs_54 : decode cX12_runs 54 = .ok (.getfield 64, 3) := by decide +kernel
theorem dX12_runs_57 : decode cX12_runs 57 = .ok (.iload_n 3, 1) := by decide +kernel
theorem dX12_runs_58 : decode cX12_runs 58 = .ok (.iconst 0, 1) := by decide +kernel
theorem dX12_runs_59 : decode cX12_runs 59 = .ok (.iastore, 1) := by decide +kernel
theorem dX12_runs_60 : decode cX12_runs 60 = .ok (.iinc 3 1, 3) := by decide +kernel
theorem dX12_runs_63 : decode cX12_runs 63 = .ok (.goto (-16), 3) := by decide +kernel
theorem dX12_runs_66 : decode cX12_runs 66 = .ok (.iconst 0, 1) := by decide +kernel
theorem dX12_runs_67 : decode cX12_runs 67 = .ok (.istore_n 3, 1) := by decide +kernel
theorem dX12_runs_68 : decode cX12_runs 68 = .ok (.iload_n 3, 1) := by decide +kernel
theorem dX12_runs_69 : decode cX12_runs 69 = .ok (.iconst 5, 1) := by decide +kernel
theorem dX12_runs_70 : decode cX12_runs 70 = .ok (.if_icmp .ge 23, 3) := by decide +kernel
theorem dX12_runs_73 : decode cX12_runs 73 = .ok (.aload_n 0, 1) := by decide +kernel
theorem dX12_runs_74 : decode cX12_runs 74 = .ok (.getfield 52, 3) := by decide +kernel
theorem dX12_runs_77 : decode cX12_runs 77 = .ok (.iload_n 3, 1) := by decide +kernel
theorem dX12_runs_78 : decode cX12_runs 78 = .ok (.iconst 0, 1) := by decide +kernel
theorem dX12_runs_79 : decode cX12_runs 79 = .ok (.iastore, 1) := by decide +kernel
theorem dX12_runs_80 : decode cX12_runs 80 = .ok (.aload_n 0, 1) := by decide +kernel
theorem dX12_runs_81 : decode cX12_runs 81 = .ok (.getfield 55, 3) := by decide +kernel
theorem dX12_runs_84 : decode cX12_runs 84 = .ok (.iload_n 3, 1) := by decide +kernel
theorem dX12_runs_85 : decode cX12_runs 85 = .ok (.iconst 0, 1) := by decide +kernel
theorem dX12_runs_86 : decode cX12_runs 86 = .ok (.iastore, 1) := by decide +kernel
theorem dX12_runs_87 : decode cX12_runs 87 = .ok (.iinc 3 1, 3) := by decide +kernel
theorem dX12_runs_90 : decode cX12_runs 90 = .ok (.goto (-22), 3) := by decide +kernel
theorem dX12_runs_93 : decode cX12_runs 93 = .ok (.iconst 0, 1) := by decide +kernel
theorem dX12_runs_94 : decode cX12_runs 94 = .ok (.istore_n 3, 1) := by decide +kernel
theorem dX12_runs_95 : decode cX12_runs 95 = .ok (.iload_n 3, 1) := by decide +kernel
theorem dX12_runs_96 : decode cX12_runs 96 = .ok (.bipush 7, 2) := by decide +kernel
theorem dX12_runs_98 : decode cX12_runs 98 = .ok (.if_icmp .ge 23, 3) := by decide +kernel
theorem dX12_runs_101 : decode cX12_runs 101 = .ok (.aload_n 0, 1) := by decide +kernel
theorem dX12_runs_102 : decode cX12_runs 102 = .ok (.getfield 58, 3) := by decide +kernel
theorem dX12_runs_105 : decode cX12_runs 105 = .ok (.iload_n 3, 1) := by decide +kernel
theorem dX12_runs_106 : decode cX12_runs 106 = .ok (.iconst 0, 1) := by decide +kernel
theorem dX12_runs_107 : decode cX12_runs 107 = .ok (.iastore, 1) := by decide +kernel
theorem dX12_runs_108 : decode cX12_runs 108 = .ok (.aload_n 0, 1) := by decide +kernel
theorem dX12_runs_109 : decode cX12_runs 109 = .ok (.getfield 61, 3) := by decide +kernel
theorem dX12_runs_112 : decode cX12_runs 112 = .ok (.iload_n 3, 1) := by decide +kernel
theorem dX12_runs_113 : decode cX12_runs 113 = .ok (.iconst 0, 1) := by decide +kernel
theorem dX12_runs_114 : decode cX12_runs 114 = .ok (.iastore, 1) := by decide +kernel
theorem dX12_runs_115 : decode cX12_runs 115 = .ok (.iinc 3 1, 3) := by decide +kernel
theorem dX12_runs_118 : decode cX12_runs 118 = .ok (.goto (-23), 3) := by decide +kernel
theorem dX12_runs_121 : decode cX12_runs 121 = .ok (.iconst 0, 1) := by decide +kernel
theorem dX12_runs_122 : decode cX12_runs 122 = .ok (.istore_n 3, 1) := by decide +kernel
theorem dX12_runs_123 : decode cX12_runs 123 = .ok (.iload_n 3, 1) := by decide +kernel
theorem dX12_runs_124 : decode cX12_runs 124 = .ok (.aload_n 0, 1) := by decide +kernel
theorem dX12_runs_125 : decode cX12_runs 125 = .ok (.getfield 9, 3) := by decide +kernel
theorem dX12_runs_128 : decode cX12_runs 128 = .ok (.iconst 0, 1) := by decide +kernel
theorem dX12_runs_129 : decode cX12_runs 129 = .ok (.iaload, 1) := by decide +kernel
theorem dX12_runs_130 : decode cX12_runs 130 = .ok (.if_icmp .ge 78, 3) := by decide +kernel
theorem dX12_runs_133 : decode cX12_runs 133 = .ok (.aload_n 0, 1) := by decide +kernel
theorem dX12_runs_134 : decode cX12_runs 134 = .ok (.iload_n 3, 1) := by decide +kernel
theorem dX12_runs_135 : decode cX12_runs 135 = .ok (.invokevirtual 301, 3) := by decide +kernel
theorem dX12_runs_138 : decode cX12_runs 138 = .ok (.iconst 0, 1) := by decide +kernel
theorem dX12_runs_139 : decode cX12_runs 139 = .ok (.istore 4, 2) := by decide +kernel
theorem dX12_runs_141 : decode cX12_runs 141 = .ok (.iload 4, 2) := by decide +kernel
theorem dX12_runs_143 : decode cX12_runs 143 = .ok (.aload_n 0, 1) := by decide +kernel
theorem dX12_runs_144 : decode cX12_runs 144 = .ok (.getfield 9, 3) := by decide +kernel
theorem dX12_runs_147 : decode cX12_runs 147 = .ok (.iconst 1, 1) := by decide +kernel
theorem dX12_runs_148 : decode cX12_runs 148 = .ok (.iaload, 1) := by decide +kernel
theorem dX12_runs_149 : decode cX12_runs 149 = .ok (.if_icmp .ge 16, 3) := by decide +kernel
theorem dX12_runs_152 : decode cX12_runs 152 = .ok (.aload_n 0, 1) := by decide +kernel
theorem dX12_runs_153 : decode cX12_runs 153 = .ok (.iload 4, 2) := by decide +kernel
theorem dX12_runs_155 : decode cX12_runs 155 = .ok (.iload_n 3, 1) := by decide +kernel
theorem dX12_runs_156 : decode cX12_runs 156 = .ok (.invokevirtual 304, 3) := by decide +kernel
theorem dX12_runs_159 : decode cX12_runs 159 = .ok (.iinc 4 1, 3) := by decide +kernel
theorem dX12_runs_162 : decode cX12_runs 162 = .ok (.goto (-21), 3) := by decide +kernel
theorem dX12_runs_165 : decode cX12_runs 165 = .ok (.iconst 0, 1) := by decide +kernel
theorem dX12_runs_166 : decode cX12_runs 166 = .ok (.istore 4, 2) := by decide +kernel
theorem dX12_runs_168 : decode cX12_runs 168 = .ok (.iload 4, 2) := by decide +kernel
theorem dX12_runs_170 : decode cX12_runs 170 = .ok (.aload_n 0, 1) := by decide +kernel
theorem dX12_runs_171 : decode cX12_runs 171 = .ok (.getfield 9, 3) := by decide +kernel
theorem dX12_runs_174 : decode cX12_runs 174 = .ok (.iconst 2, 1) := by decide +kernel
theorem dX12_runs_175 : decode cX12_runs 175 = .ok (.iaload, 1) := by decide +kernel
theorem dX12_runs_176 : decode cX12_runs 176 = .ok (.if_icmp .ge 26, 3) := by decide +kernel
theorem dX12_runs_179 : decode cX12_runs 179 = .ok (.aload_n 0, 1) := by decide +kernel
theorem dX12_runs_180 : decode cX12_runs 180 = .ok (.getfield 49, 3) := by decide +kernel
theorem dX12_runs_183 : decode cX12_runs 183 = .ok (.iload 4, 2) := by decide +kernel
theorem dX12_runs_185 : decode cX12_runs 185 = .ok (.iload_n 3, 1) := by decide +kernel
theorem dX12_runs_186 : decode cX12_runs 186 = .ok (.invokestatic 105, 3) := by decide +kernel
theorem dX12_runs_189 : decode cX12_runs 189 = .ok (.aload_n 0, 1) := by decide +kernel
theorem dX12_runs_190 : decode cX12_runs 190 = .ok (.iload 4, 2) := by decide +kernel
theorem dX12_runs_192 : decode cX12_runs 192 = .ok (.invokevirtual 285, 3) := by decide +kernel
theorem dX12_runs_195 : decode cX12_runs 195 = .ok (.iastore, 1) := by decide +kernel
theorem dX12_runs_196 : decode cX12_runs 196 = .ok (.iinc 4 1, 3) := by decide +kernel
theorem dX12_runs_199 : decode cX12_runs 199 = .ok (.goto (-31), 3) := by decide +kernel
theorem dX12_runs_202 : decode cX12_runs 202 = .ok (.iinc 3 1, 3) := by decide +kernel
theorem dX12_runs_205 : decode cX12_runs 205 = .ok (.goto (-82), 3) := by decide +kernel
theorem dX12_runs_208 : decode cX12_runs 208 = .ok (.return_, 1) := by decide +kernel
theorem dX12_price_0 : decode cX12_price 0 = .ok (.aload_n 0, 1) := by decide +kernel
theorem dX12_price_1 : decode cX12_price 1 = .ok (.iload_n 1, 1) := by decide +kernel
theorem dX12_price_2 : decode cX12_price 2 = .ok (.iload_n 2, 1) := by decide +kernel
theorem dX12_price_3 : decode cX12_price 3 = .ok (.invokevirtual 307, 3) := by decide +kernel
theorem dX12_price_6 : decode cX12_price 6 = .ok (.ifCond .eq 12, 3) := by decide +kernel
theorem dX12_price_9 : decode cX12_price 9 = .ok (.aload_n 0, 1) := by decide +kernel
theorem dX12_price_10 : decode cX12_price 10 = .ok (.iload_n 1, 1) := by decide +kernel
theorem dX12_price_11 : decode cX12_price 11 = .ok (.iload_n 2, 1) := by decide +kernel
theorem dX12_price_12 : decode cX12_price 12 = .ok (.invokevirtual 263, 3) := by decide +kernel
theorem dX12_price_15 : decode cX12_price 15 = .ok (.goto 5, 3) := by decide +kernel
theorem dX12_price_18 : decode cX12_price 18 = .ok (.bipush (-2), 2) := by decide +kernel
theorem dX12_price_20 : decode cX12_price 20 = .ok (.ireturn, 1) := by decide +kernel
theorem dX12_old_0 : decode cX12_old 0 = .ok (.aload_n 0, 1) := by decide +kernel
theorem dX12_old_1 : decode cX12_old 1 = .ok (.iload_n 1, 1) := by decide +kernel
theorem dX12_old_2 : decode cX12_old 2 = .ok (.iload_n 2, 1) := by decide +kernel
theorem dX12_old_3 : decode cX12_old 3 = .ok (.invokevirtual 307, 3) := by decide +kernel
theorem dX12_old_6 : decode cX12_old 6 = .ok (.ifCond .eq 19, 3) := by decide +kernel
theorem dX12_old_9 : decode cX12_old 9 = .ok (.aload_n 0, 1) := by decide +kernel
theorem dX12_old_10 : decode cX12_old 10 = .ok (.getfield 9, 3) := by decide +kernel
theorem dX12_old_13 : decode cX12_old 13 = .ok (.bipush 111, 2) := by decide +kernel
theorem dX12_old_15 : decode cX12_old 15 = .ok (.iload_n 1, 1) := by decide +kernel
theorem dX12_old_16 : decode cX12_old 16 = .ok (.iload_n 2, 1) := by decide +kernel
theorem dX12_old_17 : decode cX12_old 17 = .ok (.invokestatic 105, 3) := by decide +kernel
theorem dX12_old_20 : decode cX12_old 20 = .ok (.iadd, 1) := by decide +kernel
theorem dX12_old_21 : decode cX12_old 21 = .ok (.iaload, 1) := by decide +kernel
theorem dX12_old_22 : decode cX12_old 22 = .ok (.goto 5, 3) := by decide +kernel
theorem dX12_old_25 : decode cX12_old 25 = .ok (.bipush (-2), 2) := by decide +kernel
theorem dX12_old_27 : decode cX12_old 27 = .ok (.ireturn, 1) := by decide +kernel
theorem dX12_offered_0 : decode cX12_offered 0 = .ok (.aload_n 0, 1) := by decide +kernel
theorem dX12_offered_1 : decode cX12_offered 1 = .ok (.iload_n 1, 1) := by decide +kernel
theorem dX12_offered_2 : decode cX12_offered 2 = .ok (.iload_n 2, 1) := by decide +kernel
theorem dX12_offered_3 : decode cX12_offered 3 = .ok (.invokevirtual 307, 3) := by decide +kernel
theorem dX12_offered_6 : decode cX12_offered 6 = .ok (.ifCond .ne 6, 3) := by decide +kernel
theorem dX12_offered_9 : decode cX12_offered 9 = .ok (.bipush (-2), 2) := by decide +kernel
theorem dX12_offered_11 : decode cX12_offered 11 = .ok (.ireturn, 1) := by decide +kernel
theorem dX12_offered_12 : decode cX12_offered 12 = .ok (.aload_n 0, 1) := by decide +kernel
theorem dX12_offered_13 : decode cX12_offered 13 = .ok (.lconst 1, 1) := by decide +kernel
theorem dX12_offered_14 : decode cX12_offered 14 = .ok (.invokevirtual 311, 3) := by decide +kernel
theorem dX12_offered_17 : decode cX12_offered 17 = .ok (.aload_n 0, 1) := by decide +kernel
theorem dX12_offered_18 : decode cX12_offered 18 = .ok (.getfield 37, 3) := by decide +kernel
theorem dX12_offered_21 : decode cX12_offered 21 = .ok (.iload_n 1, 1) := by decide +kernel
theorem dX12_offered_22 : decode cX12_offered 22 = .ok (.iload_n 2, 1) := by decide +kernel
theorem dX12_offered_23 : decode cX12_offered 23 = .ok (.invokestatic 105, 3) := by decide +kernel
theorem dX12_offered_26 : decode cX12_offered 26 = .ok (.iaload, 1) := by decide +kernel
theorem dX12_offered_27 : decode cX12_offered 27 = .ok (.ireturn, 1) := by decide +kernel
theorem dX12_asked_0 : decode cX12_asked 0 = .ok (.aload_n 0, 1) := by decide +kernel
theorem dX12_asked_1 : decode cX12_asked 1 = .ok (.iload_n 1, 1) := by decide +kernel
theorem dX12_asked_2 : decode cX12_asked 2 = .ok (.iload_n 2, 1) := by decide +kernel
theorem dX12_asked_3 : decode cX12_asked 3 = .ok (.invokevirtual 307, 3) := by decide +kernel
theorem dX12_asked_6 : decode cX12_asked 6 = .ok (.ifCond .eq 12, 3) := by decide +kernel
theorem dX12_asked_9 : decode cX12_asked 9 = .ok (.aload_n 0, 1) := by decide +kernel
theorem dX12_asked_10 : decode cX12_asked 10 = .ok (.iload_n 1, 1) := by decide +kernel
theorem dX12_asked_11 : decode cX12_asked 11 = .ok (.iload_n 2, 1) := by decide +kernel
theorem dX12_asked_12 : decode cX12_asked 12 = .ok (.invokevirtual 288, 3) := by decide +kernel
theorem dX12_asked_15 : decode cX12_asked 15 = .ok (.goto 5, 3) := by decide +kernel
theorem dX12_asked_18 : decode cX12_asked 18 = .ok (.bipush (-2), 2) := by decide +kernel
theorem dX12_asked_20 : decode cX12_asked 20 = .ok (.ireturn, 1) := by decide +kernel
theorem dX12_sold_0 : decode cX12_sold 0 = .ok (.aload_n 0, 1) := by decide +kernel
theorem dX12_sold_1 : decode cX12_sold 1 = .ok (.iload_n 1, 1) := by decide +kernel
theorem dX12_sold_2 : decode cX12_sold 2 = .ok (.iload_n 2, 1) := by decide +kernel
theorem dX12_sold_3 : decode cX12_sold 3 = .ok (.invokevirtual 307, 3) := by decide +kernel
theorem dX12_sold_6 : decode cX12_sold 6 = .ok (.ifCond .ne 6, 3) := by decide +kernel
theorem dX12_sold_9 : decode cX12_sold 9 = .ok (.bipush (-2), 2) := by decide +kernel
theorem dX12_sold_11 : decode cX12_sold 11 = .ok (.ireturn, 1) := by decide +kernel
theorem dX12_sold_12 : decode cX12_sold 12 = .ok (.aload_n 0, 1) := by decide +kernel
theorem dX12_sold_13 : decode cX12_sold 13 = .ok (.lconst 1, 1) := by decide +kernel
theorem dX12_sold_14 : decode cX12_sold 14 = .ok (.invokevirtual 311, 3) := by decide +kernel
theorem dX12_sold_17 : decode cX12_sold 17 = .ok (.aload_n 0, 1) := by decide +kernel
theorem dX12_sold_18 : decode cX12_sold 18 = .ok (.getfield 43, 3) := by decide +kernel
theorem dX12_sold_21 : decode cX12_sold 21 = .ok (.iload_n 1, 1) := by decide +kernel
theorem dX12_sold_22 : decode cX12_sold 22 = .ok (.iload_n 2, 1) := by decide +kernel
theorem dX12_sold_23 : decode cX12_sold 23 = .ok (.invokestatic 105, 3) := by decide +kernel
theorem dX12_sold_26 : decode cX12_sold 26 = .ok (.iaload, 1) := by decide +kernel
theorem dX12_sold_27 : decode cX12_sold 27 = .ok (.ireturn, 1) := by decide +kernel
theorem dX12_allGets_0 : decode cX12_allGets 0 = .ok (.iconst 0, 1) := by decide +kernel
theorem dX12_allGets_1 : decode cX12_allGets 1 = .ok (.istore_n 2, 1) := by decide +kernel
theorem dX12_allGets_2 : decode cX12_allGets 2 = .ok (.iconst 0, 1) := by decide +kernel
theorem dX12_allGets_3 : decode cX12_allGets 3 = .ok (.istore_n 3, 1) := by decide +kernel
theorem dX12_allGets_4 : decode cX12_allGets 4 = .ok (.iload_n 3, 1) := by decide +kernel
theorem dX12_allGets_5 : decode cX12_allGets 5 = .ok (.aload_n 0, 1) := by decide +kernel
theorem dX12_allGets_6 : decode cX12_allGets 6 = .ok (.getfield 9, 3) := by decide +kernel
theorem dX12_allGets_9 : decode cX12_allGets 9 = .ok (.iconst 0, 1) := by decide +kernel
theorem dX12_allGets_10 : decode cX12_allGets 10 = .ok (.iaload, 1) := by decide +kernel
theorem dX12_allGets_11 : decode cX12_allGets 11 = .ok (.if_icmp .ge 22, 3) := by decide +kernel
theorem dX12_allGets_14 : decode cX12_allGets 14 = .ok (.iload_n 2, 1) := by decide +kernel
theorem dX12_allGets_15 : decode cX12_allGets 15 = .ok (.aload_n 0, 1) := by decide +kernel
theorem dX12_allGets_16 : decode cX12_allGets 16 = .ok (.getfield 46, 3) := by decide +kernel
theorem dX12_allGets_19 : decode cX12_allGets 19 = .ok (.iload_n 1, 1) := by decide +kernel
theorem dX12_allGets_20 : decode cX12_allGets 20 = .ok (.iload_n 3, 1) := by decide +kernel
theorem dX12_allGets_21 : decode cX12_allGets 21 = .ok (.invokestatic 105, 3) := by decide +kernel
theorem dX12_allGets_24 : decode cX12_allGets 24 = .ok (.iaload, 1) := by decide +kernel
theorem dX12_allGets_25 : decode cX12_allGets 25 = .ok (.iadd, 1) := by decide +kernel
theorem dX12_allGets_26 : decode cX12_allGets 26 = .ok (.istore_n 2, 1) := by decide +kernel
theorem dX12_allGets_27 : decode cX12_allGets 27 = .ok (.iinc 3 1, 3) := by decide +kernel
theorem dX12_allGets_30 : decode cX12_allGets 30 = .ok (.goto (-26), 3) := by decide +kernel
theorem dX12_allGets_33 : decode cX12_allGets 33 = .ok (.iload_n 2, 1) := by decide +kernel
theorem dX12_allGets_34 : decode cX12_allGets 34 = .ok (.ireturn, 1) := by decide +kernel
theorem dX12_bestDay_0 : decode cX12_bestDay 0 = .ok (.iconst 0, 1) := by decide +kernel
theorem dX12_bestDay_1 : decode cX12_bestDay 1 = .ok (.istore_n 2, 1) := by decide +kernel
theorem dX12_bestDay_2 : decode cX12_bestDay 2 = .ok (.iconst 1, 1) := by decide +kernel
theorem dX12_bestDay_3 : decode cX12_bestDay 3 = .ok (.istore_n 3, 1) := by decide +kernel
theorem dX12_bestDay_4 : decode cX12_bestDay 4 = .ok (.iload_n 3, 1) := by decide +kernel
theorem dX12_bestDay_5 : decode cX12_bestDay 5 = .ok (.aload_n 0, 1) := by decide +kernel
theorem dX12_bestDay_6 : decode cX12_bestDay 6 = .ok (.getfield 9, 3) := by decide +kernel
theorem dX12_bestDay_9 : decode cX12_bestDay 9 = .ok (.iconst 0, 1) := by decide +kernel
theorem dX12_bestDay_10 : decode cX12_bestDay 10 = .ok (.iaload, 1) := by decide +kernel
theorem dX12_bestDay_11 : decode cX12_bestDay 11 = .ok (.if_icmp .ge 38, 3) := by decide +kernel
theorem dX12_bestDay_14 : decode cX12_bestDay 14 = .ok (.aload_n 0, 1) := by decide +kernel
theorem dX12_bestDay_15 : decode cX12_bestDay 15 = .ok (.getfield 46, 3) := by decide +kernel
theorem dX12_bestDay_18 : decode cX12_bestDay 18 = .ok (.iload_n 1, 1) := by decide +kernel
theorem dX12_bestDay_19 : decode cX12_bestDay 19 = .ok (.iload_n 3, 1) := by decide +kernel
theorem dX12_bestDay_20 : decode cX12_bestDay 20 = .ok (.invokestatic 105, 3) := by decide +kernel
theorem dX12_bestDay_23 : decode cX12_bestDay 23 = .ok (.iaload, 1) := by decide +kernel
theorem dX12_bestDay_24 : decode cX12_bestDay 24 = .ok (.aload_n 0, 1) := by decide +kernel
theorem dX12_bestDay_25 : decode cX12_bestDay 25 = .ok (.getfield 46, 3) := by decide +kernel
theorem dX12_bestDay_28 : decode cX12_bestDay 28 = .ok (.iload_n 1, 1) := by decide +kernel
theorem dX12_bestDay_29 : decode cX12_bestDay 29 = .ok (.iload_n 2, 1) := by decide +kernel
theorem dX12_bestDay_30 : decode cX12_bestDay 30 = .ok (.invokestatic 105, 3) := by decide +kernel
theorem dX12_bestDay_33 : decode cX12_bestDay 33 = .ok (.iaload, 1) := by decide +kernel
theorem dX12_bestDay_34 : decode cX12_bestDay 34 = .ok (.if_icmp .le 7, 3) := by decide +kernel
theorem dX12_bestDay_37 : decode cX12_bestDay 37 = .ok (.iload_n 3, 1) := by decide +kernel
theorem dX12_bestDay_38 : decode cX12_bestDay 38 = .ok (.goto 4, 3) := by decide +kernel
theorem dX12_bestDay_41 : decode cX12_bestDay 41 = .ok (.iload_n 2, 1) := by decide +kernel
theorem dX12_bestDay_42 : decode cX12_bestDay 42 = .ok (.istore_n 2, 1) := by decide +kernel
theorem dX12_bestDay_43 : decode cX12_bestDay 43 = .ok (.iinc 3 1, 3) := by decide +kernel
theorem dX12_bestDay_46 : decode cX12_bestDay 46 = .ok (.goto (-42), 3) := by decide +kernel
theorem dX12_bestDay_49 : decode cX12_bestDay 49 = .ok (.aload_n 0, 1) := by decide +kernel
theorem dX12_bestDay_50 : decode cX12_bestDay 50 = .ok (.getfield 46, 3) := by decide +kernel
theorem dX12_bestDay_53 : decode cX12_bestDay 53 = .ok (.iload_n 1, 1) := by decide +kernel
theorem dX12_bestDay_54 : decode cX12_bestDay 54 = .ok (.iload_n 2, 1) := by decide +kernel
theorem dX12_bestDay_55 : decode cX12_bestDay 55 = .ok (.invokestatic 105, 3) := by decide +kernel
theorem dX12_bestDay_58 : decode cX12_bestDay 58 = .ok (.iaload, 1) := by decide +kernel
theorem dX12_bestDay_59 : decode cX12_bestDay 59 = .ok (.ifCond .ne 7, 3) := by decide +kernel
theorem dX12_bestDay_62 : decode cX12_bestDay 62 = .ok (.iconst (-1), 1) := by decide +kernel
theorem dX12_bestDay_63 : decode cX12_bestDay 63 = .ok (.goto 4, 3) := by decide +kernel
theorem dX12_bestDay_66 : decode cX12_bestDay 66 = .ok (.iload_n 2, 1) := by decide +kernel
theorem dX12_bestDay_67 : decode cX12_bestDay 67 = .ok (.ireturn, 1) := by decide +kernel
theorem dX12_seller_0 : decode cX12_seller 0 = .ok (.aload_n 0, 1) := by decide +kernel
theorem dX12_seller_1 : decode cX12_seller 1 = .ok (.iload_n 1, 1) := by decide +kernel
theorem dX12_seller_2 : decode cX12_seller 2 = .ok (.invokevirtual 315, 3) := by decide +kernel
theorem dX12_seller_5 : decode cX12_seller 5 = .ok (.ifCond .eq 15, 3) := by decide +kernel
theorem dX12_seller_8 : decode cX12_seller 8 = .ok (.iload_n 2, 1) := by decide +kernel
theorem dX12_seller_9 : decode cX12_seller 9 = .ok (.i2l, 1) := by decide +kernel
theorem dX12_seller_10 : decode cX12_seller 10 = .ok (.lconst 0, 1) := by decide +kernel
theorem dX12_seller_11 : decode cX12_seller 11 = .ok (.ldc2_w 319, 3) := by decide +kernel
theorem dX12_seller_14 : decode cX12_seller 14 = .ok (.invokestatic 94, 3) := by decide +kernel
theorem dX12_seller_17 : decode cX12_seller 17 = .ok (.ifCond .ne 6, 3) := by decide +kernel
theorem dX12_seller_20 : decode cX12_seller 20 = .ok (.bipush (-2), 2) := by decide +kernel
theorem dX12_seller_22 : decode cX12_seller 22 = .ok (.ireturn, 1) := by decide +kernel
theorem dX12_seller_23 : decode cX12_seller 23 = .ok (.aload_n 0, 1) := by decide +kernel
theorem dX12_seller_24 : decode cX12_seller 24 = .ok (.lconst 1, 1) := by decide +kernel
theorem dX12_seller_25 : decode cX12_seller 25 = .ok (.invokevirtual 311, 3) := by decide +kernel
theorem dX12_seller_28 : decode cX12_seller 28 = .ok (.iload_n 2, 1) := by decide +kernel
theorem dX12_seller_29 : decode cX12_seller 29 = .ok (.ifCond .ne 11, 3) := by decide +kernel
theorem dX12_seller_32 : decode cX12_seller 32 = .ok (.aload_n 0, 1) := by decide +kernel
theorem dX12_seller_33 : decode cX12_seller 33 = .ok (.iload_n 1, 1) := by decide +kernel
theorem dX12_seller_34 : decode cX12_seller 34 = .ok (.invokevirtual 321, 3) := by decide +kernel
theorem dX12_seller_37 : decode cX12_seller 37 = .ok (.goto 49, 3) := by decide +kernel
theorem dX12_seller_40 : decode cX12_seller 40 = .ok (.iload_n 2, 1) := by decide +kernel
theorem dX12_seller_41 : decode cX12_seller 41 = .ok (.iconst 1, 1) := by decide +kernel
theorem dX12_seller_42 : decode cX12_seller 42 = .ok (.if_icmp .ne 12, 3) := by decide +kernel
theorem dX12_seller_45 : decode cX12_seller 45 = .ok (.aload_n 0, 1) := by decide +kernel
theorem dX12_seller_46 : decode cX12_seller 46 = .ok (.getfield 52, 3) := by decide +kernel
theorem dX12_seller_49 : decode cX12_seller 49 = .ok (.iload_n 1, 1) := by decide +kernel
theorem dX12_seller_50 : decode cX12_seller 50 = .ok (.iaload, 1) := by decide +kernel
theorem dX12_seller_51 : decode cX12_seller 51 = .ok (.goto 35, 3) := by decide +kernel
theorem dX12_seller_54 : decode cX12_seller 54 = .ok (.iload_n 2, 1) := by decide +kernel
theorem dX12_seller_55 : decode cX12_seller 55 = .ok (.iconst 2, 1) := by decide +kernel
theorem dX12_seller_56 : decode cX12_seller 56 = .ok (.if_icmp .ne 12, 3) := by decide +kernel
theorem dX12_seller_59 : decode cX12_seller 59 = .ok (.aload_n 0, 1) := by decide +kernel
theorem dX12_seller_60 : decode cX12_seller 60 = .ok (.getfield 55, 3) := by decide +kernel
theorem dX12_seller_63 : decode cX12_seller 63 = .ok (.iload_n 1, 1) := by decide +kernel
theorem dX12_seller_64 : decode cX12_seller 64 = .ok (.iaload, 1) := by decide +kernel
theorem dX12_seller_65 : decode cX12_seller 65 = .ok (.goto 21, 3) := by decide +kernel
theorem dX12_seller_68 : decode cX12_seller 68 = .ok (.iload_n 2, 1) := by decide +kernel
theorem dX12_seller_69 : decode cX12_seller 69 = .ok (.iconst 3, 1) := by decide +kernel
theorem dX12_seller_70 : decode cX12_seller 70 = .ok (.if_icmp .ne 11, 3) := by decide +kernel
theorem dX12_seller_73 : decode cX12_seller 73 = .ok (.aload_n 0, 1) := by decide +kernel
theorem dX12_seller_74 : decode cX12_seller 74 = .ok (.iload_n 1, 1) := by decide +kernel
theorem dX12_seller_75 : decode cX12_seller 75 = .ok (.invokevirtual 285, 3) := by decide +kernel
theorem dX12_seller_78 : decode cX12_seller 78 = .ok (.goto 8, 3) := by decide +kernel
theorem dX12_seller_81 : decode cX12_seller 81 = .ok (.aload_n 0, 1) := by decide +kernel
theorem dX12_seller_82 : decode cX12_seller 82 = .ok (.iload_n 1, 1) := by decide +kernel
theorem dX12_seller_83 : decode cX12_seller 83 = .ok (.invokevirtual 324, 3) := by decide +kernel
theorem dX12_seller_86 : decode cX12_seller 86 = .ok (.ireturn, 1) := by decide +kernel
theorem dX12_gets_0 : decode cX12_gets 0 = .ok (.aload_n 0, 1) := by decide +kernel
theorem dX12_gets_1 : decode cX12_gets 1 = .ok (.iload_n 1, 1) := by decide +kernel
theorem dX12_gets_2 : decode cX12_gets 2 = .ok (.invokevirtual 315, 3) := by decide +kernel
theorem dX12_gets_5 : decode cX12_gets 5 = .ok (.ifCond .eq 12, 3) := by decide +kernel
theorem dX12_gets_8 : decode cX12_gets 8 = .ok (.aload_n 0, 1) := by decide +kernel
theorem dX12_gets_9 : decode cX12_gets 9 = .ok (.iload_n 2, 1) := by decide +kernel
theorem dX12_gets_10 : decode cX12_gets 10 = .ok (.i2l, 1) := by decide +kernel
theorem dX12_gets_11 : decode cX12_gets 11 = .ok (.invokevirtual 102, 3) := by decide +kernel
theorem dX12_gets_14 : decode cX12_gets 14 = .ok (.ifCond .ne 6, 3) := by decide +kernel
theorem dX12_gets_17 : decode cX12_gets 17 = .ok (.bipush (-2), 2) := by decide +kernel
theorem dX12_gets_19 : decode cX12_gets 19 = .ok (.ireturn, 1) := by decide +kernel
theorem dX12_gets_20 : decode cX12_gets 20 = .ok (.aload_n 0, 1) := by decide +kernel
theorem dX12_gets_21 : decode cX12_gets 21 = .ok (.lconst 1, 1) := by decide +kernel
theorem dX12_gets_22 : decode cX12_gets 22 = .ok (.invokevirtual 311, 3) := by decide +kernel
theorem dX12_gets_25 : decode cX12_gets 25 = .ok (.aload_n 0, 1) := by decide +kernel
theorem dX12_gets_26 : decode cX12_gets 26 = .ok (.getfield 46, 3) := by decide +kernel
theorem dX12_gets_29 : decode cX12_gets 29 = .ok (.iload_n 1, 1) := by decide +kernel
theorem dX12_gets_30 : decode cX12_gets 30 = .ok (.iload_n 2, 1) := by decide +kernel
theorem dX12_gets_31 : decode cX12_gets 31 = .ok (.invokestatic 105, 3) := by decide +kernel
theorem dX12_gets_34 : decode cX12_gets 34 = .ok (.iaload, 1) := by decide +kernel
theorem dX12_gets_35 : decode cX12_gets 35 = .ok (.ireturn, 1) := by decide +kernel
theorem dX12_stock_0 : decode cX12_stock 0 = .ok (.aload_n 0, 1) := by decide +kernel
theorem dX12_stock_1 : decode cX12_stock 1 = .ok (.iload_n 1, 1) := by decide +kernel
theorem dX12_stock_2 : decode cX12_stock 2 = .ok (.invokevirtual 315, 3) := by decide +kernel
theorem dX12_stock_5 : decode cX12_stock 5 = .ok (.ifCond .eq 12, 3) := by decide +kernel
theorem dX12_stock_8 : decode cX12_stock 8 = .ok (.aload_n 0, 1) := by decide +kernel
theorem dX12_stock_9 : decode cX12_stock 9 = .ok (.iload_n 2, 1) := by decide +kernel
theorem dX12_stock_10 : decode cX12_stock 10 = .ok (.i2l, 1) := by decide +kernel
theorem dX12_stock_11 : decode cX12_stock 11 = .ok (.invokevirtual 102, 3) := by decide +kernel
theorem dX12_stock_14 : decode cX12_stock 14 = .ok (.ifCond .ne 6, 3) := by decide +kernel
theorem dX12_stock_17 : decode cX12_stock 17 = .ok (.bipush (-2), 2) := by decide +kernel
theorem dX12_stock_19 : decode cX12_stock 19 = .ok (.ireturn, 1) := by decide +kernel
theorem dX12_stock_20 : decode cX12_stock 20 = .ok (.aload_n 0, 1) := by decide +kernel
theorem dX12_stock_21 : decode cX12_stock 21 = .ok (.lconst 1, 1) := by decide +kernel
theorem dX12_stock_22 : decode cX12_stock 22 = .ok (.invokevirtual 311, 3) := by decide +kernel
theorem dX12_stock_25 : decode cX12_stock 25 = .ok (.aload_n 0, 1) := by decide +kernel
theorem dX12_stock_26 : decode cX12_stock 26 = .ok (.getfield 49, 3) := by decide +kernel
theorem dX12_stock_29 : decode cX12_stock 29 = .ok (.iload_n 1, 1) := by decide +kernel
theorem dX12_stock_30 : decode cX12_stock 30 = .ok (.iload_n 2, 1) := by decide +kernel
theorem dX12_stock_31 : decode cX12_stock 31 = .ok (.invokestatic 105, 3) := by decide +kernel
theorem dX12_stock_34 : decode cX12_stock 34 = .ok (.iaload, 1) := by decide +kernel
theorem dX12_stock_35 : decode cX12_stock 35 = .ok (.ireturn, 1) := by decide +kernel
theorem dX12_buyer_0 : decode cX12_buyer 0 = .ok (.aload_n 0, 1) := by decide +kernel
theorem dX12_buyer_1 : decode cX12_buyer 1 = .ok (.iload_n 1, 1) := by decide +kernel
theorem dX12_buyer_2 : decode cX12_buyer 2 = .ok (.invokevirtual 327, 3) := by decide +kernel
theorem dX12_buyer_5 : decode cX12_buyer 5 = .ok (.ifCond .eq 15, 3) := by decide +kernel
theorem dX12_buyer_8 : decode cX12_buyer 8 = .ok (.iload_n 2, 1) := by decide +kernel
theorem dX12_buyer_9 : decode cX12_buyer 9 = .ok (.i2l, 1) := by decide +kernel
theorem dX12_buyer_10 : decode cX12_buyer 10 = .ok (.lconst 0, 1) := by decide +kernel
theorem dX12_buyer_11 : decode cX12_buyer 11 = .ok (.ldc2_w 92, 3) := by decide +kernel
theorem dX12_buyer_14 : decode cX12_buyer 14 = .ok (.invokestatic 94, 3) := by decide +kernel
theorem dX12_buyer_17 : decode cX12_buyer 17 = .ok (.ifCond .ne 6, 3) := by decide +kernel
theorem dX12_buyer_20 : decode cX12_buyer 20 = .ok (.bipush (-2), 2) := by decide +kernel
theorem dX12_buyer_22 : decode cX12_buyer 22 = .ok (.ireturn, 1) := by decide +kernel
theorem dX12_buyer_23 : decode cX12_buyer 23 = .ok (.aload_n 0, 1) := by decide +kernel
theorem dX12_buyer_24 : decode cX12_buyer 24 = .ok (.lconst 1, 1) := by decide +kernel
theorem dX12_buyer_25 : decode cX12_buyer 25 = .ok (.invokevirtual 311, 3) := by decide +kernel
theorem dX12_buyer_28 : decode cX12_buyer 28 = .ok (.iload_n 2, 1) := by decide +kernel
theorem dX12_buyer_29 : decode cX12_buyer 29 = .ok (.ifCond .ne 12, 3) := by decide +kernel
theorem dX12_buyer_32 : decode cX12_buyer 32 = .ok (.aload_n 0, 1) := by decide +kernel
theorem dX12_buyer_33 : decode cX12_buyer 33 = .ok (.getfield 58, 3) := by decide +kernel
theorem dX12_buyer_36 : decode cX12_buyer 36 = .ok (.iload_n 1, 1) := by decide +kernel
theorem dX12_buyer_37 : decode cX12_buyer 37 = .ok (.iaload, 1) := by decide +kernel
theorem dX12_buyer_38 : decode cX12_buyer 38 = .ok (.goto 46, 3) := by decide +kernel
theorem dX12_buyer_41 : decode cX12_buyer 41 = .ok (.iload_n 2, 1) := by decide +kernel
theorem dX12_buyer_42 : decode cX12_buyer 42 = .ok (.iconst 1, 1) := by decide +kernel
theorem dX12_buyer_43 : decode cX12_buyer 43 = .ok (.if_icmp .ne 12, 3) := by decide +kernel
theorem dX12_buyer_46 : decode cX12_buyer 46 = .ok (.aload_n 0, 1) := by decide +kernel
theorem dX12_buyer_47 : decode cX12_buyer 47 = .ok (.getfield 61, 3) := by decide +kernel
theorem dX12_buyer_50 : decode cX12_buyer 50 = .ok (.iload_n 1, 1) := by decide +kernel
theorem dX12_buyer_51 : decode cX12_buyer 51 = .ok (.iaload, 1) := by decide +kernel
theorem dX12_buyer_52 : decode cX12_buyer 52 = .ok (.goto 32, 3) := by decide +kernel
theorem dX12_buyer_55 : decode cX12_buyer 55 = .ok (.aload_n 0, 1) := by decide +kernel
theorem dX12_buyer_56 : decode cX12_buyer 56 = .ok (.iload_n 1, 1) := by decide +kernel
theorem dX12_buyer_57 : decode cX12_buyer 57 = .ok (.iconst 1, 1) := by decide +kernel
theorem dX12_buyer_58 : decode cX12_buyer 58 = .ok (.invokevirtual 260, 3) := by decide +kernel
theorem dX12_buyer_61 : decode cX12_buyer 61 = .ok (.aload_n 0, 1) := by decide +kernel
theorem dX12_buyer_62 : decode cX12_buyer 62 = .ok (.iload_n 1, 1) := by decide +kernel
theorem dX12_buyer_63 : decode cX12_buyer 63 = .ok (.iconst 4, 1) := by decide +kernel
theorem dX12_buyer_64 : decode cX12_buyer 64 = .ok (.invokevirtual 260, 3) := by decide +kernel
theorem dX12_buyer_67 : decode cX12_buyer 67 = .ok (.aload_n 0, 1) := by decide +kernel
theorem dX12_buyer_68 : decode cX12_buyer 68 = .ok (.iload_n 1, 1) := by decide +kernel
theorem dX12_buyer_69 : decode cX12_buyer 69 = .ok (.iconst 3, 1) := by decide +kernel
theorem dX12_buyer_70 : decode cX12_buyer 70 = .ok (.invokevirtual 260, 3) := by decide +kernel
theorem dX12_buyer_73 : decode cX12_buyer 73 = .ok (.isub, 1) := by decide +kernel
theorem dX12_buyer_74 : decode cX12_buyer 74 = .ok (.iconst 1, 1) := by decide +kernel
theorem dX12_buyer_75 : decode cX12_buyer 75 = .ok (.iadd, 1) := by decide +kernel
theorem dX12_buyer_76 : decode cX12_buyer 76 = .ok (.imul, 1) := by decide +kernel
theorem dX12_buyer_77 : decode cX12_buyer 77 = .ok (.aload_n 0, 1) := by decide +kernel
theorem dX12_buyer_78 : decode cX12_buyer 78 = .ok (.getfield 61, 3) := by decide +kernel
theorem dX12_buyer_81 : decode cX12_buyer 81 = .ok (.iload_n 1, 1) := by decide +kernel
theorem dX12_buyer_82 : decode cX12_buyer 82 = .ok (.iaload, 1) := by decide +kernel
theorem dX12_buyer_83 : decode cX12_buyer 83 = .ok (.isub, 1) := by decide +kernel
theorem dX12_buyer_84 : decode cX12_buyer 84 = .ok (.ireturn, 1) := by decide +kernel
theorem dX12_moneyOn_0 : decode cX12_moneyOn 0 = .ok (.iconst 0, 1) := by decide +kernel
theorem dX12_moneyOn_1 : decode cX12_moneyOn 1 = .ok (.istore_n 2, 1) := by decide +kernel
theorem dX12_moneyOn_2 : decode cX12_moneyOn 2 = .ok (.iconst 0, 1) := by decide +kernel
theorem dX12_moneyOn_3 : decode cX12_moneyOn 3 = .ok (.istore_n 3, 1) := by decide +kernel
theorem dX12_moneyOn_4 : decode cX12_moneyOn 4 = .ok (.iload_n 3, 1) := by decide +kernel
theorem dX12_moneyOn_5 : decode cX12_moneyOn 5 = .ok (.aload_n 0, 1) := by decide +kernel
theorem dX12_moneyOn_6 : decode cX12_moneyOn 6 = .ok (.getfield 9, 3) := by decide +kernel
theorem dX12_moneyOn_9 : decode cX12_moneyOn 9 = .ok (.iconst 2, 1) := by decide +kernel
theorem dX12_moneyOn_10 : decode cX12_moneyOn 10 = .ok (.iaload, 1) := by decide +kernel
theorem dX12_moneyOn_11 : decode cX12_moneyOn 11 = .ok (.if_icmp .ge 22, 3) := by decide +kernel
theorem dX12_moneyOn_14 : decode cX12_moneyOn 14 = .ok (.iload_n 2, 1) := by decide +kernel
theorem dX12_moneyOn_15 : decode cX12_moneyOn 15 = .ok (.aload_n 0, 1) := by decide +kernel
theorem dX12_moneyOn_16 : decode cX12_moneyOn 16 = .ok (.getfield 46, 3) := by decide +kernel
theorem dX12_moneyOn_19 : decode cX12_moneyOn 19 = .ok (.iload_n 3, 1) := by decide +kernel
theorem dX12_moneyOn_20 : decode cX12_moneyOn 20 = .ok (.iload_n 1, 1) := by decide +kernel
theorem dX12_moneyOn_21 : decode cX12_moneyOn 21 = .ok (.invokestatic 105, 3) := by decide +kernel
theorem dX12_moneyOn_24 : decode cX12_moneyOn 24 = .ok (.iaload, 1) := by decide +kernel
theorem dX12_moneyOn_25 : decode cX12_moneyOn 25 = .ok (.iadd, 1) := by decide +kernel
theorem dX12_moneyOn_26 : decode cX12_moneyOn 26 = .ok (.istore_n 2, 1) := by decide +kernel
theorem dX12_moneyOn_27 : decode cX12_moneyOn 27 = .ok (.iinc 3 1, 3) := by decide +kernel
theorem dX12_moneyOn_30 : decode cX12_moneyOn 30 = .ok (.goto (-26), 3) := by decide +kernel
theorem dX12_moneyOn_33 : decode cX12_moneyOn 33 = .ok (.iload_n 2, 1) := by decide +kernel
theorem dX12_moneyOn_34 : decode cX12_moneyOn 34 = .ok (.ireturn, 1) := by decide +kernel
theorem dX12_soldOn_0 : decode cX12_soldOn 0 = .ok (.iconst 0, 1) := by decide +kernel
theorem dX12_soldOn_1 : decode cX12_soldOn 1 = .ok (.istore_n 2, 1) := by decide +kernel
theorem dX12_soldOn_2 : decode cX12_soldOn 2 = .ok (.iconst 0, 1) := by decide +kernel
theorem dX12_soldOn_3 : decode cX12_soldOn 3 = .ok (.istore_n 3, 1) := by decide +kernel
theorem dX12_soldOn_4 : decode cX12_soldOn 4 = .ok (.iload_n 3, 1) := by decide +kernel
theorem dX12_soldOn_5 : decode cX12_soldOn 5 = .ok (.aload_n 0, 1) := by decide +kernel
theorem dX12_soldOn_6 : decode cX12_soldOn 6 = .ok (.getfield 9, 3) := by decide +kernel
theorem dX12_soldOn_9 : decode cX12_soldOn 9 = .ok (.iconst 1, 1) := by decide +kernel
theorem dX12_soldOn_10 : decode cX12_soldOn 10 = .ok (.iaload, 1) := by decide +kernel
theorem dX12_soldOn_11 : decode cX12_soldOn 11 = .ok (.if_icmp .ge 22, 3) := by decide +kernel
theorem dX12_soldOn_14 : decode cX12_soldOn 14 = .ok (.iload_n 2, 1) := by decide +kernel
theorem dX12_soldOn_15 : decode cX12_soldOn 15 = .ok (.aload_n 0, 1) := by decide +kernel
theorem dX12_soldOn_16 : decode cX12_soldOn 16 = .ok (.getfield 43, 3) := by decide +kernel
theorem dX12_soldOn_19 : decode cX12_soldOn 19 = .ok (.iload_n 3, 1) := by decide +kernel
theorem dX12_soldOn_20 : decode cX12_soldOn 20 = .ok (.iload_n 1, 1) := by decide +kernel
theorem dX12_soldOn_21 : decode cX12_soldOn 21 = .ok (.invokestatic 105, 3) := by decide +kernel
theorem dX12_soldOn_24 : decode cX12_soldOn 24 = .ok (.iaload, 1) := by decide +kernel
theorem dX12_soldOn_25 : decode cX12_soldOn 25 = .ok (.iadd, 1) := by decide +kernel
theorem dX12_soldOn_26 : decode cX12_soldOn 26 = .ok (.istore_n 2, 1) := by decide +kernel
theorem dX12_soldOn_27 : decode cX12_soldOn 27 = .ok (.iinc 3 1, 3) := by decide +kernel
theorem dX12_soldOn_30 : decode cX12_soldOn 30 = .ok (.goto (-26), 3) := by decide +kernel
theorem dX12_soldOn_33 : decode cX12_soldOn 33 = .ok (.iload_n 2, 1) := by decide +kernel
theorem dX12_soldOn_34 : decode cX12_soldOn 34 = .ok (.ireturn, 1) := by decide +kernel
theorem dX12_rich_0 : decode cX12_rich 0 = .ok (.aload_n 0, 1) := by decide +kernel
theorem dX12_rich_1 : decode cX12_rich 1 = .ok (.invokevirtual 330, 3) := by decide +kernel
theorem dX12_rich_4 : decode cX12_rich 4 = .ok (.ifCond .eq 15, 3) := by decide +kernel
theorem dX12_rich_7 : decode cX12_rich 7 = .ok (.iload_n 1, 1) := by decide +kernel
theorem dX12_rich_8 : decode cX12_rich 8 = .ok (.i2l, 1) := by decide +kernel
theorem dX12_rich_9 : decode cX12_rich 9 = .ok (.lconst 0, 1) := by decide +kernel
theorem dX12_rich_10 : decode cX12_rich 10 = .ok (.ldc2_w 333, 3) := by decide +kernel
theorem dX12_rich_13 : decode cX12_rich 13 = .ok (.invokestatic 94, 3) := by decide +kernel
theorem dX12_rich_16 : decode cX12_rich 16 = .ok (.ifCond .ne 6, 3) := by decide +kernel
theorem dX12_rich_19 : decode cX12_rich 19 = .ok (.bipush (-2), 2) := by decide +kernel
theorem dX12_rich_21 : decode cX12_rich 21 = .ok (.ireturn, 1) := by decide +kernel
theorem dX12_rich_22 : decode cX12_rich 22 = .ok (.aload_n 0, 1) := by decide +kernel
theorem dX12_rich_23 : decode cX12_rich 23 = .ok (.lconst 1, 1) := by decide +kernel
theorem dX12_rich_24 : decode cX12_rich 24 = .ok (.invokevirtual 311, 3) := by decide +kernel
theorem dX12_rich_27 : decode cX12_rich 27 = .ok (.iconst 0, 1) := by decide +kernel
theorem dX12_rich_28 : decode cX12_rich 28 = .ok (.istore_n 2, 1) := by decide +kernel
theorem dX12_rich_29 : decode cX12_rich 29 = .ok (.iconst 0, 1) := by decide +kernel
theorem dX12_rich_30 : decode cX12_rich 30 = .ok (.istore_n 3, 1) := by decide +kernel
theorem dX12_rich_31 : decode cX12_rich 31 = .ok (.iconst 0, 1) := by decide +kernel
theorem dX12_rich_32 : decode cX12_rich 32 = .ok (.istore 4, 2) := by decide +kernel
theorem dX12_rich_34 : decode cX12_rich 34 = .ok (.iload 4, 2) := by decide +kernel
theorem dX12_rich_36 : decode cX12_rich 36 = .ok (.aload_n 0, 1) := by decide +kernel
theorem dX12_rich_37 : decode cX12_rich 37 = .ok (.getfield 9, 3) := by decide +kernel
theorem dX12_rich_40 : decode cX12_rich 40 = .ok (.iconst 0, 1) := by decide +kernel
theorem dX12_rich_41 : decode cX12_rich 41 = .ok (.iaload, 1) := by decide +kernel
theorem dX12_rich_42 : decode cX12_rich 42 = .ok (.if_icmp .ge 47, 3) := by decide +kernel
theorem dX12_rich_45 : decode cX12_rich 45 = .ok (.aload_n 0, 1) := by decide +kernel
theorem dX12_rich_46 : decode cX12_rich 46 = .ok (.iload 4, 2) := by decide +kernel
theorem dX12_rich_48 : decode cX12_rich 48 = .ok (.invokevirtual 335, 3) := by decide +kernel
theorem dX12_rich_51 : decode cX12_rich 51 = .ok (.aload_n 0, 1) := by decide +kernel
theorem dX12_rich_52 : decode cX12_rich 52 = .ok (.iload_n 2, 1) := by decide +kernel
theorem dX12_rich_53 : decode cX12_rich 53 = .ok (.invokevirtual 335, 3) := by decide +kernel
theorem dX12_rich_56 : decode cX12_rich 56 = .ok (.if_icmp .le 8, 3) := by decide +kernel
theorem dX12_rich_59 : decode cX12_rich 59 = .ok (.iload 4, 2) := by decide +kernel
theorem dX12_rich_61 : decode cX12_rich 61 = .ok (.goto 4, 3) := by decide +kernel
theorem dX12_rich_64 : decode cX12_rich 64 = .ok (.iload_n 2, 1) := by decide +kernel
theorem dX12_rich_65 : decode cX12_rich 65 = .ok (.istore_n 2, 1) := by decide +kernel
theorem dX12_rich_66 : decode cX12_rich 66 = .ok (.iload_n 3, 1) := by decide +kernel
theorem dX12_rich_67 : decode cX12_rich 67 = .ok (.aload_n 0, 1) := by decide +kernel
theorem dX12_rich_68 : decode cX12_rich 68 = .ok (.iload 4, 2) := by decide +kernel
theorem dX12_rich_70 : decode cX12_rich 70 = .ok (.invokevirtual 338, 3) := by decide +kernel
theorem dX12_rich_73 : decode cX12_rich 73 = .ok (.ifCond .ne 7, 3) := by decide +kernel
theorem dX12_rich_76 : decode cX12_rich 76 = .ok (.iconst 1, 1) := by decide +kernel
theorem dX12_rich_77 : decode cX12_rich 77 = .ok (.goto 4, 3) := by decide +kernel
theorem dX12_rich_80 : decode cX12_rich 80 = .ok (.iconst 0, 1) := by decide +kernel
theorem dX12_rich_81 : decode cX12_rich 81 = .ok (.iadd, 1) := by decide +kernel
theorem dX12_rich_82 : decode cX12_rich 82 = .ok (.istore_n 3, 1) := by decide +kernel
theorem dX12_rich_83 : decode cX12_rich 83 = .ok (.iinc 4 1, 3) := by decide +kernel
theorem dX12_rich_86 : decode cX12_rich 86 = .ok (.goto (-52), 3) := by decide +kernel
theorem dX12_rich_89 : decode cX12_rich 89 = .ok (.iload_n 1, 1) := by decide +kernel
theorem dX12_rich_90 : decode cX12_rich 90 = .ok (.ifCond .ne 21, 3) := by decide +kernel
theorem dX12_rich_93 : decode cX12_rich 93 = .ok (.iload_n 3, 1) := by decide +kernel
theorem dX12_rich_94 : decode cX12_rich 94 = .ok (.aload_n 0, 1) := by decide +kernel
theorem dX12_rich_95 : decode cX12_rich 95 = .ok (.getfield 9, 3) := by decide +kernel
theorem dX12_rich_98 : decode cX12_rich 98 = .ok (.iconst 0, 1) := by decide +kernel
theorem dX12_rich_99 : decode cX12_rich 99 = .ok (.iaload, 1) := by decide +kernel
theorem dX12_rich_100 : decode cX12_rich 100 = .ok (.if_icmp .ne 7, 3) := by decide +kernel
theorem dX12_rich_103 : decode cX12_rich 103 = .ok (.iconst (-1), 1) := by decide +kernel
theorem dX12_rich_104 : decode cX12_rich 104 = .ok (.goto 33, 3) := by decide +kernel
theorem dX12_rich_107 : decode cX12_rich 107 = .ok (.iload_n 2, 1) := by decide +kernel
theorem dX12_rich_108 : decode cX12_rich 108 = .ok (.goto 29, 3) := by decide +kernel
theorem dX12_rich_111 : decode cX12_rich 111 = .ok (.iload_n 1, 1) := by decide +kernel
theorem dX12_rich_112 : decode cX12_rich 112 = .ok (.iconst 1, 1) := by decide +kernel
theorem dX12_rich_113 : decode cX12_rich 113 = .ok (.if_icmp .ne 11, 3) := by decide +kernel
theorem dX12_rich_116 : decode cX12_rich 116 = .ok (.aload_n 0, 1) := by decide +kernel
theorem dX12_rich_117 : decode cX12_rich 117 = .ok (.iload_n 2, 1) := by decide +kernel
theorem dX12_rich_118 : decode cX12_rich 118 = .ok (.invokevirtual 335, 3) := by decide +kernel
theorem dX12_rich_121 : decode cX12_rich 121 = .ok (.goto 16, 3) := by decide +kernel
theorem dX12_rich_124 : decode cX12_rich 124 = .ok (.iload_n 1, 1) := by decide +kernel
theorem dX12_rich_125 : decode cX12_rich 125 = .ok (.iconst 2, 1) := by decide +kernel
theorem dX12_rich_126 : decode cX12_rich 126 = .ok (.if_icmp .ne 7, 3) := by decide +kernel
theorem dX12_rich_129 : decode cX12_rich 129 = .ok (.iload_n 3, 1) := by decide +kernel
theorem dX12_rich_130 : decode cX12_rich 130 = .ok (.goto 7, 3) := by decide +kernel
theorem dX12_rich_133 : decode cX12_rich 133 = .ok (.aload_n 0, 1) := by decide +kernel
theorem dX12_rich_134 : decode cX12_rich 134 = .ok (.getfield 291, 3) := by decide +kernel
theorem dX12_rich_137 : decode cX12_rich 137 = .ok (.ireturn, 1) := by decide +kernel
theorem dX12_canFill_0 : decode cX12_canFill 0 = .ok (.aload_n 0, 1) := by decide +kernel
theorem dX12_canFill_1 : decode cX12_canFill 1 = .ok (.aload_n 0, 1) := by decide +kernel
theorem dX12_canFill_2 : decode cX12_canFill 2 = .ok (.iload_n 1, 1) := by decide +kernel
theorem dX12_canFill_3 : decode cX12_canFill 3 = .ok (.invokevirtual 270, 3) := by decide +kernel
theorem dX12_canFill_6 : decode cX12_canFill 6 = .ok (.invokevirtual 273, 3) := by decide +kernel
theorem dX12_canFill_9 : decode cX12_canFill 9 = .ok (.istore_n 2, 1) := by decide +kernel
theorem dX12_canFill_10 : decode cX12_canFill 10 = .ok (.iconst 0, 1) := by decide +kernel
theorem dX12_canFill_11 : decode cX12_canFill 11 = .ok (.istore_n 3, 1) := by decide +kernel
theorem dX12_canFill_12 : decode cX12_canFill 12 = .ok (.iload_n 3, 1) := by decide +kernel
theorem dX12_canFill_13 : decode cX12_canFill 13 = .ok (.aload_n 0, 1) := by decide +kernel
theorem dX12_canFill_14 : decode cX12_canFill 14 = .ok (.getfield 9, 3) := by decide +kernel
theorem dX12_canFill_17 : decode cX12_canFill 17 = .ok (.iconst 0, 1) := by decide +kernel
theorem dX12_canFill_18 : decode cX12_canFill 18 = .ok (.iaload, 1) := by decide +kernel
theorem dX12_canFill_19 : decode cX12_canFill 19 = .ok (.if_icmp .ge 21, 3) := by decide +kernel
theorem dX12_canFill_22 : decode cX12_canFill 22 = .ok (.aload_n 0, 1) := by decide +kernel
theorem dX12_canFill_23 : decode cX12_canFill 23 = .ok (.getfield 73, 3) := by decide +kernel
theorem dX12_canFill_26 : decode cX12_canFill 26 = .ok (.iload_n 3, 1) := by decide +kernel
theorem dX12_canFill_27 : decode cX12_canFill 27 = .ok (.aload_n 0, 1) := by decide +kernel
theorem dX12_canFill_28 : decode cX12_canFill 28 = .ok (.iload_n 1, 1) := by decide +kernel
theorem dX12_canFill_29 : decode cX12_canFill 29 = .ok (.iload_n 3, 1) := by decide +kernel
theorem dX12_canFill_30 : decode cX12_canFill 30 = .ok (.invokevirtual 276, 3) := by decide +kernel
theorem dX12_canFill_33 : decode cX12_canFill 33 = .ok (.iastore, 1) := by decide +kernel
theorem dX12_canFill_34 : decode cX12_canFill 34 = .ok (.iinc 3 1, 3) := by decide +kernel
theorem dX12_canFill_37 : decode cX12_canFill 37 = .ok (.goto (-25), 3) := by decide +kernel
theorem dX12_canFill_40 : decode cX12_canFill 40 = .ok (.iconst 0, 1) := by decide +kernel
theorem dX12_canFill_41 : decode cX12_canFill 41 = .ok (.istore_n 3, 1) := by decide +kernel
theorem dX12_canFill_42 : decode cX12_canFill 42 = .ok (.iload_n 3, 1) := by decide +kernel
theorem dX12_canFill_43 : decode cX12_canFill 43 = .ok (.aload_n 0, 1) := by decide +kernel
theorem dX12_canFill_44 : decode cX12_canFill 44 = .ok (.getfield 9, 3) := by decide +kernel
theorem dX12_canFill_47 : decode cX12_canFill 47 = .ok (.iconst 0, 1) := by decide +kernel
theorem dX12_canFill_48 : decode cX12_canFill 48 = .ok (.iaload, 1) := by decide +kernel
theorem dX12_canFill_49 : decode cX12_canFill 49 = .ok (.if_icmp .ge 83, 3) := by decide +kernel
theorem dX12_canFill_52 : decode cX12_canFill 52 = .ok (.aload_n 0, 1) := by decide +kernel
theorem dX12_canFill_53 : decode cX12_canFill 53 = .ok (.getfield 70, 3) := by decide +kernel
theorem dX12_canFill_56 : decode cX12_canFill 56 = .ok (.iload_n 3, 1) := by decide +kernel
theorem dX12_canFill_57 : decode cX12_canFill 57 = .ok (.iaload, 1) := by decide +kernel
theorem dX12_canFill_58 : decode cX12_canFill 58 = .ok (.istore 4, 2) := by decide +kernel
theorem dX12_canFill_60 : decode cX12_canFill 60 = .ok (.iconst 0, 1) := by decide +kernel
theorem dX12_canFill_61 : decode cX12_canFill 61 = .ok (.iload_n 3, 1) := by decide +kernel
theorem dX12_canFill_62 : decode cX12_canFill 62 = .ok (.iload_n 2, 1) := by decide +kernel
theorem dX12_canFill_63 : decode cX12_canFill 63 = .ok (.isub, 1) := by decide +kernel
theorem dX12_canFill_64 : decode cX12_canFill 64 = .ok (.invokestatic 341, 3) := by decide +kernel
theorem dX12_canFill_67 : decode cX12_canFill 67 = .ok (.istore 5, 2) := by decide +kernel
theorem dX12_canFill_69 : decode cX12_canFill 69 = .ok (.iload 5, 2) := by decide +kernel
theorem dX12_canFill_71 : decode cX12_canFill 71 = .ok (.iload_n 3, 1) := by decide +kernel
theorem dX12_canFill_72 : decode cX12_canFill 72 = .ok (.if_icmp .gt 47, 3) := by decide +kernel
theorem dX12_canFill_75 : decode cX12_canFill 75 = .ok (.iload 4, 2) := by decide +kernel
theorem dX12_canFill_77 : decode cX12_canFill 77 = .ok (.ifCond .le 42, 3) := by decide +kernel
theorem dX12_canFill_80 : decode cX12_canFill 80 = .ok (.iload 4, 2) := by decide +kernel
theorem dX12_canFill_82 : decode cX12_canFill 82 = .ok (.aload_n 0, 1) := by decide +kernel
theorem dX12_canFill_83 : decode cX12_canFill 83 = .ok (.getfield 73, 3) := by decide +kernel
theorem dX12_canFill_86 : decode cX12_canFill 86 = .ok (.iload 5, 2) := by decide +kernel
theorem dX12_canFill_88 : decode cX12_canFill 88 = .ok (.iaload, 1) := by decide +kernel
theorem dX12_canFill_89 : decode cX12_canFill 89 = .ok (.invokestatic 142, 3) := by decide +kernel
theorem dX12_canFill_92 : decode cX12_canFill 92 = .ok (.istore 6, 2) := by decide +kernel
theorem dX12_canFill_94 : decode cX12_canFill 94 = .ok (.aload_n 0, 1) := by decide +kernel
theorem dX12_canFill_95 : decode cX12_canFill 95 = .ok (.getfield 73, 3) := by decide +kernel
theorem dX12_canFill_98 : decode cX12_canFill 98 = .ok (.iload 5, 2) := by decide +kernel
theorem dX12_canFill_100 : decode cX12_canFill 100 = .ok (.dup2, 1) := by decide +kernel
theorem dX12_canFill_101 : decode cX12_canFill 101 = .ok (.iaload, 1) := by decide +kernel
theorem dX12_canFill_102 : decode cX12_canFill 102 = .ok (.iload 6, 2) := by decide +kernel
theorem dX12_canFill_104 : decode cX12_canFill 104 = .ok (.isub, 1) := by decide +kernel
theorem dX12_canFill_105 : decode cX12_canFill 105 = .ok (.iastore, 1) := by decide +kernel
theorem dX12_canFill_106 : decode cX12_canFill 106 = .ok (.iload 4, 2) := by decide +kernel
theorem dX12_canFill_108 : decode cX12_canFill 108 = .ok (.iload 6, 2) := by decide +kernel
theorem dX12_canFill_110 : decode cX12_canFill 110 = .ok (.isub, 1) := by decide +kernel
theorem dX12_canFill_111 : decode cX12_canFill 111 = .ok (.istore 4, 2) := by decide +kernel
theorem dX12_canFill_113 : decode cX12_canFill 113 = .ok (.iinc 5 1, 3) := by decide +kernel
theorem dX12_canFill_116 : decode cX12_canFill 116 = .ok (.goto (-47), 3) := by decide +kernel
theorem dX12_canFill_119 : decode cX12_canFill 119 = .ok (.iload 4, 2) := by decide +kernel
theorem dX12_canFill_121 : decode cX12_canFill 121 = .ok (.ifCond .le 5, 3) := by decide +kernel
theorem dX12_canFill_124 : decode cX12_canFill 124 = .ok (.iconst 0, 1) := by decide +kernel
theorem dX12_canFill_125 : decode cX12_canFill 125 = .ok (.ireturn, 1) := by decide +kernel
theorem dX12_canFill_126 : decode cX12_canFill 126 = .ok (.iinc 3 1, 3) := by decide +kernel
theorem dX12_canFill_129 : decode cX12_canFill 129 = .ok (.goto (-87), 3) := by decide +kernel
theorem dX12_canFill_132 : decode cX12_canFill 132 = .ok (.iconst 1, 1) := by decide +kernel
theorem dX12_canFill_133 : decode cX12_canFill 133 = .ok (.ireturn, 1) := by decide +kernel
theorem dX12_fillsUp_0 : decode cX12_fillsUp 0 = .ok (.iconst 0, 1) := by decide +kernel
theorem dX12_fillsUp_1 : decode cX12_fillsUp 1 = .ok (.istore 4, 2) := by decide +kernel
theorem dX12_fillsUp_3 : decode cX12_fillsUp 3 = .ok (.iload_n 3, 1) := by decide +kernel
theorem dX12_fillsUp_4 : decode cX12_fillsUp 4 = .ok (.istore 5, 2) := by decide +kernel
theorem dX12_fillsUp_6 : decode cX12_fillsUp 6 = .ok (.iload 4, 2) := by decide +kernel
theorem dX12_fillsUp_8 : decode cX12_fillsUp 8 = .ok (.iload 5, 2) := by decide +kernel
theorem dX12_fillsUp_10 : decode cX12_fillsUp 10 = .ok (.if_icmp .ge 50, 3) := by decide +kernel
theorem dX12_fillsUp_13 : decode cX12_fillsUp 13 = .ok (.aload_n 0, 1) := by decide +kernel
theorem dX12_fillsUp_14 : decode cX12_fillsUp 14 = .ok (.getfield 70, 3) := by decide +kernel
theorem dX12_fillsUp_17 : decode cX12_fillsUp 17 = .ok (.iload_n 2, 1) := by decide +kernel
theorem dX12_fillsUp_18 : decode cX12_fillsUp 18 = .ok (.iload 4, 2) := by decide +kernel
theorem dX12_fillsUp_20 : decode cX12_fillsUp 20 = .ok (.iload 5, 2) := by decide +kernel
theorem dX12_fillsUp_22 : decode cX12_fillsUp 22 = .ok (.iadd, 1) := by decide +kernel
theorem dX12_fillsUp_23 : decode cX12_fillsUp 23 = .ok (.iconst 1, 1) := by decide +kernel
theorem dX12_fillsUp_24 : decode cX12_fillsUp 24 = .ok (.iadd, 1) := by decide +kernel
theorem dX12_fillsUp_25 : decode cX12_fillsUp 25 = .ok (.iconst 2, 1) := by decide +kernel
theorem dX12_fillsUp_26 : decode cX12_fillsUp 26 = .ok (.idiv, 1) := by decide +kernel
theorem dX12_fillsUp_27 : decode cX12_fillsUp 27 = .ok (.iastore, 1) := by decide +kernel
theorem dX12_fillsUp_28 : decode cX12_fillsUp 28 = .ok (.aload_n 0, 1) := by decide +kernel
theorem dX12_fillsUp_29 : decode cX12_fillsUp 29 = .ok (.iload_n 1, 1) := by decide +kernel
theorem dX12_fillsUp_30 : decode cX12_fillsUp 30 = .ok (.invokevirtual 344, 3) := by decide +kernel
theorem dX12_fillsUp_33 : decode cX12_fillsUp 33 = .ok (.ifCond .eq 14, 3) := by decide +kernel
theorem dX12_fillsUp_36 : decode cX12_fillsUp 36 = .ok (.aload_n 0, 1) := by decide +kernel
theorem dX12_fillsUp_37 : decode cX12_fillsUp 37 = .ok (.getfield 70, 3) := by decide +kernel
theorem dX12_fillsUp_40 : decode cX12_fillsUp 40 = .ok (.iload_n 2, 1) := by decide +kernel
theorem dX12_fillsUp_41 : decode cX12_fillsUp 41 = .ok (.iaload, 1) := by decide +kernel
theorem dX12_fillsUp_42 : decode cX12_fillsUp 42 = .ok (.istore 4, 2) := by decide +kernel
theorem dX12_fillsUp_44 : decode cX12_fillsUp 44 = .ok (.goto (-38), 3) := by decide +kernel
theorem dX12_fillsUp_47 : decode cX12_fillsUp 47 = .ok (.aload_n 0, 1) := by decide +kernel
theorem dX12_fillsUp_48 : decode cX12_fillsUp 48 = .ok (.getfield 70, 3) := by decide +kernel
theorem dX12_fillsUp_51 : decode cX12_fillsUp 51 = .ok (.iload_n 2, 1) := by decide +kernel
theorem dX12_fillsUp_52 : decode cX12_fillsUp 52 = .ok (.iaload, 1) := by decide +kernel
theorem dX12_fillsUp_53 : decode cX12_fillsUp 53 = .ok (.iconst 1, 1) := by decide +kernel
theorem dX12_fillsUp_54 : decode cX12_fillsUp 54 = .ok (.isub, 1) := by decide +kernel
theorem dX12_fillsUp_55 : decode cX12_fillsUp 55 = .ok (.istore 5, 2) := by decide +kernel
theorem dX12_fillsUp_57 : decode cX12_fillsUp 57 = .ok (.goto (-51), 3) := by decide +kernel
theorem dX12_fillsUp_60 : decode cX12_fillsUp 60 = .ok (.aload_n 0, 1) := by decide +kernel
theorem dX12_fillsUp_61 : decode cX12_fillsUp 61 = .ok (.getfield 70, 3) := by decide +kernel
theorem dX12_fillsUp_64 : decode cX12_fillsUp 64 = .ok (.iload_n 2, 1) := by decide +kernel
theorem dX12_fillsUp_65 : decode cX12_fillsUp 65 = .ok (.iload 4, 2) := by decide +kernel
theorem dX12_fillsUp_67 : decode cX12_fillsUp 67 = .ok (.iastore, 1) := by decide +kernel
theorem dX12_fillsUp_68 : decode cX12_fillsUp 68 = .ok (.return_, 1) := by decide +kernel
theorem dX12_bestBut_0 : decode cX12_bestBut 0 = .ok (.aload_n 0, 1) := by decide +kernel
theorem dX12_bestBut_1 : decode cX12_bestBut 1 = .ok (.iload_n 1, 1) := by decide +kernel
theorem dX12_bestBut_2 : decode cX12_bestBut 2 = .ok (.invokevirtual 270, 3) := by decide +kernel
theorem dX12_bestBut_5 : decode cX12_bestBut 5 = .ok (.istore_n 3, 1) := by decide +kernel
theorem dX12_bestBut_6 : decode cX12_bestBut 6 = .ok (.iconst 0, 1) := by decide +kernel
theorem dX12_bestBut_7 : decode cX12_bestBut 7 = .ok (.istore 4, 2) := by decide +kernel
theorem dX12_bestBut_9 : decode cX12_bestBut 9 = .ok (.iconst 0, 1) := by decide +kernel
theorem dX12_bestBut_10 : decode cX12_bestBut 10 = .ok (.istore 5, 2) := by decide +kernel
theorem dX12_bestBut_12 : decode cX12_bestBut 12 = .ok (.iconst 0, 1) := by decide +kernel
theorem dX12_bestBut_13 : decode cX12_bestBut 13 = .ok (.istore 6, 2) := by decide +kernel
theorem dX12_bestBut_15 : decode cX12_bestBut 15 = .ok (.iload 6, 2) := by decide +kernel
theorem dX12_bestBut_17 : decode cX12_bestBut 17 = .ok (.aload_n 0, 1) := by decide +kernel
theorem dX12_bestBut_18 : decode cX12_bestBut 18 = .ok (.getfield 9, 3) := by decide +kernel
theorem dX12_bestBut_21 : decode cX12_bestBut 21 = .ok (.iconst 0, 1) := by decide +kernel
theorem dX12_bestBut_22 : decode cX12_bestBut 22 = .ok (.iaload, 1) := by decide +kernel
theorem dX12_bestBut_23 : decode cX12_bestBut 23 = .ok (.if_icmp .ge 17, 3) := by decide +kernel
theorem dX12_bestBut_26 : decode cX12_bestBut 26 = .ok (.aload_n 0, 1) := by decide +kernel
theorem dX12_bestBut_27 : decode cX12_bestBut 27 = .ok (.getfield 70, 3) := by decide +kernel
theorem dX12_bestBut_30 : decode cX12_bestBut 30 = .ok (.iload 6, 2) := by decide +kernel
theorem dX12_bestBut_32 : decode cX12_bestBut 32 = .ok (.iconst 0, 1) := by decide +kernel
theorem dX12_bestBut_33 : decode cX12_bestBut 33 = .ok (.iastore, 1) := by decide +kernel
theorem dX12_bestBut_34 : decode cX12_bestBut 34 = .ok (.iinc 6 1, 3) := by decide +kernel
theorem dX12_bestBut_37 : decode cX12_bestBut 37 = .ok (.goto (-22), 3) := by decide +kernel
theorem dX12_bestBut_40 : decode cX12_bestBut 40 = .ok (.iconst 0, 1) := by decide +kernel
theorem dX12_bestBut_41 : decode cX12_bestBut 41 = .ok (.istore 6, 2) := by decide +kernel
theorem dX12_bestBut_43 : decode cX12_bestBut 43 = .ok (.iload 6, 2) := by decide +kernel
theorem dX12_bestBut_45 : decode cX12_bestBut 45 = .ok (.aload_n 0, 1) := by decide +kernel
theorem dX12_bestBut_46 : decode cX12_bestBut 46 = .ok (.getfield 9, 3) := by decide +kernel
theorem dX12_bestBut_49 : decode cX12_bestBut 49 = .ok (.iconst 0, 1) := by decide +kernel
theorem dX12_bestBut_50 : decode cX12_bestBut 50 = .ok (.iaload, 1) := by decide +kernel
theorem dX12_bestBut_51 : decode cX12_bestBut 51 = .ok (.if_icmp .ge 131, 3) := by decide +kernel
theorem dX12_bestBut_54 : decode cX12_bestBut 54 = .ok (.iconst (-1), 1) := by decide +kernel
theorem dX12_bestBut_55 : decode cX12_bestBut 55 = .ok (.istore 7, 2) := by decide +kernel
theorem dX12_bestBut_57 : decode cX12_bestBut 57 = .ok (.iconst 0, 1) := by decide +kernel
theorem dX12_bestBut_58 : decode cX12_bestBut 58 = .ok (.istore 8, 2) := by decide +kernel
theorem dX12_bestBut_60 : decode cX12_bestBut 60 = .ok (.iload 8, 2) := by decide +kernel
theorem dX12_bestBut_62 : decode cX12_bestBut 62 = .ok (.aload_n 0, 1) := by decide +kernel
theorem dX12_bestBut_63 : decode cX12_bestBut 63 = .ok (.getfield 9, 3) := by decide +kernel
theorem dX12_bestBut_66 : decode cX12_bestBut 66 = .ok (.iconst 0, 1) := by decide +kernel
theorem dX12_bestBut_67 : decode cX12_bestBut 67 = .ok (.iaload, 1) := by decide +kernel
theorem dX12_bestBut_68 : decode cX12_bestBut 68 = .ok (.if_icmp .ge 46, 3) := by decide +kernel
theorem dX12_bestBut_71 : decode cX12_bestBut 71 = .ok (.iload 4, 2) := by decide +kernel
theorem dX12_bestBut_73 : decode cX12_bestBut 73 = .ok (.iload 8, 2) := by decide +kernel
theorem dX12_bestBut_75 : decode cX12_bestBut 75 = .ok (.ishr, 1) := by decide +kernel
theorem dX12_bestBut_76 : decode cX12_bestBut 76 = .ok (.iconst 1, 1) := by decide +kernel
theorem dX12_bestBut_77 : decode cX12_bestBut 77 = .ok (.iand, 1) := by decide +kernel
theorem dX12_bestBut_78 : decode cX12_bestBut 78 = .ok (.ifCond .ne 30, 3) := by decide +kernel
theorem dX12_bestBut_81 : decode cX12_bestBut 81 = .ok (.iload 7, 2) := by decide +kernel
theorem dX12_bestBut_83 : decode cX12_bestBut 83 = .ok (.iconst (-1), 1) := by decide +kernel
theorem dX12_bestBut_84 : decode cX12_bestBut 84 = .ok (.if_icmp .eq 20, 3) := by decide +kernel
theorem dX12_bestBut_87 : decode cX12_bestBut 87 = .ok (.aload_n 0, 1) := by decide +kernel
theorem dX12_bestBut_88 : decode cX12_bestBut 88 = .ok (.iload_n 3, 1) := by decide +kernel
theorem dX12_bestBut_89 : decode cX12_bestBut 89 = .ok (.iload 8, 2) := by decide +kernel
theorem dX12_bestBut_91 : decode cX12_bestBut 91 = .ok (.invokevirtual 263, 3) := by decide +kernel
theorem dX12_bestBut_94 : decode cX12_bestBut 94 = .ok (.aload_n 0, 1) := by decide +kernel
theorem dX12_bestBut_95 : decode cX12_bestBut 95 = .ok (.iload_n 3, 1) := by decide +kernel
theorem dX12_bestBut_96 : decode cX12_bestBut 96 = .ok (.iload 7, 2) := by decide +kernel
theorem dX12_bestBut_98 : decode cX12_bestBut 98 = .ok (.invokevirtual 263, 3) := by decide +kernel
theorem dX12_bestBut_101 : decode cX12_bestBut 101 = .ok (.if_icmp .le 7, 3) := by decide +kernel
theorem dX12_bestBut_104 : decode cX12_bestBut 104 = .ok (.iload 8, 2) := by decide +kernel
theorem dX12_bestBut_106 : decode cX12_bestBut 106 = .ok (.istore 7, 2) := by decide +kernel
theorem dX12_bestBut_108 : decode cX12_bestBut 108 = .ok (.iinc 8 1, 3) := by decide +kernel
theorem dX12_bestBut_111 : decode cX12_bestBut 111 = .ok (.goto (-51), 3) := by decide +kernel
theorem dX12_bestBut_114 : decode cX12_bestBut 114 = .ok (.iload 4, 2) := by decide +kernel
theorem dX12_bestBut_116 : decode cX12_bestBut 116 = .ok (.iconst 1, 1) := by decide +kernel
theorem dX12_bestBut_117 : decode cX12_bestBut 117 = .ok (.iload 7, 2) := by decide +kernel
theorem dX12_bestBut_119 : decode cX12_bestBut 119 = .ok (.ishl, 1) := by decide +kernel
theorem dX12_bestBut_120 : decode cX12_bestBut 120 = .ok (.ior, 1) := by decide +kernel
theorem dX12_bestBut_121 : decode cX12_bestBut 121 = .ok (.istore 4, 2) := by decide +kernel
theorem dX12_bestBut_123 : decode cX12_bestBut 123 = .ok (.iload 7, 2) := by decide +kernel
theorem dX12_bestBut_125 : decode cX12_bestBut 125 = .ok (.iload_n 2, 1) := by decide +kernel
theorem dX12_bestBut_126 : decode cX12_bestBut 126 = .ok (.if_icmp .eq 50, 3) := by decide +kernel
theorem dX12_bestBut_129 : decode cX12_bestBut 129 = .ok (.aload_n 0, 1) := by decide +kernel
theorem dX12_bestBut_130 : decode cX12_bestBut 130 = .ok (.iload_n 3, 1) := by decide +kernel
theorem dX12_bestBut_131 : decode cX12_bestBut 131 = .ok (.iload 7, 2) := by decide +kernel
theorem dX12_bestBut_133 : decode cX12_bestBut 133 = .ok (.invokevirtual 263, 3) := by decide +kernel
theorem dX12_bestBut_136 : decode cX12_bestBut 136 = .ok (.ifCond .ne 6, 3) := by decide +kernel
theorem dX12_bestBut_139 : decode cX12_bestBut 139 = .ok (.goto 37, 3) := by decide +kernel
theorem dX12_bestBut_142 : decode cX12_bestBut 142 = .ok (.aload_n 0, 1) := by decide +kernel
theorem dX12_bestBut_143 : decode cX12_bestBut 143 = .ok (.iload_n 1, 1) := by decide +kernel
theorem dX12_bestBut_144 : decode cX12_bestBut 144 = .ok (.iload 7, 2) := by decide +kernel
theorem dX12_bestBut_146 : decode cX12_bestBut 146 = .ok (.aload_n 0, 1) := by decide +kernel
theorem dX12_bestBut_147 : decode cX12_bestBut 147 = .ok (.iload_n 3, 1) := by decide +kernel
theorem dX12_bestBut_148 : decode cX12_bestBut 148 = .ok (.iload 7, 2) := by decide +kernel
theorem dX12_bestBut_150 : decode cX12_bestBut 150 = .ok (.invokevirtual 288, 3) := by decide +kernel
theorem dX12_bestBut_153 : decode cX12_bestBut 153 = .ok (.invokevirtual 347, 3) := by decide +kernel
theorem dX12_bestBut_156 : decode cX12_bestBut 156 = .ok (.iload 5, 2) := by decide +kernel
theorem dX12_bestBut_158 : decode cX12_bestBut 158 = .ok (.aload_n 0, 1) := by decide +kernel
theorem dX12_bestBut_159 : decode cX12_bestBut 159 = .ok (.getfield 70, 3) := by decide +kernel
theorem dX12_bestBut_162 : decode cX12_bestBut 162 = .ok (.iload 7, 2) := by decide +kernel
theorem dX12_bestBut_164 : decode cX12_bestBut 164 = .ok (.iaload, 1) := by decide +kernel
theorem dX12_bestBut_165 : decode cX12_bestBut 165 = .ok (.aload_n 0, 1) := by decide +kernel
theorem dX12_bestBut_166 : decode cX12_bestBut 166 = .ok (.iload_n 3, 1) := by decide +kernel
theorem dX12_bestBut_167 : decode cX12_bestBut 167 = .ok (.iload 7, 2) := by decide +kernel
theorem dX12_bestBut_169 : decode cX12_bestBut 169 = .ok (.invokevirtual 263, 3) := by decide +kernel
theorem dX12_bestBut_172 : decode cX12_bestBut 172 = .ok (.imul, 1) := by decide +kernel
theorem dX12_bestBut_173 : decode cX12_bestBut 173 = .ok (.iadd, 1) := by decide +kernel
theorem dX12_bestBut_174 : decode cX12_bestBut 174 = .ok (.istore 5, 2) := by decide +kernel
theorem dX12_bestBut_176 : decode cX12_bestBut 176 = .ok (.iinc 6 1, 3) := by decide +kernel
theorem dX12_bestBut_179 : decode cX12_bestBut 179 = .ok (.goto (-136), 3) := by decide +kernel
theorem dX12_bestBut_182 : decode cX12_bestBut 182 = .ok (.iload 5, 2) := by decide +kernel
theorem dX12_bestBut_184 : decode cX12_bestBut 184 = .ok (.ireturn, 1) := by decide +kernel
theorem dX12_best_0 : decode cX12_best 0 = .ok (.aload_n 0, 1) := by decide +kernel
theorem dX12_best_1 : decode cX12_best 1 = .ok (.iload_n 1, 1) := by decide +kernel
theorem dX12_best_2 : decode cX12_best 2 = .ok (.invokevirtual 315, 3) := by decide +kernel
theorem dX12_best_5 : decode cX12_best 5 = .ok (.ifCond .eq 12, 3) := by decide +kernel
theorem dX12_best_8 : decode cX12_best 8 = .ok (.aload_n 0, 1) := by decide +kernel
theorem dX12_best_9 : decode cX12_best 9 = .ok (.iload_n 1, 1) := by decide +kernel
theorem dX12_best_10 : decode cX12_best 10 = .ok (.iconst (-1), 1) := by decide +kernel
theorem dX12_best_11 : decode cX12_best 11 = .ok (.invokevirtual 350, 3) := by decide +kernel
theorem dX12_best_14 : decode cX12_best 14 = .ok (.goto 5, 3) := by decide +kernel
theorem dX12_best_17 : decode cX12_best 17 = .ok (.bipush (-2), 2) := by decide +kernel
theorem dX12_best_19 : decode cX12_best 19 = .ok (.ireturn, 1) := by decide +kernel
theorem dX12_worth_0 : decode cX12_worth 0 = .ok (.aload_n 0, 1) := by decide +kernel
theorem dX12_worth_1 : decode cX12_worth 1 = .ok (.iload_n 1, 1) := by decide +kernel
theorem dX12_worth_2 : decode cX12_worth 2 = .ok (.invokevirtual 315, 3) := by decide +kernel
theorem dX12_worth_5 : decode cX12_worth 5 = .ok (.ifCond .eq 28, 3) := by decide +kernel
theorem dX12_worth_8 : decode cX12_worth 8 = .ok (.aload_n 0, 1) := by decide +kernel
theorem dX12_worth_9 : decode cX12_worth 9 = .ok (.iload_n 2, 1) := by decide +kernel
theorem dX12_worth_10 : decode cX12_worth 10 = .ok (.i2l, 1) := by decide +kernel
theorem dX12_worth_11 : decode cX12_worth 11 = .ok (.invokevirtual 102, 3) := by decide +kernel
theorem dX12_worth_14 : decode cX12_worth 14 = .ok (.ifCond .eq 19, 3) := by decide +kernel
theorem dX12_worth_17 : decode cX12_worth 17 = .ok (.aload_n 0, 1) := by decide +kernel
theorem dX12_worth_18 : decode cX12_worth 18 = .ok (.iload_n 1, 1) := by decide +kernel
theorem dX12_worth_19 : decode cX12_worth 19 = .ok (.iconst (-1), 1) := by decide +kernel
theorem dX12_worth_20 : decode cX12_worth 20 = .ok (.invokevirtual 350, 3) := by decide +kernel
theorem dX12_worth_23 : decode cX12_worth 23 = .ok (.aload_n 0, 1) := by decide +kernel
theorem dX12_worth_24 : decode cX12_worth 24 = .ok (.iload_n 1, 1) := by decide +kernel
theorem dX12_worth_25 : decode cX12_worth 25 = .ok (.iload_n 2, 1) := by decide +kernel
theorem dX12_worth_26 : decode cX12_worth 26 = .ok (.invokevirtual 350, 3) := by decide +kernel
theorem dX12_worth_29 : decode cX12_worth 29 = .ok (.isub, 1) := by decide +kernel
theorem dX12_worth_30 : decode cX12_worth 30 = .ok (.goto 5, 3) := by decide +kernel
theorem dX12_worth_33 : decode cX12_worth 33 = .ok (.bipush (-2), 2) := by decide +kernel
theorem dX12_worth_35 : decode cX12_worth 35 = .ok (.ireturn, 1) := by decide +kernel
theorem dX12_thursday_0 : decode cX12_thursday 0 = .ok (.aload_n 0, 1) := by decide +kernel
theorem dX12_thursday_1 : decode cX12_thursday 1 = .ok (.iload_n 1, 1) := by decide +kernel
theorem dX12_thursday_2 : decode cX12_thursday 2 = .ok (.invokevirtual 315, 3) := by decide +kernel
theorem dX12_thursday_5 : decode cX12_thursday 5 = .ok (.ifCond .ne 6, 3) := by decide +kernel
theorem dX12_thursday_8 : decode cX12_thursday 8 = .ok (.bipush (-2), 2) := by decide +kernel
theorem dX12_thursday_10 : decode cX12_thursday 10 = .ok (.ireturn, 1) := by decide +kernel
theorem dX12_thursday_11 : decode cX12_thursday 11 = .ok (.aload_n 0, 1) := by decide +kernel
theorem dX12_thursday_12 : decode cX12_thursday 12 = .ok (.iload_n 1, 1) := by decide +kernel
theorem dX12_thursday_13 : decode cX12_thursday 13 = .ok (.iconst (-1), 1) := by decide +kernel
theorem dX12_thursday_14 : decode cX12_thursday 14 = .ok (.invokevirtual 350, 3) := by decide +kernel
theorem dX12_thursday_17 : decode cX12_thursday 17 = .ok (.ifCond .ne 5, 3) := by decide +kernel
theorem dX12_thursday_20 : decode cX12_thursday 20 = .ok (.iconst (-1), 1) := by decide +kernel
theorem dX12_thursday_21 : decode cX12_thursday 21 = .ok (.ireturn, 1) := by decide +kernel
theorem dX12_thursday_22 : decode cX12_thursday 22 = .ok (.iconst 0, 1) := by decide +kernel
theorem dX12_thursday_23 : decode cX12_thursday 23 = .ok (.istore_n 2, 1) := by decide +kernel
theorem dX12_thursday_24 : decode cX12_thursday 24 = .ok (.aload_n 0, 1) := by decide +kernel
theorem dX12_thursday_25 : decode cX12_thursday 25 = .ok (.iload_n 1, 1) := by decide +kernel
theorem dX12_thursday_26 : decode cX12_thursday 26 = .ok (.iconst 0, 1) := by decide +kernel
theorem dX12_thursday_27 : decode cX12_thursday 27 = .ok (.invokevirtual 350, 3) := by decide +kernel
theorem dX12_thursday_30 : decode cX12_thursday 30 = .ok (.istore_n 3, 1) := by decide +kernel
theorem dX12_thursday_31 : decode cX12_thursday 31 = .ok (.iconst 1, 1) := by decide +kernel
theorem dX12_thursday_32 : decode cX12_thursday 32 = .ok (.istore 4, 2) := by decide +kernel
theorem dX12_thursday_34 : decode cX12_thursday 34 = .ok (.iload 4, 2) := by decide +kernel
theorem dX12_thursday_36 : decode cX12_thursday 36 = .ok (.aload_n 0, 1) := by decide +kernel
theorem dX12_thursday_37 : decode cX12_thursday 37 = .ok (.getfield 9, 3) := by decide +kernel
theorem dX12_thursday_40 : decode cX12_thursday 40 = .ok (.iconst 0, 1) := by decide +kernel
theorem dX12_thursday_41 : decode cX12_thursday 41 = .ok (.iaload, 1) := by decide +kernel
theorem dX12_thursday_42 : decode cX12_thursday 42 = .ok (.if_icmp .ge 33, 3) := by decide +kernel
theorem dX12_thursday_45 : decode cX12_thursday 45 = .ok (.aload_n 0, 1) := by decide +kernel
theorem dX12_thursday_46 : decode cX12_thursday 46 = .ok (.iload_n 1, 1) := by decide +kernel
theorem dX12_thursday_47 : decode cX12_thursday 47 = .ok (.iload 4, 2) := by decide +kernel
theorem dX12_thursday_49 : decode cX12_thursday 49 = .ok (.invokevirtual 350, 3) := by decide +kernel
theorem dX12_thursday_52 : decode cX12_thursday 52 = .ok (.istore 5, 2) := by decide +kernel
theorem dX12_thursday_54 : decode cX12_thursday 54 = .ok (.iload 5, 2) := by decide +kernel
theorem dX12_thursday_56 : decode cX12_thursday 56 = .ok (.iload_n 3, 1) := by decide +kernel
theorem dX12_thursday_57 : decode cX12_thursday 57 = .ok (.if_icmp .lt 6, 3) := by decide +kernel
theorem dX12_thursday_60 : decode cX12_thursday 60 = .ok (.goto 9, 3) := by decide +kernel
theorem dX12_thursday_63 : decode cX12_thursday 63 = .ok (.iload 4, 2) := by decide +kernel
theorem dX12_thursday_65 : decode cX12_thursday 65 = .ok (.istore_n 2, 1) := by decide +kernel
theorem dX12_thursday_66 : decode cX12_thursday 66 = .ok (.iload 5, 2) := by decide +kernel
theorem dX12_thursday_68 : decode cX12_thursday 68 = .ok (.istore_n 3, 1) := by decide +kernel
theorem dX12_thursday_69 : decode cX12_thursday 69 = .ok (.iinc 4 1, 3) := by decide +kernel
theorem dX12_thursday_72 : decode cX12_thursday 72 = .ok (.goto (-38), 3) := by decide +kernel
theorem dX12_thursday_75 : decode cX12_thursday 75 = .ok (.iload_n 2, 1) := by decide +kernel
theorem dX12_thursday_76 : decode cX12_thursday 76 = .ok (.ireturn, 1) := by decide +kernel
theorem dX12_setAsks_0 : decode cX12_setAsks 0 = .ok (.aload_n 0, 1) := by decide +kernel
theorem dX12_setAsks_1 : decode cX12_setAsks 1 = .ok (.getfield 9, 3) := by decide +kernel
theorem dX12_setAsks_4 : decode cX12_setAsks 4 = .ok (.sipush 311, 3) := by decide +kernel
theorem dX12_setAsks_7 : decode cX12_setAsks 7 = .ok (.iconst 3, 1) := by decide +kernel
theorem dX12_setAsks_8 : decode cX12_setAsks 8 = .ok (.iload_n 1, 1) := by decide +kernel
theorem dX12_setAsks_9 : decode cX12_setAsks 9 = .ok (.imul, 1) := by decide +kernel
theorem dX12_setAsks_10 : decode cX12_setAsks 10 = .ok (.iadd, 1) := by decide +kernel
theorem dX12_setAsks_11 : decode cX12_setAsks 11 = .ok (.iconst 1, 1) := by decide +kernel
theorem dX12_setAsks_12 : decode cX12_setAsks 12 = .ok (.iadd, 1) := by decide +kernel
theorem dX12_setAsks_13 : decode cX12_setAsks 13 = .ok (.iload_n 2, 1) := by decide +kernel
theorem dX12_setAsks_14 : decode cX12_setAsks 14 = .ok (.iastore, 1) := by decide +kernel
theorem dX12_setAsks_15 : decode cX12_setAsks 15 = .ok (.return_, 1) := by decide +kernel
theorem dX12_asks_0 : decode cX12_asks 0 = .ok (.aload_n 0, 1) := by decide +kernel
theorem dX12_asks_1 : decode cX12_asks 1 = .ok (.iload_n 1, 1) := by decide +kernel
theorem dX12_asks_2 : decode cX12_asks 2 = .ok (.invokevirtual 315, 3) := by decide +kernel
theorem dX12_asks_5 : decode cX12_asks 5 = .ok (.ifCond .ne 6, 3) := by decide +kernel
theorem dX12_asks_8 : decode cX12_asks 8 = .ok (.bipush (-2), 2) := by decide +kernel
theorem dX12_asks_10 : decode cX12_asks 10 = .ok (.ireturn, 1) := by decide +kernel
theorem dX12_asks_11 : decode cX12_asks 11 = .ok (.aload_n 0, 1) := by decide +kernel
theorem dX12_asks_12 : decode cX12_asks 12 = .ok (.iload_n 1, 1) := by decide +kernel
theorem dX12_asks_13 : decode cX12_asks 13 = .ok (.iconst 1, 1) := by decide +kernel
theorem dX12_asks_14 : decode cX12_asks 14 = .ok (.invokevirtual 109, 3) := by decide +kernel
theorem dX12_asks_17 : decode cX12_asks 17 = .ok (.istore_n 2, 1) := by decide +kernel
theorem dX12_asks_18 : decode cX12_asks 18 = .ok (.iconst (-1), 1) := by decide +kernel
theorem dX12_asks_19 : decode cX12_asks 19 = .ok (.istore_n 3, 1) := by decide +kernel
theorem dX12_asks_20 : decode cX12_asks 20 = .ok (.iconst (-1), 1) := by decide +kernel
theorem dX12_asks_21 : decode cX12_asks 21 = .ok (.istore 4, 2) := by decide +kernel
theorem dX12_asks_23 : decode cX12_asks 23 = .ok (.iconst 0, 1) := by decide +kernel
theorem dX12_asks_24 : decode cX12_asks 24 = .ok (.istore 5, 2) := by decide +kernel
theorem dX12_asks_26 : decode cX12_asks 26 = .ok (.iload 5, 2) := by decide +kernel
theorem dX12_asks_28 : decode cX12_asks 28 = .ok (.bipush 99, 2) := by decide +kernel
theorem dX12_asks_30 : decode cX12_asks 30 = .ok (.if_icmp .gt 44, 3) := by decide +kernel
theorem dX12_asks_33 : decode cX12_asks 33 = .ok (.aload_n 0, 1) := by decide +kernel
theorem dX12_asks_34 : decode cX12_asks 34 = .ok (.iload_n 1, 1) := by decide +kernel
theorem dX12_asks_35 : decode cX12_asks 35 = .ok (.iload 5, 2) := by decide +kernel
theorem dX12_asks_37 : decode cX12_asks 37 = .ok (.invokevirtual 353, 3) := by decide +kernel
theorem dX12_asks_40 : decode cX12_asks 40 = .ok (.aload_n 0, 1) := by decide +kernel
theorem dX12_asks_41 : decode cX12_asks 41 = .ok (.lconst 1, 1) := by decide +kernel
theorem dX12_asks_42 : decode cX12_asks 42 = .ok (.invokevirtual 311, 3) := by decide +kernel
theorem dX12_asks_45 : decode cX12_asks 45 = .ok (.aload_n 0, 1) := by decide +kernel
theorem dX12_asks_46 : decode cX12_asks 46 = .ok (.iload_n 1, 1) := by decide +kernel
theorem dX12_asks_47 : decode cX12_asks 47 = .ok (.invokevirtual 321, 3) := by decide +kernel
theorem dX12_asks_50 : decode cX12_asks 50 = .ok (.iload 4, 2) := by decide +kernel
theorem dX12_asks_52 : decode cX12_asks 52 = .ok (.if_icmp .gt 6, 3) := by decide +kernel
theorem dX12_asks_55 : decode cX12_asks 55 = .ok (.goto 13, 3) := by decide +kernel
theorem dX12_asks_58 : decode cX12_asks 58 = .ok (.iload 5, 2) := by decide +kernel
theorem dX12_asks_60 : decode cX12_asks 60 = .ok (.istore_n 3, 1) := by decide +kernel
theorem dX12_asks_61 : decode cX12_asks 61 = .ok (.aload_n 0, 1) := by decide +kernel
theorem dX12_asks_62 : decode cX12_asks 62 = .ok (.iload_n 1, 1) := by decide +kernel
theorem dX12_asks_63 : decode cX12_asks 63 = .ok (.invokevirtual 321, 3) := by decide +kernel
theorem dX12_asks_66 : decode cX12_asks 66 = .ok (.istore 4, 2) := by decide +kernel
theorem dX12_asks_68 : decode cX12_asks 68 = .ok (.iinc 5 1, 3) := by decide +kernel
theorem dX12_asks_71 : decode cX12_asks 71 = .ok (.goto (-45), 3) := by decide +kernel
theorem dX12_asks_74 : decode cX12_asks 74 = .ok (.aload_n 0, 1) := by decide +kernel
theorem dX12_asks_75 : decode cX12_asks 75 = .ok (.iload_n 1, 1) := by decide +kernel
theorem dX12_asks_76 : decode cX12_asks 76 = .ok (.iload_n 2, 1) := by decide +kernel
theorem dX12_asks_77 : decode cX12_asks 77 = .ok (.invokevirtual 353, 3) := by decide +kernel
theorem dX12_asks_80 : decode cX12_asks 80 = .ok (.iload_n 3, 1) := by decide +kernel
theorem dX12_asks_81 : decode cX12_asks 81 = .ok (.ireturn, 1) := by decide +kernel
theorem dX12_hold_0 : decode cX12_hold 0 = .ok (.aload_n 0, 1) := by decide +kernel
theorem dX12_hold_1 : decode cX12_hold 1 = .ok (.iload_n 1, 1) := by decide +kernel
theorem dX12_hold_2 : decode cX12_hold 2 = .ok (.invokevirtual 315, 3) := by decide +kernel
theorem dX12_hold_5 : decode cX12_hold 5 = .ok (.ifCond .eq 15, 3) := by decide +kernel
theorem dX12_hold_8 : decode cX12_hold 8 = .ok (.iload_n 2, 1) := by decide +kernel
theorem dX12_hold_9 : decode cX12_hold 9 = .ok (.i2l, 1) := by decide +kernel
theorem dX12_hold_10 : decode cX12_hold 10 = .ok (.lconst 0, 1) := by decide +kernel
theorem dX12_hold_11 : decode cX12_hold 11 = .ok (.ldc2_w 356, 3) := by decide +kernel
theorem dX12_hold_14 : decode cX12_hold 14 = .ok (.invokestatic 94, 3) := by decide +kernel
theorem dX12_hold_17 : decode cX12_hold 17 = .ok (.ifCond .ne 6, 3) := by decide +kernel
theorem dX12_hold_20 : decode cX12_hold 20 = .ok (.bipush (-2), 2) := by decide +kernel
theorem dX12_hold_22 : decode cX12_hold 22 = .ok (.ireturn, 1) := by decide +kernel
theorem dX12_hold_23 : decode cX12_hold 23 = .ok (.aload_n 0, 1) := by decide +kernel
theorem dX12_hold_24 : decode cX12_hold 24 = .ok (.iload_n 1, 1) := by decide +kernel
theorem dX12_hold_25 : decode cX12_hold 25 = .ok (.iconst 1, 1) := by decide +kernel
theorem dX12_hold_26 : decode cX12_hold 26 = .ok (.invokevirtual 109, 3) := by decide +kernel
theorem dX12_hold_29 : decode cX12_hold 29 = .ok (.istore_n 3, 1) := by decide +kernel
theorem dX12_hold_30 : decode cX12_hold 30 = .ok (.aload_n 0, 1) := by decide +kernel
theorem dX12_hold_31 : decode cX12_hold 31 = .ok (.iload_n 1, 1) := by decide +kernel
theorem dX12_hold_32 : decode cX12_hold 32 = .ok (.iload_n 2, 1) := by decide +kernel
theorem dX12_hold_33 : decode cX12_hold 33 = .ok (.invokevirtual 353, 3) := by decide +kernel
theorem dX12_hold_36 : decode cX12_hold 36 = .ok (.iload_n 3, 1) := by decide +kernel
theorem dX12_hold_37 : decode cX12_hold 37 = .ok (.ireturn, 1) := by decide +kernel
theorem dX12_buyDay_0 : decode cX12_buyDay 0 = .ok (.aload_n 0, 1) := by decide +kernel
theorem dX12_buyDay_1 : decode cX12_buyDay 1 = .ok (.iload_n 1, 1) := by decide +kernel
theorem dX12_buyDay_2 : decode cX12_buyDay 2 = .ok (.iconst 0, 1) := by decide +kernel
theorem dX12_buyDay_3 : decode cX12_buyDay 3 = .ok (.invokevirtual 260, 3) := by decide +kernel
theorem dX12_buyDay_6 : decode cX12_buyDay 6 = .ok (.istore_n 3, 1) := by decide +kernel
theorem dX12_buyDay_7 : decode cX12_buyDay 7 = .ok (.iload_n 2, 1) := by decide +kernel
theorem dX12_buyDay_8 : decode cX12_buyDay 8 = .ok (.istore 4, 2) := by decide +kernel
theorem dX12_buyDay_10 : decode cX12_buyDay 10 = .ok (.aload_n 0, 1) := by decide +kernel
theorem dX12_buyDay_11 : decode cX12_buyDay 11 = .ok (.iload_n 1, 1) := by decide +kernel
theorem dX12_buyDay_12 : decode cX12_buyDay 12 = .ok (.iconst 5, 1) := by decide +kernel
theorem dX12_buyDay_13 : decode cX12_buyDay 13 = .ok (.invokevirtual 260, 3) := by decide +kernel
theorem dX12_buyDay_16 : decode cX12_buyDay 16 = .ok (.aload_n 0, 1) := by decide +kernel
theorem dX12_buyDay_17 : decode cX12_buyDay 17 = .ok (.iload_n 3, 1) := by decide +kernel
theorem dX12_buyDay_18 : decode cX12_buyDay 18 = .ok (.invokevirtual 273, 3) := by decide +kernel
theorem dX12_buyDay_21 : decode cX12_buyDay 21 = .ok (.invokestatic 142, 3) := by decide +kernel
theorem dX12_buyDay_24 : decode cX12_buyDay 24 = .ok (.istore 5, 2) := by decide +kernel
theorem dX12_buyDay_26 : decode cX12_buyDay 26 = .ok (.iload_n 2, 1) := by decide +kernel
theorem dX12_buyDay_27 : decode cX12_buyDay 27 = .ok (.iconst 1, 1) := by decide +kernel
theorem dX12_buyDay_28 : decode cX12_buyDay 28 = .ok (.isub, 1) := by decide +kernel
theorem dX12_buyDay_29 : decode cX12_buyDay 29 = .ok (.istore 6, 2) := by decide +kernel
theorem dX12_buyDay_31 : decode cX12_buyDay 31 = .ok (.iload 6, 2) := by decide +kernel
theorem dX12_buyDay_33 : decode cX12_buyDay 33 = .ok (.ifCond .lt 44, 3) := by decide +kernel
theorem dX12_buyDay_36 : decode cX12_buyDay 36 = .ok (.iload 6, 2) := by decide +kernel
theorem dX12_buyDay_38 : decode cX12_buyDay 38 = .ok (.iload_n 2, 1) := by decide +kernel
theorem dX12_buyDay_39 : decode cX12_buyDay 39 = .ok (.iload 5, 2) := by decide +kernel
theorem dX12_buyDay_41 : decode cX12_buyDay 41 = .ok (.isub, 1) := by decide +kernel
theorem dX12_buyDay_42 : decode cX12_buyDay 42 = .ok (.if_icmp .lt 35, 3) := by decide +kernel
theorem dX12_buyDay_45 : decode cX12_buyDay 45 = .ok (.aload_n 0, 1) := by decide +kernel
theorem dX12_buyDay_46 : decode cX12_buyDay 46 = .ok (.iload_n 3, 1) := by decide +kernel
theorem dX12_buyDay_47 : decode cX12_buyDay 47 = .ok (.iload 6, 2) := by decide +kernel
theorem dX12_buyDay_49 : decode cX12_buyDay 49 = .ok (.invokevirtual 263, 3) := by decide +kernel
theorem dX12_buyDay_52 : decode cX12_buyDay 52 = .ok (.aload_n 0, 1) := by decide +kernel
theorem dX12_buyDay_53 : decode cX12_buyDay 53 = .ok (.iload_n 3, 1) := by decide +kernel
theorem dX12_buyDay_54 : decode cX12_buyDay 54 = .ok (.iload 4, 2) := by decide +kernel
theorem dX12_buyDay_56 : decode cX12_buyDay 56 = .ok (.invokevirtual 263, 3) := by decide +kernel
theorem dX12_buyDay_59 : decode cX12_buyDay 59 = .ok (.if_icmp .ge 8, 3) := by decide +kernel
theorem dX12_buyDay_62 : decode cX12_buyDay 62 = .ok (.iload 6, 2) := by decide +kernel
theorem dX12_buyDay_64 : decode cX12_buyDay 64 = .ok (.goto 5, 3) := by decide +kernel
theorem dX12_buyDay_67 : decode cX12_buyDay 67 = .ok (.iload 4, 2) := by decide +kernel
theorem dX12_buyDay_69 : decode cX12_buyDay 69 = .ok (.istore 4, 2) := by decide +kernel
theorem dX12_buyDay_71 : decode cX12_buyDay 71 = .ok (.iinc 6 (-1), 3) := by decide +kernel
theorem dX12_buyDay_74 : decode cX12_buyDay 74 = .ok (.goto (-43), 3) := by decide +kernel
theorem dX12_buyDay_77 : decode cX12_buyDay 77 = .ok (.iload 4, 2) := by decide +kernel
theorem dX12_buyDay_79 : decode cX12_buyDay 79 = .ok (.ireturn, 1) := by decide +kernel
theorem dX12_buysOn_0 : decode cX12_buysOn 0 = .ok (.iconst 0, 1) := by decide +kernel
theorem dX12_buysOn_1 : decode cX12_buysOn 1 = .ok (.istore_n 3, 1) := by decide +kernel
theorem dX12_buysOn_2 : decode cX12_buysOn 2 = .ok (.aload_n 0, 1) := by decide +kernel
theorem dX12_buysOn_3 : decode cX12_buysOn 3 = .ok (.iload_n 1, 1) := by decide +kernel
theorem dX12_buysOn_4 : decode cX12_buysOn 4 = .ok (.iconst 3, 1) := by decide +kernel
theorem dX12_buysOn_5 : decode cX12_buysOn 5 = .ok (.invokevirtual 260, 3) := by decide +kernel
theorem dX12_buysOn_8 : decode cX12_buysOn 8 = .ok (.istore 4, 2) := by decide +kernel
theorem dX12_buysOn_10 : decode cX12_buysOn 10 = .ok (.iload 4, 2) := by decide +kernel
theorem dX12_buysOn_12 : decode cX12_buysOn 12 = .ok (.aload_n 0, 1) := by decide +kernel
theorem dX12_buysOn_13 : decode cX12_buysOn 13 = .ok (.iload_n 1, 1) := by decide +kernel
theorem dX12_buysOn_14 : decode cX12_buysOn 14 = .ok (.iconst 4, 1) := by decide +kernel
theorem dX12_buysOn_15 : decode cX12_buysOn 15 = .ok (.invokevirtual 260, 3) := by decide +kernel
theorem dX12_buysOn_18 : decode cX12_buysOn 18 = .ok (.if_icmp .gt 33, 3) := by decide +kernel
theorem dX12_buysOn_21 : decode cX12_buysOn 21 = .ok (.iload_n 3, 1) := by decide +kernel
theorem dX12_buysOn_22 : decode cX12_buysOn 22 = .ok (.aload_n 0, 1) := by decide +kernel
theorem dX12_buysOn_23 : decode cX12_buysOn 23 = .ok (.iload_n 1, 1) := by decide +kernel
theorem dX12_buysOn_24 : decode cX12_buysOn 24 = .ok (.iload 4, 2) := by decide +kernel
theorem dX12_buysOn_26 : decode cX12_buysOn 26 = .ok (.invokevirtual 358, 3) := by decide +kernel
theorem dX12_buysOn_29 : decode cX12_buysOn 29 = .ok (.iload_n 2, 1) := by decide +kernel
theorem dX12_buysOn_30 : decode cX12_buysOn 30 = .ok (.if_icmp .ne 12, 3) := by decide +kernel
theorem dX12_buysOn_33 : decode cX12_buysOn 33 = .ok (.aload_n 0, 1) := by decide +kernel
theorem dX12_buysOn_34 : decode cX12_buysOn 34 = .ok (.iload_n 1, 1) := by decide +kernel
theorem dX12_buysOn_35 : decode cX12_buysOn 35 = .ok (.iconst 1, 1) := by decide +kernel
theorem dX12_buysOn_36 : decode cX12_buysOn 36 = .ok (.invokevirtual 260, 3) := by decide +kernel
theorem dX12_buysOn_39 : decode cX12_buysOn 39 = .ok (.goto 4, 3) := by decide +kernel
theorem dX12_buysOn_42 : decode cX12_buysOn 42 = .ok (.iconst 0, 1) := by decide +kernel
theorem dX12_buysOn_43 : decode cX12_buysOn 43 = .ok (.iadd, 1) := by decide +kernel
theorem dX12_buysOn_44 : decode cX12_buysOn 44 = .ok (.istore_n 3, 1) := by decide +kernel
theorem dX12_buysOn_45 : decode cX12_buysOn 45 = .ok (.iinc 4 1, 3) := by decide +kernel
theorem dX12_buysOn_48 : decode cX12_buysOn 48 = .ok (.goto (-38), 3) := by decide +kernel
theorem dX12_buysOn_51 : decode cX12_buysOn 51 = .ok (.iload_n 3, 1) := by decide +kernel
theorem dX12_buysOn_52 : decode cX12_buysOn 52 = .ok (.ireturn, 1) := by decide +kernel
theorem dX12_cheapest_0 : decode cX12_cheapest 0 = .ok (.aload_n 0, 1) := by decide +kernel
theorem dX12_cheapest_1 : decode cX12_cheapest 1 = .ok (.iload_n 1, 1) := by decide +kernel
theorem dX12_cheapest_2 : decode cX12_cheapest 2 = .ok (.invokevirtual 327, 3) := by decide +kernel
theorem dX12_cheapest_5 : decode cX12_cheapest 5 = .ok (.ifCond .ne 6, 3) := by decide +kernel
theorem dX12_cheapest_8 : decode cX12_cheapest 8 = .ok (.bipush (-2), 2) := by decide +kernel
theorem dX12_cheapest_10 : decode cX12_cheapest 10 = .ok (.ireturn, 1) := by decide +kernel
theorem dX12_cheapest_11 : decode cX12_cheapest 11 = .ok (.iconst 0, 1) := by decide +kernel
theorem dX12_cheapest_12 : decode cX12_cheapest 12 = .ok (.istore_n 2, 1) := by decide +kernel
theorem dX12_cheapest_13 : decode cX12_cheapest 13 = .ok (.aload_n 0, 1) := by decide +kernel
theorem dX12_cheapest_14 : decode cX12_cheapest 14 = .ok (.iload_n 1, 1) := by decide +kernel
theorem dX12_cheapest_15 : decode cX12_cheapest 15 = .ok (.iconst 3, 1) := by decide +kernel
theorem dX12_cheapest_16 : decode cX12_cheapest 16 = .ok (.invokevirtual 260, 3) := by decide +kernel
theorem dX12_cheapest_19 : decode cX12_cheapest 19 = .ok (.istore_n 3, 1) := by decide +kernel
theorem dX12_cheapest_20 : decode cX12_cheapest 20 = .ok (.iload_n 3, 1) := by decide +kernel
theorem dX12_cheapest_21 : decode cX12_cheapest 21 = .ok (.aload_n 0, 1) := by decide +kernel
theorem dX12_cheapest_22 : decode cX12_cheapest 22 = .ok (.iload_n 1, 1) := by decide +kernel
theorem dX12_cheapest_23 : decode cX12_cheapest 23 = .ok (.iconst 4, 1) := by decide +kernel
theorem dX12_cheapest_24 : decode cX12_cheapest 24 = .ok (.invokevirtual 260, 3) := by decide +kernel
theorem dX12_cheapest_27 : decode cX12_cheapest 27 = .ok (.if_icmp .gt 35, 3) := by decide +kernel
theorem dX12_cheapest_30 : decode cX12_cheapest 30 = .ok (.iload_n 2, 1) := by decide +kernel
theorem dX12_cheapest_31 : decode cX12_cheapest 31 = .ok (.aload_n 0, 1) := by decide +kernel
theorem dX12_cheapest_32 : decode cX12_cheapest 32 = .ok (.iload_n 1, 1) := by decide +kernel
theorem dX12_cheapest_33 : decode cX12_cheapest 33 = .ok (.iconst 1, 1) := by decide +kernel
theorem dX12_cheapest_34 : decode cX12_cheapest 34 = .ok (.invokevirtual 260, 3) := by decide +kernel
theorem dX12_cheapest_37 : decode cX12_cheapest 37 = .ok (.aload_n 0, 1) := by decide +kernel
theorem dX12_cheapest_38 : decode cX12_cheapest 38 = .ok (.aload_n 0, 1) := by decide +kernel
theorem dX12_cheapest_39 : decode cX12_cheapest 39 = .ok (.iload_n 1, 1) := by decide +kernel
theorem dX12_cheapest_40 : decode cX12_cheapest 40 = .ok (.iconst 0, 1) := by decide +kernel
theorem dX12_cheapest_41 : decode cX12_cheapest 41 = .ok (.invokevirtual 260, 3) := by decide +kernel
theorem dX12_cheapest_44 : decode cX12_cheapest 44 = .ok (.aload_n 0, 1) := by decide +kernel
theorem dX12_cheapest_45 : decode cX12_cheapest 45 = .ok (.iload_n 1, 1) := by decide +kernel
theorem dX12_cheapest_46 : decode cX12_cheapest 46 = .ok (.iload_n 3, 1) := by decide +kernel
theorem dX12_cheapest_47 : decode cX12_cheapest 47 = .ok (.invokevirtual 358, 3) := by decide +kernel
theorem dX12_cheapest_50 : decode cX12_cheapest 50 = .ok (.invokevirtual 263, 3) := by decide +kernel
theorem dX12_cheapest_53 : decode cX12_cheapest 53 = .ok (.imul, 1) := by decide +kernel
theorem dX12_cheapest_54 : decode cX12_cheapest 54 = .ok (.iadd, 1) := by decide +kernel
theorem dX12_cheapest_55 : decode cX12_cheapest 55 = .ok (.istore_n 2, 1) := by decide +kernel
theorem dX12_cheapest_56 : decode cX12_cheapest 56 = .ok (.iinc 3 1, 3) := by decide +kernel
theorem dX12_cheapest_59 : decode cX12_cheapest 59 = .ok (.goto (-39), 3) := by decide +kernel
theorem dX12_cheapest_62 : decode cX12_cheapest 62 = .ok (.iload_n 2, 1) := by decide +kernel
theorem dX12_cheapest_63 : decode cX12_cheapest 63 = .ok (.ireturn, 1) := by decide +kernel
theorem dX12_buys_0 : decode cX12_buys 0 = .ok (.aload_n 0, 1) := by decide +kernel
theorem dX12_buys_1 : decode cX12_buys 1 = .ok (.iload_n 1, 1) := by decide +kernel
theorem dX12_buys_2 : decode cX12_buys 2 = .ok (.invokevirtual 327, 3) := by decide +kernel
theorem dX12_buys_5 : decode cX12_buys 5 = .ok (.ifCond .eq 21, 3) := by decide +kernel
theorem dX12_buys_8 : decode cX12_buys 8 = .ok (.aload_n 0, 1) := by decide +kernel
theorem dX12_buys_9 : decode cX12_buys 9 = .ok (.iload_n 2, 1) := by decide +kernel
theorem dX12_buys_10 : decode cX12_buys 10 = .ok (.i2l, 1) := by decide +kernel
theorem dX12_buys_11 : decode cX12_buys 11 = .ok (.invokevirtual 102, 3) := by decide +kernel
theorem dX12_buys_14 : decode cX12_buys 14 = .ok (.ifCond .eq 12, 3) := by decide +kernel
theorem dX12_buys_17 : decode cX12_buys 17 = .ok (.aload_n 0, 1) := by decide +kernel
theorem dX12_buys_18 : decode cX12_buys 18 = .ok (.iload_n 1, 1) := by decide +kernel
theorem dX12_buys_19 : decode cX12_buys 19 = .ok (.iload_n 2, 1) := by decide +kernel
theorem dX12_buys_20 : decode cX12_buys 20 = .ok (.invokevirtual 361, 3) := by decide +kernel
theorem dX12_buys_23 : decode cX12_buys 23 = .ok (.goto 5, 3) := by decide +kernel
theorem dX12_buys_26 : decode cX12_buys 26 = .ok (.bipush (-2), 2) := by decide +kernel
theorem dX12_buys_28 : decode cX12_buys 28 = .ok (.ireturn, 1) := by decide +kernel
theorem dX12_crowd_0 : decode cX12_crowd 0 = .ok (.aload_n 0, 1) := by decide +kernel
theorem dX12_crowd_1 : decode cX12_crowd 1 = .ok (.iload_n 1, 1) := by decide +kernel
theorem dX12_crowd_2 : decode cX12_crowd 2 = .ok (.invokevirtual 327, 3) := by decide +kernel
theorem dX12_crowd_5 : decode cX12_crowd 5 = .ok (.ifCond .ne 6, 3) := by decide +kernel
theorem dX12_crowd_8 : decode cX12_crowd 8 = .ok (.bipush (-2), 2) := by decide +kernel
theorem dX12_crowd_10 : decode cX12_crowd 10 = .ok (.ireturn, 1) := by decide +kernel
theorem dX12_crowd_11 : decode cX12_crowd 11 = .ok (.iconst 0, 1) := by decide +kernel
theorem dX12_crowd_12 : decode cX12_crowd 12 = .ok (.istore_n 2, 1) := by decide +kernel
theorem dX12_crowd_13 : decode cX12_crowd 13 = .ok (.iconst 1, 1) := by decide +kernel
theorem dX12_crowd_14 : decode cX12_crowd 14 = .ok (.istore_n 3, 1) := by decide +kernel
theorem dX12_crowd_15 : decode cX12_crowd 15 = .ok (.iload_n 3, 1) := by decide +kernel
theorem dX12_crowd_16 : decode cX12_crowd 16 = .ok (.aload_n 0, 1) := by decide +kernel
theorem dX12_crowd_17 : decode cX12_crowd 17 = .ok (.getfield 9, 3) := by decide +kernel
theorem dX12_crowd_20 : decode cX12_crowd 20 = .ok (.iconst 0, 1) := by decide +kernel
theorem dX12_crowd_21 : decode cX12_crowd 21 = .ok (.iaload, 1) := by decide +kernel
theorem dX12_crowd_22 : decode cX12_crowd 22 = .ok (.if_icmp .ge 30, 3) := by decide +kernel
theorem dX12_crowd_25 : decode cX12_crowd 25 = .ok (.aload_n 0, 1) := by decide +kernel
theorem dX12_crowd_26 : decode cX12_crowd 26 = .ok (.iload_n 1, 1) := by decide +kernel
theorem dX12_crowd_27 : decode cX12_crowd 27 = .ok (.iload_n 3, 1) := by decide +kernel
theorem dX12_crowd_28 : decode cX12_crowd 28 = .ok (.invokevirtual 361, 3) := by decide +kernel
theorem dX12_crowd_31 : decode cX12_crowd 31 = .ok (.aload_n 0, 1) := by decide +kernel
theorem dX12_crowd_32 : decode cX12_crowd 32 = .ok (.iload_n 1, 1) := by decide +kernel
theorem dX12_crowd_33 : decode cX12_crowd 33 = .ok (.iload_n 2, 1) := by decide +kernel
theorem dX12_crowd_34 : decode cX12_crowd 34 = .ok (.invokevirtual 361, 3) := by decide +kernel
theorem dX12_crowd_37 : decode cX12_crowd 37 = .ok (.if_icmp .le 7, 3) := by decide +kernel
theorem dX12_crowd_40 : decode cX12_crowd 40 = .ok (.iload_n 3, 1) := by decide +kernel
theorem dX12_crowd_41 : decode cX12_crowd 41 = .ok (.goto 4, 3) := by decide +kernel
theorem dX12_crowd_44 : decode cX12_crowd 44 = .ok (.iload_n 2, 1) := by decide +kernel
theorem dX12_crowd_45 : decode cX12_crowd 45 = .ok (.istore_n 2, 1) := by decide +kernel
theorem dX12_crowd_46 : decode cX12_crowd 46 = .ok (.iinc 3 1, 3) := by decide +kernel
theorem dX12_crowd_49 : decode cX12_crowd 49 = .ok (.goto (-34), 3) := by decide +kernel
theorem dX12_crowd_52 : decode cX12_crowd 52 = .ok (.iload_n 2, 1) := by decide +kernel
theorem dX12_crowd_53 : decode cX12_crowd 53 = .ok (.ireturn, 1) := by decide +kernel
theorem dX12_mark_0 : decode cX12_mark 0 = .ok (.aload_n 0, 1) := by decide +kernel
theorem dX12_mark_1 : decode cX12_mark 1 = .ok (.iload_n 1, 1) := by decide +kernel
theorem dX12_mark_2 : decode cX12_mark 2 = .ok (.iload_n 2, 1) := by decide +kernel
theorem dX12_mark_3 : decode cX12_mark 3 = .ok (.invokevirtual 307, 3) := by decide +kernel
theorem dX12_mark_6 : decode cX12_mark 6 = .ok (.ifCond .eq 15, 3) := by decide +kernel
theorem dX12_mark_9 : decode cX12_mark 9 = .ok (.iload_n 3, 1) := by decide +kernel
theorem dX12_mark_10 : decode cX12_mark 10 = .ok (.i2l, 1) := by decide +kernel
theorem dX12_mark_11 : decode cX12_mark 11 = .ok (.lconst 0, 1) := by decide +kernel
theorem dX12_mark_12 : decode cX12_mark 12 = .ok (.ldc2_w 356, 3) := by decide +kernel
theorem dX12_mark_15 : decode cX12_mark 15 = .ok (.invokestatic 94, 3) := by decide +kernel
theorem dX12_mark_18 : decode cX12_mark 18 = .ok (.ifCond .ne 6, 3) := by decide +kernel
theorem dX12_mark_21 : decode cX12_mark 21 = .ok (.bipush (-2), 2) := by decide +kernel
theorem dX12_mark_23 : decode cX12_mark 23 = .ok (.ireturn, 1) := by decide +kernel
theorem dX12_mark_24 : decode cX12_mark 24 = .ok (.iload_n 3, 1) := by decide +kernel
theorem dX12_mark_25 : decode cX12_mark 25 = .ok (.aload_n 0, 1) := by decide +kernel
theorem dX12_mark_26 : decode cX12_mark 26 = .ok (.iload_n 1, 1) := by decide +kernel
theorem dX12_mark_27 : decode cX12_mark 27 = .ok (.iload_n 2, 1) := by decide +kernel
theorem dX12_mark_28 : decode cX12_mark 28 = .ok (.invokevirtual 263, 3) := by decide +kernel
theorem dX12_mark_31 : decode cX12_mark 31 = .ok (.aload_n 0, 1) := by decide +kernel
theorem dX12_mark_32 : decode cX12_mark 32 = .ok (.getfield 9, 3) := by decide +kernel
theorem dX12_mark_35 : decode cX12_mark 35 = .ok (.iconst 5, 1) := by decide +kernel
theorem dX12_mark_36 : decode cX12_mark 36 = .ok (.iaload, 1) := by decide +kernel
theorem dX12_mark_37 : decode cX12_mark 37 = .ok (.iadd, 1) := by decide +kernel
theorem dX12_mark_38 : decode cX12_mark 38 = .ok (.invokestatic 142, 3) := by decide +kernel
theorem dX12_mark_41 : decode cX12_mark 41 = .ok (.istore 4, 2) := by decide +kernel
theorem dX12_mark_43 : decode cX12_mark 43 = .ok (.aload_n 0, 1) := by decide +kernel
theorem dX12_mark_44 : decode cX12_mark 44 = .ok (.getfield 9, 3) := by decide +kernel
theorem dX12_mark_47 : decode cX12_mark 47 = .ok (.sipush 211, 3) := by decide +kernel
theorem dX12_mark_50 : decode cX12_mark 50 = .ok (.iload_n 1, 1) := by decide +kernel
theorem dX12_mark_51 : decode cX12_mark 51 = .ok (.iload_n 2, 1) := by decide +kernel
theorem dX12_mark_52 : decode cX12_mark 52 = .ok (.invokestatic 105, 3) := by decide +kernel
theorem dX12_mark_55 : decode cX12_mark 55 = .ok (.iadd, 1) := by decide +kernel
theorem dX12_mark_56 : decode cX12_mark 56 = .ok (.iload 4, 2) := by decide +kernel
theorem dX12_mark_58 : decode cX12_mark 58 = .ok (.iastore, 1) := by decide +kernel
theorem dX12_mark_59 : decode cX12_mark 59 = .ok (.iload 4, 2) := by decide +kernel
theorem dX12_mark_61 : decode cX12_mark 61 = .ok (.ireturn, 1) := by decide +kernel
theorem dX12_isMarked_0 : decode cX12_isMarked 0 = .ok (.aload_n 0, 1) := by decide +kernel
theorem dX12_isMarked_1 : decode cX12_isMarked 1 = .ok (.getfield 9, 3) := by decide +kernel
theorem dX12_isMarked_4 : decode cX12_isMarked 4 = .ok (.sipush 211, 3) := by decide +kernel
theorem dX12_isMarked_7 : decode cX12_isMarked 7 = .ok (.iload_n 1, 1) := by decide +kernel
theorem dX12_isMarked_8 : decode cX12_isMarked 8 = .ok (.iadd, 1) := by decide +kernel
theorem dX12_isMarked_9 : decode cX12_isMarked 9 = .ok (.iaload, 1) := by decide +kernel
theorem dX12_isMarked_10 : decode cX12_isMarked 10 = .ok (.iconst (-1), 1) := by decide +kernel
theorem dX12_isMarked_11 : decode cX12_isMarked 11 = .ok (.if_icmp .eq 29, 3) := by decide +kernel
theorem dX12_isMarked_14 : decode cX12_isMarked 14 = .ok (.aload_n 0, 1) := by decide +kernel
theorem dX12_isMarked_15 : decode cX12_isMarked 15 = .ok (.getfield 9, 3) := by decide +kernel
theorem dX12_isMarked_18 : decode cX12_isMarked 18 = .ok (.sipush 211, 3) := by decide +kernel
theorem dX12_isMarked_21 : decode cX12_isMarked 21 = .ok (.iload_n 1, 1) := by decide +kernel
theorem dX12_isMarked_22 : decode cX12_isMarked 22 = .ok (.iadd, 1) := by decide +kernel
theorem dX12_isMarked_23 : decode cX12_isMarked 23 = .ok (.iaload, 1) := by decide +kernel
theorem dX12_isMarked_24 : decode cX12_isMarked 24 = .ok (.aload_n 0, 1) := by decide +kernel
theorem dX12_isMarked_25 : decode cX12_isMarked 25 = .ok (.getfield 9, 3) := by decide +kernel
theorem dX12_isMarked_28 : decode cX12_isMarked 28 = .ok (.bipush 11, 2) := by decide +kernel
theorem dX12_isMarked_30 : decode cX12_isMarked 30 = .ok (.iload_n 1, 1) := by decide +kernel
theorem dX12_isMarked_31 : decode cX12_isMarked 31 = .ok (.iadd, 1) := by decide +kernel
theorem dX12_isMarked_32 : decode cX12_isMarked 32 = .ok (.iaload, 1) := by decide +kernel
theorem dX12_isMarked_33 : decode cX12_isMarked 33 = .ok (.if_icmp .eq 7, 3) := by decide +kernel
theorem dX12_isMarked_36 : decode cX12_isMarked 36 = .ok (.iconst 1, 1) := by decide +kernel
theorem dX12_isMarked_37 : decode cX12_isMarked 37 = .ok (.goto 4, 3) := by decide +kernel
theorem dX12_isMarked_40 : decode cX12_isMarked 40 = .ok (.iconst 0, 1) := by decide +kernel
theorem dX12_isMarked_41 : decode cX12_isMarked 41 = .ok (.ireturn, 1) := by decide +kernel
theorem dX12_markedMany_0 : decode cX12_markedMany 0 = .ok (.iconst 0, 1) := by decide +kernel
theorem dX12_markedMany_1 : decode cX12_markedMany 1 = .ok (.istore_n 1, 1) := by decide +kernel
theorem dX12_markedMany_2 : decode cX12_markedMany 2 = .ok (.iconst 0, 1) := by decide +kernel
theorem dX12_markedMany_3 : decode cX12_markedMany 3 = .ok (.istore_n 2, 1) := by decide +kernel
theorem dX12_markedMany_4 : decode cX12_markedMany 4 = .ok (.iload_n 2, 1) := by decide +kernel
theorem dX12_markedMany_5 : decode cX12_markedMany 5 = .ok (.aload_n 0, 1) := by decide +kernel
theorem dX12_markedMany_6 : decode cX12_markedMany 6 = .ok (.getfield 9, 3) := by decide +kernel
theorem dX12_markedMany_9 : decode cX12_markedMany 9 = .ok (.iconst 1, 1) := by decide +kernel
theorem dX12_markedMany_10 : decode cX12_markedMany 10 = .ok (.iaload, 1) := by decide +kernel
theorem dX12_markedMany_11 : decode cX12_markedMany 11 = .ok (.if_icmp .ge 47, 3) := by decide +kernel
theorem dX12_markedMany_14 : decode cX12_markedMany 14 = .ok (.iconst 0, 1) := by decide +kernel
theorem dX12_markedMany_15 : decode cX12_markedMany 15 = .ok (.istore_n 3, 1) := by decide +kernel
theorem dX12_markedMany_16 : decode cX12_markedMany 16 = .ok (.iload_n 3, 1) := by decide +kernel
theorem dX12_markedMany_17 : decode cX12_markedMany 17 = .ok (.aload_n 0, 1) := by decide +kernel
theorem dX12_markedMany_18 : decode cX12_markedMany 18 = .ok (.getfield 9, 3) := by decide +kernel
theorem dX12_markedMany_21 : decode cX12_markedMany 21 = .ok (.iconst 0, 1) := by decide +kernel
theorem dX12_markedMany_22 : decode cX12_markedMany 22 = .ok (.iaload, 1) := by decide +kernel
theorem dX12_markedMany_23 : decode cX12_markedMany 23 = .ok (.if_icmp .ge 29, 3) := by decide +kernel
theorem dX12_markedMany_26 : decode cX12_markedMany 26 = .ok (.iload_n 1, 1) := by decide +kernel
theorem dX12_markedMany_27 : decode cX12_markedMany 27 = .ok (.aload_n 0, 1) := by decide +kernel
theorem dX12_markedMany_28 : decode cX12_markedMany 28 = .ok (.iload_n 2, 1) := by decide +kernel
theorem dX12_markedMany_29 : decode cX12_markedMany 29 = .ok (.iload_n 3, 1) := by decide +kernel
theorem dX12_markedMany_30 : decode cX12_markedMany 30 = .ok (.invokestatic 105, 3) := by decide +kernel
theorem dX12_markedMany_33 : decode cX12_markedMany 33 = .ok (.invokevirtual 364, 3) := by decide +kernel
theorem dX12_markedMany_36 : decode cX12_markedMany 36 = .ok (.ifCond .eq 7, 3) := by decide +kernel
theorem dX12_markedMany_39 : decode cX12_markedMany 39 = .ok (.iconst 1, 1) := by decide +kernel
theorem dX12_markedMany_40 : decode cX12_markedMany 40 = .ok (.goto 4, 3) := by decide +kernel
theorem dX12_markedMany_43 : decode cX12_markedMany 43 = .ok (.iconst 0, 1) := by decide +kernel
theorem dX12_markedMany_44 : decode cX12_markedMany 44 = .ok (.iadd, 1) := by decide +kernel
theorem dX12_markedMany_45 : decode cX12_markedMany 45 = .ok (.istore_n 1, 1) := by decide +kernel
theorem dX12_markedMany_46 : decode cX12_markedMany 46 = .ok (.iinc 3 1, 3) := by decide +kernel
theorem dX12_markedMany_49 : decode cX12_markedMany 49 = .ok (.goto (-33), 3) := by decide +kernel
theorem dX12_markedMany_52 : decode cX12_markedMany 52 = .ok (.iinc 2 1, 3) := by decide +kernel
theorem dX12_markedMany_55 : decode cX12_markedMany 55 = .ok (.goto (-51), 3) := by decide +kernel
theorem dX12_markedMany_58 : decode cX12_markedMany 58 = .ok (.iload_n 1, 1) := by decide +kernel
theorem dX12_markedMany_59 : decode cX12_markedMany 59 = .ok (.ireturn, 1) := by decide +kernel
theorem dX12_turn_0 : decode cX12_turn 0 = .ok (.aload_n 0, 1) := by decide +kernel
theorem dX12_turn_1 : decode cX12_turn 1 = .ok (.invokevirtual 330, 3) := by decide +kernel
theorem dX12_turn_4 : decode cX12_turn 4 = .ok (.ifCond .ne 6, 3) := by decide +kernel
theorem dX12_turn_7 : decode cX12_turn 7 = .ok (.bipush (-2), 2) := by decide +kernel
theorem dX12_turn_9 : decode cX12_turn 9 = .ok (.ireturn, 1) := by decide +kernel
theorem dX12_turn_10 : decode cX12_turn 10 = .ok (.aload_n 0, 1) := by decide +kernel
theorem dX12_turn_11 : decode cX12_turn 11 = .ok (.invokevirtual 367, 3) := by decide +kernel
theorem dX12_turn_14 : decode cX12_turn 14 = .ok (.istore_n 1, 1) := by decide +kernel
theorem dX12_turn_15 : decode cX12_turn 15 = .ok (.iconst 0, 1) := by decide +kernel
theorem dX12_turn_16 : decode cX12_turn 16 = .ok (.istore_n 2, 1) := by decide +kernel
theorem dX12_turn_17 : decode cX12_turn 17 = .ok (.iload_n 2, 1) := by decide +kernel
theorem dX12_turn_18 : decode cX12_turn 18 = .ok (.bipush 100, 2) := by decide +kernel
theorem dX12_turn_20 : decode cX12_turn 20 = .ok (.if_icmp .ge 77, 3) := by decide +kernel
theorem dX12_turn_23 : decode cX12_turn 23 = .ok (.aload_n 0, 1) := by decide +kernel
theorem dX12_turn_24 : decode cX12_turn 24 = .ok (.getfield 9, 3) := by decide +kernel
theorem dX12_turn_27 : decode cX12_turn 27 = .ok (.bipush 11, 2) := by decide +kernel
theorem dX12_turn_29 : decode cX12_turn 29 = .ok (.iload_n 2, 1) := by decide +kernel
theorem dX12_turn_30 : decode cX12_turn 30 = .ok (.iadd, 1) := by decide +kernel
theorem dX12_turn_31 : decode cX12_turn 31 = .ok (.iaload, 1) := by decide +kernel
theorem dX12_turn_32 : decode cX12_turn 32 = .ok (.istore_n 3, 1) := by decide +kernel
theorem dX12_turn_33 : decode cX12_turn 33 = .ok (.aload_n 0, 1) := by decide +kernel
theorem dX12_turn_34 : decode cX12_turn 34 = .ok (.getfield 9, 3) := by decide +kernel
theorem dX12_turn_37 : decode cX12_turn 37 = .ok (.bipush 11, 2) := by decide +kernel
theorem dX12_turn_39 : decode cX12_turn 39 = .ok (.iload_n 2, 1) := by decide +kernel
theorem dX12_turn_40 : decode cX12_turn 40 = .ok (.iadd, 1) := by decide +kernel
theorem dX12_turn_41 : decode cX12_turn 41 = .ok (.aload_n 0, 1) := by decide +kernel
theorem dX12_turn_42 : decode cX12_turn 42 = .ok (.getfield 9, 3) := by decide +kernel
theorem dX12_turn_45 : decode cX12_turn 45 = .ok (.sipush 211, 3) := by decide +kernel
theorem dX12_turn_48 : decode cX12_turn 48 = .ok (.iload_n 2, 1) := by decide +kernel
theorem dX12_turn_49 : decode cX12_turn 49 = .ok (.iadd, 1) := by decide +kernel
theorem dX12_turn_50 : decode cX12_turn 50 = .ok (.iaload, 1) := by decide +kernel
theorem dX12_turn_51 : decode cX12_turn 51 = .ok (.iconst (-1), 1) := by decide +kernel
theorem dX12_turn_52 : decode cX12_turn 52 = .ok (.if_icmp .ne 7, 3) := by decide +kernel
theorem dX12_turn_55 : decode cX12_turn 55 = .ok (.iload_n 3, 1) := by decide +kernel
theorem dX12_turn_56 : decode cX12_turn 56 = .ok (.goto 13, 3) := by decide +kernel
theorem dX12_turn_59 : decode cX12_turn 59 = .ok (.aload_n 0, 1) := by decide +kernel
theorem dX12_turn_60 : decode cX12_turn 60 = .ok (.getfield 9, 3) := by decide +kernel
theorem dX12_turn_63 : decode cX12_turn 63 = .ok (.sipush 211, 3) := by decide +kernel
theorem dX12_turn_66 : decode cX12_turn 66 = .ok (.iload_n 2, 1) := by decide +kernel
theorem dX12_turn_67 : decode cX12_turn 67 = .ok (.iadd, 1) := by decide +kernel
theorem dX12_turn_68 : decode cX12_turn 68 = .ok (.iaload, 1) := by decide +kernel
theorem dX12_turn_69 : decode cX12_turn 69 = .ok (.iastore, 1) := by decide +kernel
theorem dX12_turn_70 : decode cX12_turn 70 = .ok (.aload_n 0, 1) := by decide +kernel
theorem dX12_turn_71 : decode cX12_turn 71 = .ok (.getfield 9, 3) := by decide +kernel
theorem dX12_turn_74 : decode cX12_turn 74 = .ok (.bipush 111, 2) := by decide +kernel
theorem dX12_turn_76 : decode cX12_turn 76 = .ok (.iload_n 2, 1) := by decide +kernel
theorem dX12_turn_77 : decode cX12_turn 77 = .ok (.iadd, 1) := by decide +kernel
theorem dX12_turn_78 : decode cX12_turn 78 = .ok (.iload_n 3, 1) := by decide +kernel
theorem dX12_turn_79 : decode cX12_turn 79 = .ok (.iastore, 1) := by decide +kernel
theorem dX12_turn_80 : decode cX12_turn 80 = .ok (.aload_n 0, 1) := by decide +kernel
theorem dX12_turn_81 : decode cX12_turn 81 = .ok (.getfield 9, 3) := by decide +kernel
theorem dX12_turn_84 : decode cX12_turn 84 = .ok (.sipush 211, 3) := by decide +kernel
theorem dX12_turn_87 : decode cX12_turn 87 = .ok (.iload_n 2, 1) := by decide +kernel
theorem dX12_turn_88 : decode cX12_turn 88 = .ok (.iadd, 1) := by decide +kernel
theorem dX12_turn_89 : decode cX12_turn 89 = .ok (.iconst (-1), 1) := by decide +kernel
theorem dX12_turn_90 : decode cX12_turn 90 = .ok (.iastore, 1) := by decide +kernel
theorem dX12_turn_91 : decode cX12_turn 91 = .ok (.iinc 2 1, 3) := by decide +kernel
theorem dX12_turn_94 : decode cX12_turn 94 = .ok (.goto (-77), 3) := by decide +kernel
theorem dX12_turn_97 : decode cX12_turn 97 = .ok (.iload_n 1, 1) := by decide +kernel
theorem dX12_turn_98 : decode cX12_turn 98 = .ok (.ireturn, 1) := by decide +kernel
theorem dX12_madeBy_0 : decode cX12_madeBy 0 = .ok (.bipush 11, 2) := by decide +kernel
theorem dX12_madeBy_2 : decode cX12_madeBy 2 = .ok (.aload_n 0, 1) := by decide +kernel
theorem dX12_madeBy_3 : decode cX12_madeBy 3 = .ok (.iload_n 1, 1) := by decide +kernel
theorem dX12_madeBy_4 : decode cX12_madeBy 4 = .ok (.invokevirtual 270, 3) := by decide +kernel
theorem dX12_madeBy_7 : decode cX12_madeBy 7 = .ok (.iload_n 2, 1) := by decide +kernel
theorem dX12_madeBy_8 : decode cX12_madeBy 8 = .ok (.invokestatic 105, 3) := by decide +kernel
theorem dX12_madeBy_11 : decode cX12_madeBy 11 = .ok (.iadd, 1) := by decide +kernel
theorem dX12_madeBy_12 : decode cX12_madeBy 12 = .ok (.istore 4, 2) := by decide +kernel
theorem dX12_madeBy_14 : decode cX12_madeBy 14 = .ok (.aload_n 0, 1) := by decide +kernel
theorem dX12_madeBy_15 : decode cX12_madeBy 15 = .ok (.getfield 9, 3) := by decide +kernel
theorem dX12_madeBy_18 : decode cX12_madeBy 18 = .ok (.iload 4, 2) := by decide +kernel
theorem dX12_madeBy_20 : decode cX12_madeBy 20 = .ok (.iaload, 1) := by decide +kernel
theorem dX12_madeBy_21 : decode cX12_madeBy 21 = .ok (.istore 5, 2) := by decide +kernel
theorem dX12_madeBy_23 : decode cX12_madeBy 23 = .ok (.aload_n 0, 1) := by decide +kernel
theorem dX12_madeBy_24 : decode cX12_madeBy 24 = .ok (.iload_n 1, 1) := by decide +kernel
theorem dX12_madeBy_25 : decode cX12_madeBy 25 = .ok (.iconst (-1), 1) := by decide +kernel
theorem dX12_madeBy_26 : decode cX12_madeBy 26 = .ok (.invokevirtual 350, 3) := by decide +kernel
theorem dX12_madeBy_29 : decode cX12_madeBy 29 = .ok (.istore 6, 2) := by decide +kernel
theorem dX12_madeBy_31 : decode cX12_madeBy 31 = .ok (.aload_n 0, 1) := by decide +kernel
theorem dX12_madeBy_32 : decode cX12_madeBy 32 = .ok (.getfield 9, 3) := by decide +kernel
theorem dX12_madeBy_35 : decode cX12_madeBy 35 = .ok (.iload 4, 2) := by decide +kernel
theorem dX12_madeBy_37 : decode cX12_madeBy 37 = .ok (.iload_n 3, 1) := by decide +kernel
theorem dX12_madeBy_38 : decode cX12_madeBy 38 = .ok (.iastore, 1) := by decide +kernel
theorem dX12_madeBy_39 : decode cX12_madeBy 39 = .ok (.aload_n 0, 1) := by decide +kernel
theorem dX12_madeBy_40 : decode cX12_madeBy 40 = .ok (.iload_n 1, 1) := by decide +kernel
theorem dX12_madeBy_41 : decode cX12_madeBy 41 = .ok (.iconst (-1), 1) := by decide +kernel
theorem dX12_madeBy_42 : decode cX12_madeBy 42 = .ok (.invokevirtual 350, 3) := by decide +kernel
theorem dX12_madeBy_45 : decode cX12_madeBy 45 = .ok (.istore 7, 2) := by decide +kernel
theorem dX12_madeBy_47 : decode cX12_madeBy 47 = .ok (.aload_n 0, 1) := by decide +kernel
theorem dX12_madeBy_48 : decode cX12_madeBy 48 = .ok (.getfield 9, 3) := by decide +kernel
theorem dX12_madeBy_51 : decode cX12_madeBy 51 = .ok (.iload 4, 2) := by decide +kernel
theorem dX12_madeBy_53 : decode cX12_madeBy 53 = .ok (.iload 5, 2) := by decide +kernel
theorem dX12_madeBy_55 : decode cX12_madeBy 55 = .ok (.iastore, 1) := by decide +kernel
theorem dX12_madeBy_56 : decode cX12_madeBy 56 = .ok (.iload 7, 2) := by decide +kernel
theorem dX12_madeBy_58 : decode cX12_madeBy 58 = .ok (.iload 6, 2) := by decide +kernel
theorem dX12_madeBy_60 : decode cX12_madeBy 60 = .ok (.isub, 1) := by decide +kernel
theorem dX12_madeBy_61 : decode cX12_madeBy 61 = .ok (.ireturn, 1) := by decide +kernel
theorem dX12_made_0 : decode cX12_made 0 = .ok (.aload_n 0, 1) := by decide +kernel
theorem dX12_made_1 : decode cX12_made 1 = .ok (.iload_n 1, 1) := by decide +kernel
theorem dX12_made_2 : decode cX12_made 2 = .ok (.invokevirtual 315, 3) := by decide +kernel
theorem dX12_made_5 : decode cX12_made 5 = .ok (.ifCond .eq 34, 3) := by decide +kernel
theorem dX12_made_8 : decode cX12_made 8 = .ok (.aload_n 0, 1) := by decide +kernel
theorem dX12_made_9 : decode cX12_made 9 = .ok (.iload_n 2, 1) := by decide +kernel
theorem dX12_made_10 : decode cX12_made 10 = .ok (.i2l, 1) := by decide +kernel
theorem dX12_made_11 : decode cX12_made 11 = .ok (.invokevirtual 102, 3) := by decide +kernel
theorem dX12_made_14 : decode cX12_made 14 = .ok (.ifCond .eq 25, 3) := by decide +kernel
theorem dX12_made_17 : decode cX12_made 17 = .ok (.iload_n 3, 1) := by decide +kernel
theorem dX12_made_18 : decode cX12_made 18 = .ok (.i2l, 1) := by decide +kernel
theorem dX12_made_19 : decode cX12_made 19 = .ok (.lconst 0, 1) := by decide +kernel
theorem dX12_made_20 : decode cX12_made 20 = .ok (.ldc2_w 356, 3) := by decide +kernel
theorem dX12_made_23 : decode cX12_made 23 = .ok (.invokestatic 94, 3) := by decide +kernel
theorem dX12_made_26 : decode cX12_made 26 = .ok (.ifCond .eq 13, 3) := by decide +kernel
theorem dX12_made_29 : decode cX12_made 29 = .ok (.aload_n 0, 1) := by decide +kernel
theorem dX12_made_30 : decode cX12_made 30 = .ok (.iload_n 1, 1) := by decide +kernel
theorem dX12_made_31 : decode cX12_made 31 = .ok (.iload_n 2, 1) := by decide +kernel
theorem dX12_made_32 : decode cX12_made 32 = .ok (.iload_n 3, 1) := by decide +kernel
theorem dX12_made_33 : decode cX12_made 33 = .ok (.invokevirtual 370, 3) := by decide +kernel
theorem dX12_made_36 : decode cX12_made 36 = .ok (.goto 6, 3) := by decide +kernel
theorem dX12_made_39 : decode cX12_made 39 = .ok (.ldc_w 374, 3) := by decide +kernel
theorem dX12_made_42 : decode cX12_made 42 = .ok (.ireturn, 1) := by decide +kernel
theorem dX12_least_0 : decode cX12_least 0 = .ok (.aload_n 0, 1) := by decide +kernel
theorem dX12_least_1 : decode cX12_least 1 = .ok (.iload_n 1, 1) := by decide +kernel
theorem dX12_least_2 : decode cX12_least 2 = .ok (.invokevirtual 315, 3) := by decide +kernel
theorem dX12_least_5 : decode cX12_least 5 = .ok (.ifCond .eq 24, 3) := by decide +kernel
theorem dX12_least_8 : decode cX12_least 8 = .ok (.aload_n 0, 1) := by decide +kernel
theorem dX12_least_9 : decode cX12_least 9 = .ok (.iload_n 2, 1) := by decide +kernel
theorem dX12_least_10 : decode cX12_least 10 = .ok (.i2l, 1) := by decide +kernel
theorem dX12_least_11 : decode cX12_least 11 = .ok (.invokevirtual 102, 3) := by decide +kernel
theorem dX12_least_14 : decode cX12_least 14 = .ok (.ifCond .eq 15, 3) := by decide +kernel
theorem dX12_least_17 : decode cX12_least 17 = .ok (.iload_n 3, 1) := by decide +kernel
theorem dX12_least_18 : decode cX12_least 18 = .ok (.i2l, 1) := by decide +kernel
theorem dX12_least_19 : decode cX12_least 19 = .ok (.lconst 1, 1) := by decide +kernel
theorem dX12_least_20 : decode cX12_least 20 = .ok (.ldc2_w 375, 3) := by decide +kernel
theorem dX12_least_23 : decode cX12_least 23 = .ok (.invokestatic 94, 3) := by decide +kernel
theorem dX12_least_26 : decode cX12_least 26 = .ok (.ifCond .ne 6, 3) := by decide +kernel
theorem dX12_least_29 : decode cX12_least 29 = .ok (.bipush (-2), 2) := by decide +kernel
theorem dX12_least_31 : decode cX12_least 31 = .ok (.ireturn, 1) := by decide +kernel
theorem dX12_least_32 : decode cX12_least 32 = .ok (.iconst 0, 1) := by decide +kernel
theorem dX12_least_33 : decode cX12_least 33 = .ok (.istore 4, 2) := by decide +kernel
theorem dX12_least_35 : decode cX12_least 35 = .ok (.iload 4, 2) := by decide +kernel
theorem dX12_least_37 : decode cX12_least 37 = .ok (.bipush 99, 2) := by decide +kernel
theorem dX12_least_39 : decode cX12_least 39 = .ok (.if_icmp .gt 24, 3) := by decide +kernel
theorem dX12_least_42 : decode cX12_least 42 = .ok (.aload_n 0, 1) := by decide +kernel
theorem dX12_least_43 : decode cX12_least 43 = .ok (.iload_n 1, 1) := by decide +kernel
theorem dX12_least_44 : decode cX12_least 44 = .ok (.iload_n 2, 1) := by decide +kernel
theorem dX12_least_45 : decode cX12_least 45 = .ok (.iload 4, 2) := by decide +kernel
theorem dX12_least_47 : decode cX12_least 47 = .ok (.invokevirtual 370, 3) := by decide +kernel
theorem dX12_least_50 : decode cX12_least 50 = .ok (.iload_n 3, 1) := by decide +kernel
theorem dX12_least_51 : decode cX12_least 51 = .ok (.if_icmp .lt 6, 3) := by decide +kernel
theorem dX12_least_54 : decode cX12_least 54 = .ok (.iload 4, 2) := by decide +kernel
theorem dX12_least_56 : decode cX12_least 56 = .ok (.ireturn, 1) := by decide +kernel
theorem dX12_least_57 : decode cX12_least 57 = .ok (.iinc 4 1, 3) := by decide +kernel
theorem dX12_least_60 : decode cX12_least 60 = .ok (.goto (-25), 3) := by decide +kernel
theorem dX12_least_63 : decode cX12_least 63 = .ok (.iconst (-1), 1) := by decide +kernel
theorem dX12_least_64 : decode cX12_least 64 = .ok (.ireturn, 1) := by decide +kernel
theorem dX12_most_0 : decode cX12_most 0 = .ok (.aload_n 0, 1) := by decide +kernel
theorem dX12_most_1 : decode cX12_most 1 = .ok (.iload_n 1, 1) := by decide +kernel
theorem dX12_most_2 : decode cX12_most 2 = .ok (.invokevirtual 315, 3) := by decide +kernel
theorem dX12_most_5 : decode cX12_most 5 = .ok (.ifCond .ne 6, 3) := by decide +kernel
theorem dX12_most_8 : decode cX12_most 8 = .ok (.bipush (-2), 2) := by decide +kernel
theorem dX12_most_10 : decode cX12_most 10 = .ok (.ireturn, 1) := by decide +kernel
theorem dX12_most_11 : decode cX12_most 11 = .ok (.iconst (-1), 1) := by decide +kernel
theorem dX12_most_12 : decode cX12_most 12 = .ok (.istore_n 2, 1) := by decide +kernel
theorem dX12_most_13 : decode cX12_most 13 = .ok (.iconst 0, 1) := by decide +kernel
theorem dX12_most_14 : decode cX12_most 14 = .ok (.istore_n 3, 1) := by decide +kernel
theorem dX12_most_15 : decode cX12_most 15 = .ok (.iconst 0, 1) := by decide +kernel
theorem dX12_most_16 : decode cX12_most 16 = .ok (.istore 4, 2) := by decide +kernel
theorem dX12_most_18 : decode cX12_most 18 = .ok (.iload 4, 2) := by decide +kernel
theorem dX12_most_20 : decode cX12_most 20 = .ok (.aload_n 0, 1) := by decide +kernel
theorem dX12_most_21 : decode cX12_most 21 = .ok (.getfield 9, 3) := by decide +kernel
theorem dX12_most_24 : decode cX12_most 24 = .ok (.iconst 0, 1) := by decide +kernel
theorem dX12_most_25 : decode cX12_most 25 = .ok (.iaload, 1) := by decide +kernel
theorem dX12_most_26 : decode cX12_most 26 = .ok (.if_icmp .ge 82, 3) := by decide +kernel
theorem dX12_most_29 : decode cX12_most 29 = .ok (.bipush 99, 2) := by decide +kernel
theorem dX12_most_31 : decode cX12_most 31 = .ok (.aload_n 0, 1) := by decide +kernel
theorem dX12_most_32 : decode cX12_most 32 = .ok (.aload_n 0, 1) := by decide +kernel
theorem dX12_most_33 : decode cX12_most 33 = .ok (.iload_n 1, 1) := by decide +kernel
theorem dX12_most_34 : decode cX12_most 34 = .ok (.invokevirtual 270, 3) := by decide +kernel
theorem dX12_most_37 : decode cX12_most 37 = .ok (.iload 4, 2) := by decide +kernel
theorem dX12_most_39 : decode cX12_most 39 = .ok (.invokevirtual 263, 3) := by decide +kernel
theorem dX12_most_42 : decode cX12_most 42 = .ok (.aload_n 0, 1) := by decide +kernel
theorem dX12_most_43 : decode cX12_most 43 = .ok (.getfield 9, 3) := by decide +kernel
theorem dX12_most_46 : decode cX12_most 46 = .ok (.iconst 5, 1) := by decide +kernel
theorem dX12_most_47 : decode cX12_most 47 = .ok (.iaload, 1) := by decide +kernel
theorem dX12_most_48 : decode cX12_most 48 = .ok (.iadd, 1) := by decide +kernel
theorem dX12_most_49 : decode cX12_most 49 = .ok (.invokestatic 142, 3) := by decide +kernel
theorem dX12_most_52 : decode cX12_most 52 = .ok (.istore 5, 2) := by decide +kernel
theorem dX12_most_54 : decode cX12_most 54 = .ok (.iconst 0, 1) := by decide +kernel
theorem dX12_most_55 : decode cX12_most 55 = .ok (.istore 6, 2) := by decide +kernel
theorem dX12_most_57 : decode cX12_most 57 = .ok (.iload 6, 2) := by decide +kernel
theorem dX12_most_59 : decode cX12_most 59 = .ok (.iload 5, 2) := by decide +kernel
theorem dX12_most_61 : decode cX12_most 61 = .ok (.if_icmp .gt 41, 3) := by decide +kernel
theorem dX12_most_64 : decode cX12_most 64 = .ok (.aload_n 0, 1) := by decide +kernel
theorem dX12_most_65 : decode cX12_most 65 = .ok (.iload_n 1, 1) := by decide +kernel
theorem dX12_most_66 : decode cX12_most 66 = .ok (.iload 4, 2) := by decide +kernel
theorem dX12_most_68 : decode cX12_most 68 = .ok (.iload 6, 2) := by decide +kernel
theorem dX12_most_70 : decode cX12_most 70 = .ok (.invokevirtual 370, 3) := by decide +kernel
theorem dX12_most_73 : decode cX12_most 73 = .ok (.istore 7, 2) := by decide +kernel
theorem dX12_most_75 : decode cX12_most 75 = .ok (.iload 7, 2) := by decide +kernel
theorem dX12_most_77 : decode cX12_most 77 = .ok (.iload_n 3, 1) := by decide +kernel
theorem dX12_most_78 : decode cX12_most 78 = .ok (.if_icmp .gt 6, 3) := by decide +kernel
theorem dX12_most_81 : decode cX12_most 81 = .ok (.goto 15, 3) := by decide +kernel
theorem dX12_most_84 : decode cX12_most 84 = .ok (.bipush 100, 2) := by decide +kernel
theorem dX12_most_86 : decode cX12_most 86 = .ok (.iload 4, 2) := by decide +kernel
theorem dX12_most_88 : decode cX12_most 88 = .ok (.imul, 1) := by decide +kernel
theorem dX12_most_89 : decode cX12_most 89 = .ok (.iload 6, 2) := by decide +kernel
theorem dX12_most_91 : decode cX12_most 91 = .ok (.iadd, 1) := by decide +kernel
theorem dX12_most_92 : decode cX12_most 92 = .ok (.istore_n 2, 1) := by decide +kernel
theorem dX12_most_93 : decode cX12_most 93 = .ok (.iload 7, 2) := by decide +kernel
theorem dX12_most_95 : decode cX12_most 95 = .ok (.istore_n 3, 1) := by decide +kernel
theorem dX12_most_96 : decode cX12_most 96 = .ok (.iinc 6 1, 3) := by decide +kernel
theorem dX12_most_99 : decode cX12_most 99 = .ok (.goto (-42), 3) := by decide +kernel
theorem dX12_most_102 : decode cX12_most 102 = .ok (.iinc 4 1, 3) := by decide +kernel
theorem dX12_most_105 : decode cX12_most 105 = .ok (.goto (-87), 3) := by decide +kernel
theorem dX12_most_108 : decode cX12_most 108 = .ok (.iload_n 2, 1) := by decide +kernel
theorem dX12_most_109 : decode cX12_most 109 = .ok (.ireturn, 1) := by decide +kernel
theorem dX12_leap_0 : decode cX12_leap 0 = .ok (.aload_n 0, 1) := by decide +kernel
theorem dX12_leap_1 : decode cX12_leap 1 = .ok (.iload_n 1, 1) := by decide +kernel
theorem dX12_leap_2 : decode cX12_leap 2 = .ok (.iload_n 2, 1) := by decide +kernel
theorem dX12_leap_3 : decode cX12_leap 3 = .ok (.invokevirtual 307, 3) := by decide +kernel
theorem dX12_leap_6 : decode cX12_leap 6 = .ok (.ifCond .eq 15, 3) := by decide +kernel
theorem dX12_leap_9 : decode cX12_leap 9 = .ok (.iload_n 3, 1) := by decide +kernel
theorem dX12_leap_10 : decode cX12_leap 10 = .ok (.i2l, 1) := by decide +kernel
theorem dX12_leap_11 : decode cX12_leap 11 = .ok (.lconst 0, 1) := by decide +kernel
theorem dX12_leap_12 : decode cX12_leap 12 = .ok (.ldc2_w 92, 3) := by decide +kernel
theorem dX12_leap_15 : decode cX12_leap 15 = .ok (.invokestatic 94, 3) := by decide +kernel
theorem dX12_leap_18 : decode cX12_leap 18 = .ok (.ifCond .ne 6, 3) := by decide +kernel
theorem dX12_leap_21 : decode cX12_leap 21 = .ok (.bipush (-2), 2) := by decide +kernel
theorem dX12_leap_23 : decode cX12_leap 23 = .ok (.ireturn, 1) := by decide +kernel
theorem dX12_leap_24 : decode cX12_leap 24 = .ok (.aload_n 0, 1) := by decide +kernel
theorem dX12_leap_25 : decode cX12_leap 25 = .ok (.iload_n 1, 1) := by decide +kernel
theorem dX12_leap_26 : decode cX12_leap 26 = .ok (.iload_n 2, 1) := by decide +kernel
theorem dX12_leap_27 : decode cX12_leap 27 = .ok (.invokevirtual 263, 3) := by decide +kernel
theorem dX12_leap_30 : decode cX12_leap 30 = .ok (.istore 4, 2) := by decide +kernel
theorem dX12_leap_32 : decode cX12_leap 32 = .ok (.aload_n 0, 1) := by decide +kernel
theorem dX12_leap_33 : decode cX12_leap 33 = .ok (.iload_n 1, 1) := by decide +kernel
theorem dX12_leap_34 : decode cX12_leap 34 = .ok (.iload_n 2, 1) := by decide +kernel
theorem dX12_leap_35 : decode cX12_leap 35 = .ok (.iconst 1, 1) := by decide +kernel
theorem dX12_leap_36 : decode cX12_leap 36 = .ok (.iadd, 1) := by decide +kernel
theorem dX12_leap_37 : decode cX12_leap 37 = .ok (.aload_n 0, 1) := by decide +kernel
theorem dX12_leap_38 : decode cX12_leap 38 = .ok (.getfield 9, 3) := by decide +kernel
theorem dX12_leap_41 : decode cX12_leap 41 = .ok (.iconst 0, 1) := by decide +kernel
theorem dX12_leap_42 : decode cX12_leap 42 = .ok (.iaload, 1) := by decide +kernel
theorem dX12_leap_43 : decode cX12_leap 43 = .ok (.irem, 1) := by decide +kernel
theorem dX12_leap_44 : decode cX12_leap 44 = .ok (.invokevirtual 263, 3) := by decide +kernel
theorem dX12_leap_47 : decode cX12_leap 47 = .ok (.istore 5, 2) := by decide +kernel
theorem dX12_leap_49 : decode cX12_leap 49 = .ok (.iload_n 3, 1) := by decide +kernel
theorem dX12_leap_50 : decode cX12_leap 50 = .ok (.ifCond .ne 8, 3) := by decide +kernel
theorem dX12_leap_53 : decode cX12_leap 53 = .ok (.iload 4, 2) := by decide +kernel
theorem dX12_leap_55 : decode cX12_leap 55 = .ok (.goto 20, 3) := by decide +kernel
theorem dX12_leap_58 : decode cX12_leap 58 = .ok (.iload_n 3, 1) := by decide +kernel
theorem dX12_leap_59 : decode cX12_leap 59 = .ok (.iconst 1, 1) := by decide +kernel
theorem dX12_leap_60 : decode cX12_leap 60 = .ok (.if_icmp .ne 8, 3) := by decide +kernel
theorem dX12_leap_63 : decode cX12_leap 63 = .ok (.iload 5, 2) := by decide +kernel
theorem dX12_leap_65 : decode cX12_leap 65 = .ok (.goto 10, 3) := by decide +kernel
theorem dX12_leap_68 : decode cX12_leap 68 = .ok (.iload 4, 2) := by decide +kernel
theorem dX12_leap_70 : decode cX12_leap 70 = .ok (.iload 5, 2) := by decide +kernel
theorem dX12_leap_72 : decode cX12_leap 72 = .ok (.iadd, 1) := by decide +kernel
theorem dX12_leap_73 : decode cX12_leap 73 = .ok (.iconst 2, 1) := by decide +kernel
theorem dX12_leap_74 : decode cX12_leap 74 = .ok (.idiv, 1) := by decide +kernel
theorem dX12_leap_75 : decode cX12_leap 75 = .ok (.ireturn, 1) := by decide +kernel
theorem dX12_comeAt_0 : decode cX12_comeAt 0 = .ok (.iconst 0, 1) := by decide +kernel
theorem dX12_comeAt_1 : decode cX12_comeAt 1 = .ok (.istore 4, 2) := by decide +kernel
theorem dX12_comeAt_3 : decode cX12_comeAt 3 = .ok (.iconst 0, 1) := by decide +kernel
theorem dX12_comeAt_4 : decode cX12_comeAt 4 = .ok (.istore 5, 2) := by decide +kernel
theorem dX12_comeAt_6 : decode cX12_comeAt 6 = .ok (.iload 5, 2) := by decide +kernel
theorem dX12_comeAt_8 : decode cX12_comeAt 8 = .ok (.aload_n 0, 1) := by decide +kernel
theorem dX12_comeAt_9 : decode cX12_comeAt 9 = .ok (.getfield 9, 3) := by decide +kernel
theorem dX12_comeAt_12 : decode cX12_comeAt 12 = .ok (.iconst 3, 1) := by decide +kernel
theorem dX12_comeAt_13 : decode cX12_comeAt 13 = .ok (.iaload, 1) := by decide +kernel
theorem dX12_comeAt_14 : decode cX12_comeAt 14 = .ok (.if_icmp .ge 65, 3) := by decide +kernel
theorem dX12_comeAt_17 : decode cX12_comeAt 17 = .ok (.iload 4, 2) := by decide +kernel
theorem dX12_comeAt_19 : decode cX12_comeAt 19 = .ok (.aload_n 0, 1) := by decide +kernel
theorem dX12_comeAt_20 : decode cX12_comeAt 20 = .ok (.iload 5, 2) := by decide +kernel
theorem dX12_comeAt_22 : decode cX12_comeAt 22 = .ok (.iconst 0, 1) := by decide +kernel
theorem dX12_comeAt_23 : decode cX12_comeAt 23 = .ok (.invokevirtual 260, 3) := by decide +kernel
theorem dX12_comeAt_26 : decode cX12_comeAt 26 = .ok (.iload_n 1, 1) := by decide +kernel
theorem dX12_comeAt_27 : decode cX12_comeAt 27 = .ok (.if_icmp .ne 42, 3) := by decide +kernel
theorem dX12_comeAt_30 : decode cX12_comeAt 30 = .ok (.iload_n 2, 1) := by decide +kernel
theorem dX12_comeAt_31 : decode cX12_comeAt 31 = .ok (.i2l, 1) := by decide +kernel
theorem dX12_comeAt_32 : decode cX12_comeAt 32 = .ok (.aload_n 0, 1) := by decide +kernel
theorem dX12_comeAt_33 : decode cX12_comeAt 33 = .ok (.iload 5, 2) := by decide +kernel
theorem dX12_comeAt_35 : decode cX12_comeAt 35 = .ok (.iconst 3, 1) := by decide +kernel
theorem dX12_comeAt_36 : decode cX12_comeAt 36 = .ok (.invokevirtual 260, 3) := by decide +kernel
theorem dX12_comeAt_39 : decode cX12_comeAt 39 = .ok (.i2l, 1) := by decide +kernel
theorem dX12_comeAt_40 : decode cX12_comeAt 40 = .ok (.aload_n 0, 1) := by decide +kernel
theorem dX12_comeAt_41 : decode cX12_comeAt 41 = .ok (.iload 5, 2) := by decide +kernel
theorem dX12_comeAt_43 : decode cX12_comeAt 43 = .ok (.iconst 4, 1) := by decide +kernel
theorem dX12_comeAt_44 : decode cX12_comeAt 44 = .ok (.invokevirtual 260, 3) := by decide +kernel
theorem dX12_comeAt_47 : decode cX12_comeAt 47 = .ok (.i2l, 1) := by decide +kernel
theorem dX12_comeAt_48 : decode cX12_comeAt 48 = .ok (.invokestatic 94, 3) := by decide +kernel
theorem dX12_comeAt_51 : decode cX12_comeAt 51 = .ok (.ifCond .eq 18, 3) := by decide +kernel
theorem dX12_comeAt_54 : decode cX12_comeAt 54 = .ok (.aload_n 0, 1) := by decide +kernel
theorem dX12_comeAt_55 : decode cX12_comeAt 55 = .ok (.iload 5, 2) := by decide +kernel
theorem dX12_comeAt_57 : decode cX12_comeAt 57 = .ok (.iconst 2, 1) := by decide +kernel
theorem dX12_comeAt_58 : decode cX12_comeAt 58 = .ok (.invokevirtual 260, 3) := by decide +kernel
theorem dX12_comeAt_61 : decode cX12_comeAt 61 = .ok (.iload_n 3, 1) := by decide +kernel
theorem dX12_comeAt_62 : decode cX12_comeAt 62 = .ok (.if_icmp .lt 7, 3) := by decide +kernel
theorem dX12_comeAt_65 : decode cX12_comeAt 65 = .ok (.iconst 1, 1) := by decide +kernel
theorem dX12_comeAt_66 : decode cX12_comeAt 66 = .ok (.goto 4, 3) := by decide +kernel
theorem dX12_comeAt_69 : decode cX12_comeAt 69 = .ok (.iconst 0, 1) := by decide +kernel
theorem dX12_comeAt_70 : decode cX12_comeAt 70 = .ok (.iadd, 1) := by decide +kernel
theorem dX12_comeAt_71 : decode cX12_comeAt 71 = .ok (.istore 4, 2) := by decide +kernel
theorem dX12_comeAt_73 : decode cX12_comeAt 73 = .ok (.iinc 5 1, 3) := by decide +kernel
theorem dX12_comeAt_76 : decode cX12_comeAt 76 = .ok (.goto (-70), 3) := by decide +kernel
theorem dX12_comeAt_79 : decode cX12_comeAt 79 = .ok (.iload 4, 2) := by decide +kernel
theorem dX12_comeAt_81 : decode cX12_comeAt 81 = .ok (.ireturn, 1) := by decide +kernel
theorem dX12_come_0 : decode cX12_come 0 = .ok (.aload_n 0, 1) := by decide +kernel
theorem dX12_come_1 : decode cX12_come 1 = .ok (.iload_n 1, 1) := by decide +kernel
theorem dX12_come_2 : decode cX12_come 2 = .ok (.iload_n 2, 1) := by decide +kernel
theorem dX12_come_3 : decode cX12_come 3 = .ok (.invokevirtual 307, 3) := by decide +kernel
theorem dX12_come_6 : decode cX12_come 6 = .ok (.ifCond .eq 25, 3) := by decide +kernel
theorem dX12_come_9 : decode cX12_come 9 = .ok (.iload_n 3, 1) := by decide +kernel
theorem dX12_come_10 : decode cX12_come 10 = .ok (.i2l, 1) := by decide +kernel
theorem dX12_come_11 : decode cX12_come 11 = .ok (.lconst 0, 1) := by decide +kernel
theorem dX12_come_12 : decode cX12_come 12 = .ok (.ldc2_w 356, 3) := by decide +kernel
theorem dX12_come_15 : decode cX12_come 15 = .ok (.invokestatic 94, 3) := by decide +kernel
theorem dX12_come_18 : decode cX12_come 18 = .ok (.ifCond .eq 13, 3) := by decide +kernel
theorem dX12_come_21 : decode cX12_come 21 = .ok (.aload_n 0, 1) := by decide +kernel
theorem dX12_come_22 : decode cX12_come 22 = .ok (.iload_n 1, 1) := by decide +kernel
theorem dX12_come_23 : decode cX12_come 23 = .ok (.iload_n 2, 1) := by decide +kernel
theorem dX12_come_24 : decode cX12_come 24 = .ok (.iload_n 3, 1) := by decide +kernel
theorem dX12_come_25 : decode cX12_come 25 = .ok (.invokevirtual 377, 3) := by decide +kernel
theorem dX12_come_28 : decode cX12_come 28 = .ok (.goto 5, 3) := by decide +kernel
theorem dX12_come_31 : decode cX12_come 31 = .ok (.bipush (-2), 2) := by decide +kernel
theorem dX12_come_33 : decode cX12_come 33 = .ok (.ireturn, 1) := by decide +kernel
theorem dX12_numberAt_0 : decode cX12_numberAt 0 = .ok (.aload_n 0, 1) := by decide +kernel
theorem dX12_numberAt_1 : decode cX12_numberAt 1 = .ok (.getfield 82, 3) := by decide +kernel
theorem dX12_numberAt_4 : decode cX12_numberAt 4 = .ok (.bipush 60, 2) := by decide +kernel
theorem dX12_numberAt_6 : decode cX12_numberAt 6 = .ok (.iload_n 1, 1) := by decide +kernel
theorem dX12_numberAt_7 : decode cX12_numberAt 7 = .ok (.imul, 1) := by decide +kernel
theorem dX12_numberAt_8 : decode cX12_numberAt 8 = .ok (.iload_n 2, 1) := by decide +kernel
theorem dX12_numberAt_9 : decode cX12_numberAt 9 = .ok (.iadd, 1) := by decide +kernel
theorem dX12_numberAt_10 : decode cX12_numberAt 10 = .ok (.laload, 1) := by decide +kernel
theorem dX12_numberAt_11 : decode cX12_numberAt 11 = .ok (.lreturn, 1) := by decide +kernel
theorem dX12_isSlot_0 : decode cX12_isSlot 0 = .ok (.iload_n 0, 1) := by decide +kernel
theorem dX12_isSlot_1 : decode cX12_isSlot 1 = .ok (.i2l, 1) := by decide +kernel
theorem dX12_isSlot_2 : decode cX12_isSlot 2 = .ok (.lconst 0, 1) := by decide +kernel
theorem dX12_isSlot_3 : decode cX12_isSlot 3 = .ok (.ldc2_w 333, 3) := by decide +kernel
theorem dX12_isSlot_6 : decode cX12_isSlot 6 = .ok (.invokestatic 94, 3) := by decide +kernel
theorem dX12_isSlot_9 : decode cX12_isSlot 9 = .ok (.ireturn, 1) := by decide +kernel
theorem dX12_asksCrowds_0 : decode cX12_asksCrowds 0 = .ok (.iload_n 1, 1) := by decide +kernel
theorem dX12_asksCrowds_1 : decode cX12_asksCrowds 1 = .ok (.invokestatic 380, 3) := by decide +kernel
theorem dX12_asksCrowds_4 : decode cX12_asksCrowds 4 = .ok (.ifCond .eq 7, 3) := by decide +kernel
theorem dX12_asksCrowds_7 : decode cX12_asksCrowds 7 = .ok (.iload_n 2, 1) := by decide +kernel
theorem dX12_asksCrowds_8 : decode cX12_asksCrowds 8 = .ok (.ifCond .ne 6, 3) := by decide +kernel
theorem dX12_asksCrowds_11 : decode cX12_asksCrowds 11 = .ok (.bipush (-2), 2) := by decide +kernel
theorem dX12_asksCrowds_13 : decode cX12_asksCrowds 13 = .ok (.ireturn, 1) := by decide +kernel
theorem dX12_asksCrowds_14 : decode cX12_asksCrowds 14 = .ok (.aload_n 0, 1) := by decide +kernel
theorem dX12_asksCrowds_15 : decode cX12_asksCrowds 15 = .ok (.getfield 76, 3) := by decide +kernel
