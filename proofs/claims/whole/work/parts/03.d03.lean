theorem dX5_useMemory_158 : decode cX5_useMemory 158 = .ok (.getfield 59, 3) := by decide +kernel
theorem dX5_useMemory_161 : decode cX5_useMemory 161 = .ok (.iload_n 3, 1) := by decide +kernel
theorem dX5_useMemory_162 : decode cX5_useMemory 162 = .ok (.iaload, 1) := by decide +kernel
theorem dX5_useMemory_163 : decode cX5_useMemory 163 = .ok (.aload_n 0, 1) := by decide +kernel
theorem dX5_useMemory_164 : decode cX5_useMemory 164 = .ok (.getfield 19, 3) := by decide +kernel
theorem dX5_useMemory_167 : decode cX5_useMemory 167 = .ok (.iload_n 2, 1) := by decide +kernel
theorem dX5_useMemory_168 : decode cX5_useMemory 168 = .ok (.lload 6, 2) := by decide +kernel
theorem dX5_useMemory_170 : decode cX5_useMemory 170 = .ok (.l2i, 1) := by decide +kernel
theorem dX5_useMemory_171 : decode cX5_useMemory 171 = .ok (.invokevirtual 128, 3) := by decide +kernel
theorem dX5_useMemory_174 : decode cX5_useMemory 174 = .ok (.invokevirtual 69, 3) := by decide +kernel
theorem dX5_useMemory_177 : decode cX5_useMemory 177 = .ok (.return_, 1) := by decide +kernel
theorem dX5_useVariable_0 : decode cX5_useVariable 0 = .ok (.iload_n 2, 1) := by decide +kernel
theorem dX5_useVariable_1 : decode cX5_useVariable 1 = .ok (.lookupswitch 168 #[(27, 35), (35, 100), (36, 134)], 35) := by decide +kernel
theorem dX5_useVariable_36 : decode cX5_useVariable 36 = .ok (.aload_n 0, 1) := by decide +kernel
theorem dX5_useVariable_37 : decode cX5_useVariable 37 = .ok (.iload_n 1, 1) := by decide +kernel
theorem dX5_useVariable_38 : decode cX5_useVariable 38 = .ok (.aload_n 0, 1) := by decide +kernel
theorem dX5_useVariable_39 : decode cX5_useVariable 39 = .ok (.getfield 15, 3) := by decide +kernel
theorem dX5_useVariable_42 : decode cX5_useVariable 42 = .ok (.getfield 111, 3) := by decide +kernel
theorem dX5_useVariable_45 : decode cX5_useVariable 45 = .ok (.iload_n 3, 1) := by decide +kernel
theorem dX5_useVariable_46 : decode cX5_useVariable 46 = .ok (.iaload, 1) := by decide +kernel
theorem dX5_useVariable_47 : decode cX5_useVariable 47 = .ok (.invokevirtual 65, 3) := by decide +kernel
theorem dX5_useVariable_50 : decode cX5_useVariable 50 = .ok (.l2i, 1) := by decide +kernel
theorem dX5_useVariable_51 : decode cX5_useVariable 51 = .ok (.ifCond .eq 15, 3) := by decide +kernel
theorem dX5_useVariable_54 : decode cX5_useVariable 54 = .ok (.aload_n 0, 1) := by decide +kernel
theorem dX5_useVariable_55 : decode cX5_useVariable 55 = .ok (.getfield 15, 3) := by decide +kernel
theorem dX5_useVariable_58 : decode cX5_useVariable 58 = .ok (.getfield 62, 3) := by decide +kernel
theorem dX5_useVariable_61 : decode cX5_useVariable 61 = .ok (.iload_n 3, 1) := by decide +kernel
theorem dX5_useVariable_62 : decode cX5_useVariable 62 = .ok (.iaload, 1) := by decide +kernel
theorem dX5_useVariable_63 : decode cX5_useVariable 63 = .ok (.goto 12, 3) := by decide +kernel
theorem dX5_useVariable_66 : decode cX5_useVariable 66 = .ok (.aload_n 0, 1) := by decide +kernel
theorem dX5_useVariable_67 : decode cX5_useVariable 67 = .ok (.getfield 15, 3) := by decide +kernel
theorem dX5_useVariable_70 : decode cX5_useVariable 70 = .ok (.getfield 86, 3) := by decide +kernel
theorem dX5_useVariable_73 : decode cX5_useVariable 73 = .ok (.iload_n 3, 1) := by decide +kernel
theorem dX5_useVariable_74 : decode cX5_useVariable 74 = .ok (.iaload, 1) := by decide +kernel
theorem dX5_useVariable_75 : decode cX5_useVariable 75 = .ok (.istore 4, 2) := by decide +kernel
theorem dX5_useVariable_77 : decode cX5_useVariable 77 = .ok (.aload_n 0, 1) := by decide +kernel
theorem dX5_useVariable_78 : decode cX5_useVariable 78 = .ok (.iload_n 1, 1) := by decide +kernel
theorem dX5_useVariable_79 : decode cX5_useVariable 79 = .ok (.aload_n 0, 1) := by decide +kernel
theorem dX5_useVariable_80 : decode cX5_useVariable 80 = .ok (.getfield 15, 3) := by decide +kernel
theorem dX5_useVariable_83 : decode cX5_useVariable 83 = .ok (.getfield 59, 3) := by decide +kernel
theorem dX5_useVariable_86 : decode cX5_useVariable 86 = .ok (.iload_n 3, 1) := by decide +kernel
theorem dX5_useVariable_87 : decode cX5_useVariable 87 = .ok (.iaload, 1) := by decide +kernel
theorem dX5_useVariable_88 : decode cX5_useVariable 88 = .ok (.aload_n 0, 1) := by decide +kernel
theorem dX5_useVariable_89 : decode cX5_useVariable 89 = .ok (.iload_n 1, 1) := by decide +kernel
theorem dX5_useVariable_90 : decode cX5_useVariable 90 = .ok (.iload 4, 2) := by decide +kernel
theorem dX5_useVariable_92 : decode cX5_useVariable 92 = .ok (.invokevirtual 65, 3) := by decide +kernel
theorem dX5_useVariable_95 : decode cX5_useVariable 95 = .ok (.invokevirtual 69, 3) := by decide +kernel
theorem dX5_useVariable_98 : decode cX5_useVariable 98 = .ok (.goto 71, 3) := by decide +kernel
theorem dX5_useVariable_101 : decode cX5_useVariable 101 = .ok (.aload_n 0, 1) := by decide +kernel
theorem dX5_useVariable_102 : decode cX5_useVariable 102 = .ok (.iload_n 1, 1) := by decide +kernel
theorem dX5_useVariable_103 : decode cX5_useVariable 103 = .ok (.aload_n 0, 1) := by decide +kernel
theorem dX5_useVariable_104 : decode cX5_useVariable 104 = .ok (.getfield 15, 3) := by decide +kernel
theorem dX5_useVariable_107 : decode cX5_useVariable 107 = .ok (.getfield 59, 3) := by decide +kernel
theorem dX5_useVariable_110 : decode cX5_useVariable 110 = .ok (.iload_n 3, 1) := by decide +kernel
theorem dX5_useVariable_111 : decode cX5_useVariable 111 = .ok (.iaload, 1) := by decide +kernel
theorem dX5_useVariable_112 : decode cX5_useVariable 112 = .ok (.aload_n 0, 1) := by decide +kernel
theorem dX5_useVariable_113 : decode cX5_useVariable 113 = .ok (.getfield 19, 3) := by decide +kernel
theorem dX5_useVariable_116 : decode cX5_useVariable 116 = .ok (.getfield 131, 3) := by decide +kernel
theorem dX5_useVariable_119 : decode cX5_useVariable 119 = .ok (.aload_n 0, 1) := by decide +kernel
theorem dX5_useVariable_120 : decode cX5_useVariable 120 = .ok (.getfield 15, 3) := by decide +kernel
theorem dX5_useVariable_123 : decode cX5_useVariable 123 = .ok (.getfield 111, 3) := by decide +kernel
theorem dX5_useVariable_126 : decode cX5_useVariable 126 = .ok (.iload_n 3, 1) := by decide +kernel
theorem dX5_useVariable_127 : decode cX5_useVariable 127 = .ok (.iaload, 1) := by decide +kernel
theorem dX5_useVariable_128 : decode cX5_useVariable 128 = .ok (.laload, 1) := by decide +kernel
theorem dX5_useVariable_129 : decode cX5_useVariable 129 = .ok (.invokevirtual 69, 3) := by decide +kernel
theorem dX5_useVariable_132 : decode cX5_useVariable 132 = .ok (.goto 37, 3) := by decide +kernel
theorem dX5_useVariable_135 : decode cX5_useVariable 135 = .ok (.aload_n 0, 1) := by decide +kernel
theorem dX5_useVariable_136 : decode cX5_useVariable 136 = .ok (.getfield 19, 3) := by decide +kernel
theorem dX5_useVariable_139 : decode cX5_useVariable 139 = .ok (.getfield 131, 3) := by decide +kernel
theorem dX5_useVariable_142 : decode cX5_useVariable 142 = .ok (.aload_n 0, 1) := by decide +kernel
theorem dX5_useVariable_143 : decode cX5_useVariable 143 = .ok (.getfield 15, 3) := by decide +kernel
theorem dX5_useVariable_146 : decode cX5_useVariable 146 = .ok (.getfield 111, 3) := by decide +kernel
theorem dX5_useVariable_149 : decode cX5_useVariable 149 = .ok (.iload_n 3, 1) := by decide +kernel
theorem dX5_useVariable_150 : decode cX5_useVariable 150 = .ok (.iaload, 1) := by decide +kernel
theorem dX5_useVariable_151 : decode cX5_useVariable 151 = .ok (.aload_n 0, 1) := by decide +kernel
theorem dX5_useVariable_152 : decode cX5_useVariable 152 = .ok (.iload_n 1, 1) := by decide +kernel
theorem dX5_useVariable_153 : decode cX5_useVariable 153 = .ok (.aload_n 0, 1) := by decide +kernel
theorem dX5_useVariable_154 : decode cX5_useVariable 154 = .ok (.getfield 15, 3) := by decide +kernel
theorem dX5_useVariable_157 : decode cX5_useVariable 157 = .ok (.getfield 62, 3) := by decide +kernel
theorem dX5_useVariable_160 : decode cX5_useVariable 160 = .ok (.iload_n 3, 1) := by decide +kernel
theorem dX5_useVariable_161 : decode cX5_useVariable 161 = .ok (.iaload, 1) := by decide +kernel
theorem dX5_useVariable_162 : decode cX5_useVariable 162 = .ok (.invokevirtual 65, 3) := by decide +kernel
theorem dX5_useVariable_165 : decode cX5_useVariable 165 = .ok (.lastore, 1) := by decide +kernel
theorem dX5_useVariable_166 : decode cX5_useVariable 166 = .ok (.goto 3, 3) := by decide +kernel
theorem dX5_useVariable_169 : decode cX5_useVariable 169 = .ok (.return_, 1) := by decide +kernel
theorem dX5_control_0 : decode cX5_control 0 = .ok (.iload_n 2, 1) := by decide +kernel
theorem dX5_control_1 : decode cX5_control 1 = .ok (.tableswitch 262 0 17 #[87, 262, 262, 262, 98, 262, 262, 262, 262, 262, 262, 262, 128, 137, 161, 179, 208, 253], 87) := by decide +kernel
theorem dX5_control_88 : decode cX5_control 88 = .ok (.aload_n 0, 1) := by decide +kernel
theorem dX5_control_89 : decode cX5_control 89 = .ok (.getfield 23, 3) := by decide +kernel
theorem dX5_control_92 : decode cX5_control 92 = .ok (.iconst 1, 1) := by decide +kernel
theorem dX5_control_93 : decode cX5_control 93 = .ok (.invokevirtual 95, 3) := by decide +kernel
theorem dX5_control_96 : decode cX5_control 96 = .ok (.goto 167, 3) := by decide +kernel
theorem dX5_control_99 : decode cX5_control 99 = .ok (.aload_n 0, 1) := by decide +kernel
theorem dX5_control_100 : decode cX5_control 100 = .ok (.iload_n 1, 1) := by decide +kernel
theorem dX5_control_101 : decode cX5_control 101 = .ok (.iload_n 3, 1) := by decide +kernel
theorem dX5_control_102 : decode cX5_control 102 = .ok (.invokevirtual 135, 3) := by decide +kernel
theorem dX5_control_105 : decode cX5_control 105 = .ok (.ifCond .eq 158, 3) := by decide +kernel
theorem dX5_control_108 : decode cX5_control 108 = .ok (.aload_n 0, 1) := by decide +kernel
theorem dX5_control_109 : decode cX5_control 109 = .ok (.getfield 23, 3) := by decide +kernel
theorem dX5_control_112 : decode cX5_control 112 = .ok (.getfield 56, 3) := by decide +kernel
theorem dX5_control_115 : decode cX5_control 115 = .ok (.iload_n 1, 1) := by decide +kernel
theorem dX5_control_116 : decode cX5_control 116 = .ok (.aload_n 0, 1) := by decide +kernel
theorem dX5_control_117 : decode cX5_control 117 = .ok (.getfield 15, 3) := by decide +kernel
theorem dX5_control_120 : decode cX5_control 120 = .ok (.getfield 111, 3) := by decide +kernel
theorem dX5_control_123 : decode cX5_control 123 = .ok (.iload_n 3, 1) := by decide +kernel
theorem dX5_control_124 : decode cX5_control 124 = .ok (.iaload, 1) := by decide +kernel
theorem dX5_control_125 : decode cX5_control 125 = .ok (.iastore, 1) := by decide +kernel
theorem dX5_control_126 : decode cX5_control 126 = .ok (.goto 137, 3) := by decide +kernel
theorem dX5_control_129 : decode cX5_control 129 = .ok (.aload_n 0, 1) := by decide +kernel
theorem dX5_control_130 : decode cX5_control 130 = .ok (.iload_n 1, 1) := by decide +kernel
theorem dX5_control_131 : decode cX5_control 131 = .ok (.iload_n 3, 1) := by decide +kernel
theorem dX5_control_132 : decode cX5_control 132 = .ok (.invokevirtual 139, 3) := by decide +kernel
theorem dX5_control_135 : decode cX5_control 135 = .ok (.goto 128, 3) := by decide +kernel
theorem dX5_control_138 : decode cX5_control 138 = .ok (.aload_n 0, 1) := by decide +kernel
theorem dX5_control_139 : decode cX5_control 139 = .ok (.iload_n 1, 1) := by decide +kernel
theorem dX5_control_140 : decode cX5_control 140 = .ok (.iload_n 3, 1) := by decide +kernel
theorem dX5_control_141 : decode cX5_control 141 = .ok (.invokevirtual 135, 3) := by decide +kernel
theorem dX5_control_144 : decode cX5_control 144 = .ok (.ifCond .eq 119, 3) := by decide +kernel
theorem dX5_control_147 : decode cX5_control 147 = .ok (.aload_n 0, 1) := by decide +kernel
theorem dX5_control_148 : decode cX5_control 148 = .ok (.getfield 23, 3) := by decide +kernel
theorem dX5_control_151 : decode cX5_control 151 = .ok (.getfield 56, 3) := by decide +kernel
theorem dX5_control_154 : decode cX5_control 154 = .ok (.iload_n 1, 1) := by decide +kernel
theorem dX5_control_155 : decode cX5_control 155 = .ok (.iload_n 3, 1) := by decide +kernel
theorem dX5_control_156 : decode cX5_control 156 = .ok (.iconst 2, 1) := by decide +kernel
theorem dX5_control_157 : decode cX5_control 157 = .ok (.iadd, 1) := by decide +kernel
theorem dX5_control_158 : decode cX5_control 158 = .ok (.iastore, 1) := by decide +kernel
theorem dX5_control_159 : decode cX5_control 159 = .ok (.goto 104, 3) := by decide +kernel
theorem dX5_control_162 : decode cX5_control 162 = .ok (.aload_n 0, 1) := by decide +kernel
theorem dX5_control_163 : decode cX5_control 163 = .ok (.getfield 23, 3) := by decide +kernel
theorem dX5_control_166 : decode cX5_control 166 = .ok (.getfield 56, 3) := by decide +kernel
theorem dX5_control_169 : decode cX5_control 169 = .ok (.iload_n 1, 1) := by decide +kernel
theorem dX5_control_170 : decode cX5_control 170 = .ok (.aload_n 0, 1) := by decide +kernel
theorem dX5_control_171 : decode cX5_control 171 = .ok (.iload_n 1, 1) := by decide +kernel
theorem dX5_control_172 : decode cX5_control 172 = .ok (.iload_n 3, 1) := by decide +kernel
theorem dX5_control_173 : decode cX5_control 173 = .ok (.invokevirtual 143, 3) := by decide +kernel
theorem dX5_control_176 : decode cX5_control 176 = .ok (.iastore, 1) := by decide +kernel
theorem dX5_control_177 : decode cX5_control 177 = .ok (.goto 86, 3) := by decide +kernel
theorem dX5_control_180 : decode cX5_control 180 = .ok (.aload_n 0, 1) := by decide +kernel
theorem dX5_control_181 : decode cX5_control 181 = .ok (.getfield 23, 3) := by decide +kernel
theorem dX5_control_184 : decode cX5_control 184 = .ok (.aload_n 0, 1) := by decide +kernel
theorem dX5_control_185 : decode cX5_control 185 = .ok (.getfield 23, 3) := by decide +kernel
theorem dX5_control_188 : decode cX5_control 188 = .ok (.getfield 147, 3) := by decide +kernel
theorem dX5_control_191 : decode cX5_control 191 = .ok (.iload_n 1, 1) := by decide +kernel
theorem dX5_control_192 : decode cX5_control 192 = .ok (.iaload, 1) := by decide +kernel
theorem dX5_control_193 : decode cX5_control 193 = .ok (.aload_n 0, 1) := by decide +kernel
theorem dX5_control_194 : decode cX5_control 194 = .ok (.getfield 15, 3) := by decide +kernel
theorem dX5_control_197 : decode cX5_control 197 = .ok (.getfield 62, 3) := by decide +kernel
theorem dX5_control_200 : decode cX5_control 200 = .ok (.iload_n 3, 1) := by decide +kernel
theorem dX5_control_201 : decode cX5_control 201 = .ok (.iaload, 1) := by decide +kernel
theorem dX5_control_202 : decode cX5_control 202 = .ok (.iadd, 1) := by decide +kernel
theorem dX5_control_203 : decode cX5_control 203 = .ok (.invokevirtual 150, 3) := by decide +kernel
theorem dX5_control_206 : decode cX5_control 206 = .ok (.goto 57, 3) := by decide +kernel
theorem dX5_control_209 : decode cX5_control 209 = .ok (.aload_n 0, 1) := by decide +kernel
theorem dX5_control_210 : decode cX5_control 210 = .ok (.getfield 23, 3) := by decide +kernel
theorem dX5_control_213 : decode cX5_control 213 = .ok (.aload_n 0, 1) := by decide +kernel
theorem dX5_control_214 : decode cX5_control 214 = .ok (.getfield 15, 3) := by decide +kernel
theorem dX5_control_217 : decode cX5_control 217 = .ok (.getfield 86, 3) := by decide +kernel
theorem dX5_control_220 : decode cX5_control 220 = .ok (.iload_n 3, 1) := by decide +kernel
theorem dX5_control_221 : decode cX5_control 221 = .ok (.iaload, 1) := by decide +kernel
theorem dX5_control_222 : decode cX5_control 222 = .ok (.aload_n 0, 1) := by decide +kernel
theorem dX5_control_223 : decode cX5_control 223 = .ok (.getfield 23, 3) := by decide +kernel
theorem dX5_control_226 : decode cX5_control 226 = .ok (.getfield 153, 3) := by decide +kernel
theorem dX5_control_229 : decode cX5_control 229 = .ok (.aload_n 0, 1) := by decide +kernel
theorem dX5_control_230 : decode cX5_control 230 = .ok (.getfield 23, 3) := by decide +kernel
theorem dX5_control_233 : decode cX5_control 233 = .ok (.getfield 147, 3) := by decide +kernel
theorem dX5_control_236 : decode cX5_control 236 = .ok (.iload_n 1, 1) := by decide +kernel
theorem dX5_control_237 : decode cX5_control 237 = .ok (.iaload, 1) := by decide +kernel
theorem dX5_control_238 : decode cX5_control 238 = .ok (.aload_n 0, 1) := by decide +kernel
theorem dX5_control_239 : decode cX5_control 239 = .ok (.getfield 15, 3) := by decide +kernel
theorem dX5_control_242 : decode cX5_control 242 = .ok (.getfield 62, 3) := by decide +kernel
theorem dX5_control_245 : decode cX5_control 245 = .ok (.iload_n 3, 1) := by decide +kernel
theorem dX5_control_246 : decode cX5_control 246 = .ok (.iaload, 1) := by decide +kernel
theorem dX5_control_247 : decode cX5_control 247 = .ok (.iadd, 1) := by decide +kernel
theorem dX5_control_248 : decode cX5_control 248 = .ok (.invokevirtual 156, 3) := by decide +kernel
theorem dX5_control_251 : decode cX5_control 251 = .ok (.goto 12, 3) := by decide +kernel
theorem dX5_control_254 : decode cX5_control 254 = .ok (.aload_n 0, 1) := by decide +kernel
theorem dX5_control_255 : decode cX5_control 255 = .ok (.iload_n 1, 1) := by decide +kernel
theorem dX5_control_256 : decode cX5_control 256 = .ok (.iload_n 3, 1) := by decide +kernel
theorem dX5_control_257 : decode cX5_control 257 = .ok (.invokevirtual 160, 3) := by decide +kernel
theorem dX5_control_260 : decode cX5_control 260 = .ok (.goto 3, 3) := by decide +kernel
theorem dX5_control_263 : decode cX5_control 263 = .ok (.return_, 1) := by decide +kernel
theorem dX5_isZero_0 : decode cX5_isZero 0 = .ok (.aload_n 0, 1) := by decide +kernel
theorem dX5_isZero_1 : decode cX5_isZero 1 = .ok (.iload_n 1, 1) := by decide +kernel
theorem dX5_isZero_2 : decode cX5_isZero 2 = .ok (.aload_n 0, 1) := by decide +kernel
theorem dX5_isZero_3 : decode cX5_isZero 3 = .ok (.getfield 15, 3) := by decide +kernel
theorem dX5_isZero_6 : decode cX5_isZero 6 = .ok (.getfield 62, 3) := by decide +kernel
theorem dX5_isZero_9 : decode cX5_isZero 9 = .ok (.iload_n 2, 1) := by decide +kernel
theorem dX5_isZero_10 : decode cX5_isZero 10 = .ok (.iaload, 1) := by decide +kernel
theorem dX5_isZero_11 : decode cX5_isZero 11 = .ok (.invokevirtual 65, 3) := by decide +kernel
theorem dX5_isZero_14 : decode cX5_isZero 14 = .ok (.l2i, 1) := by decide +kernel
theorem dX5_isZero_15 : decode cX5_isZero 15 = .ok (.ifCond .ne 7, 3) := by decide +kernel
theorem dX5_isZero_18 : decode cX5_isZero 18 = .ok (.iconst 1, 1) := by decide +kernel
theorem dX5_isZero_19 : decode cX5_isZero 19 = .ok (.goto 4, 3) := by decide +kernel
theorem dX5_isZero_22 : decode cX5_isZero 22 = .ok (.iconst 0, 1) := by decide +kernel
theorem dX5_isZero_23 : decode cX5_isZero 23 = .ok (.ireturn, 1) := by decide +kernel
theorem dX5_branch_0 : decode cX5_branch 0 = .ok (.aload_n 0, 1) := by decide +kernel
theorem dX5_branch_1 : decode cX5_branch 1 = .ok (.getfield 23, 3) := by decide +kernel
theorem dX5_branch_4 : decode cX5_branch 4 = .ok (.getfield 147, 3) := by decide +kernel
theorem dX5_branch_7 : decode cX5_branch 7 = .ok (.iload_n 1, 1) := by decide +kernel
theorem dX5_branch_8 : decode cX5_branch 8 = .ok (.iaload, 1) := by decide +kernel
theorem dX5_branch_9 : decode cX5_branch 9 = .ok (.istore_n 3, 1) := by decide +kernel
theorem dX5_branch_10 : decode cX5_branch 10 = .ok (.aload_n 0, 1) := by decide +kernel
theorem dX5_branch_11 : decode cX5_branch 11 = .ok (.getfield 23, 3) := by decide +kernel
theorem dX5_branch_14 : decode cX5_branch 14 = .ok (.iload_n 3, 1) := by decide +kernel
theorem dX5_branch_15 : decode cX5_branch 15 = .ok (.aload_n 0, 1) := by decide +kernel
theorem dX5_branch_16 : decode cX5_branch 16 = .ok (.getfield 15, 3) := by decide +kernel
theorem dX5_branch_19 : decode cX5_branch 19 = .ok (.getfield 62, 3) := by decide +kernel
theorem dX5_branch_22 : decode cX5_branch 22 = .ok (.iload_n 2, 1) := by decide +kernel
theorem dX5_branch_23 : decode cX5_branch 23 = .ok (.iaload, 1) := by decide +kernel
theorem dX5_branch_24 : decode cX5_branch 24 = .ok (.iadd, 1) := by decide +kernel
theorem dX5_branch_25 : decode cX5_branch 25 = .ok (.iload_n 3, 1) := by decide +kernel
theorem dX5_branch_26 : decode cX5_branch 26 = .ok (.aload_n 0, 1) := by decide +kernel
theorem dX5_branch_27 : decode cX5_branch 27 = .ok (.getfield 15, 3) := by decide +kernel
theorem dX5_branch_30 : decode cX5_branch 30 = .ok (.getfield 59, 3) := by decide +kernel
theorem dX5_branch_33 : decode cX5_branch 33 = .ok (.iload_n 2, 1) := by decide +kernel
theorem dX5_branch_34 : decode cX5_branch 34 = .ok (.iaload, 1) := by decide +kernel
theorem dX5_branch_35 : decode cX5_branch 35 = .ok (.iadd, 1) := by decide +kernel
theorem dX5_branch_36 : decode cX5_branch 36 = .ok (.aload_n 0, 1) := by decide +kernel
theorem dX5_branch_37 : decode cX5_branch 37 = .ok (.getfield 15, 3) := by decide +kernel
theorem dX5_branch_40 : decode cX5_branch 40 = .ok (.getfield 86, 3) := by decide +kernel
theorem dX5_branch_43 : decode cX5_branch 43 = .ok (.iload_n 2, 1) := by decide +kernel
theorem dX5_branch_44 : decode cX5_branch 44 = .ok (.iaload, 1) := by decide +kernel
theorem dX5_branch_45 : decode cX5_branch 45 = .ok (.invokevirtual 163, 3) := by decide +kernel
theorem dX5_branch_48 : decode cX5_branch 48 = .ok (.aload_n 0, 1) := by decide +kernel
theorem dX5_branch_49 : decode cX5_branch 49 = .ok (.getfield 23, 3) := by decide +kernel
theorem dX5_branch_52 : decode cX5_branch 52 = .ok (.getfield 56, 3) := by decide +kernel
theorem dX5_branch_55 : decode cX5_branch 55 = .ok (.iload_n 1, 1) := by decide +kernel
theorem dX5_branch_56 : decode cX5_branch 56 = .ok (.aload_n 0, 1) := by decide +kernel
theorem dX5_branch_57 : decode cX5_branch 57 = .ok (.getfield 15, 3) := by decide +kernel
theorem dX5_branch_60 : decode cX5_branch 60 = .ok (.getfield 111, 3) := by decide +kernel
theorem dX5_branch_63 : decode cX5_branch 63 = .ok (.iload_n 2, 1) := by decide +kernel
theorem dX5_branch_64 : decode cX5_branch 64 = .ok (.iaload, 1) := by decide +kernel
theorem dX5_branch_65 : decode cX5_branch 65 = .ok (.iastore, 1) := by decide +kernel
theorem dX5_branch_66 : decode cX5_branch 66 = .ok (.return_, 1) := by decide +kernel
theorem dX5_tableEntry_0 : decode cX5_tableEntry 0 = .ok (.iload_n 2, 1) := by decide +kernel
theorem dX5_tableEntry_1 : decode cX5_tableEntry 1 = .ok (.iconst 1, 1) := by decide +kernel
theorem dX5_tableEntry_2 : decode cX5_tableEntry 2 = .ok (.iadd, 1) := by decide +kernel
theorem dX5_tableEntry_3 : decode cX5_tableEntry 3 = .ok (.aload_n 0, 1) := by decide +kernel
theorem dX5_tableEntry_4 : decode cX5_tableEntry 4 = .ok (.iload_n 1, 1) := by decide +kernel
theorem dX5_tableEntry_5 : decode cX5_tableEntry 5 = .ok (.aload_n 0, 1) := by decide +kernel
theorem dX5_tableEntry_6 : decode cX5_tableEntry 6 = .ok (.getfield 15, 3) := by decide +kernel
theorem dX5_tableEntry_9 : decode cX5_tableEntry 9 = .ok (.getfield 62, 3) := by decide +kernel
theorem dX5_tableEntry_12 : decode cX5_tableEntry 12 = .ok (.iload_n 2, 1) := by decide +kernel
theorem dX5_tableEntry_13 : decode cX5_tableEntry 13 = .ok (.iaload, 1) := by decide +kernel
theorem dX5_tableEntry_14 : decode cX5_tableEntry 14 = .ok (.invokevirtual 65, 3) := by decide +kernel
theorem dX5_tableEntry_17 : decode cX5_tableEntry 17 = .ok (.ldc2_w 166, 3) := by decide +kernel
theorem dX5_tableEntry_20 : decode cX5_tableEntry 20 = .ok (.land, 1) := by decide +kernel
theorem dX5_tableEntry_21 : decode cX5_tableEntry 21 = .ok (.aload_n 0, 1) := by decide +kernel
theorem dX5_tableEntry_22 : decode cX5_tableEntry 22 = .ok (.getfield 15, 3) := by decide +kernel
theorem dX5_tableEntry_25 : decode cX5_tableEntry 25 = .ok (.getfield 86, 3) := by decide +kernel
theorem dX5_tableEntry_28 : decode cX5_tableEntry 28 = .ok (.iload_n 2, 1) := by decide +kernel
theorem dX5_tableEntry_29 : decode cX5_tableEntry 29 = .ok (.iaload, 1) := by decide +kernel
theorem dX5_tableEntry_30 : decode cX5_tableEntry 30 = .ok (.i2l, 1) := by decide +kernel
theorem dX5_tableEntry_31 : decode cX5_tableEntry 31 = .ok (.invokestatic 168, 3) := by decide +kernel
theorem dX5_tableEntry_34 : decode cX5_tableEntry 34 = .ok (.l2i, 1) := by decide +kernel
theorem dX5_tableEntry_35 : decode cX5_tableEntry 35 = .ok (.iadd, 1) := by decide +kernel
theorem dX5_tableEntry_36 : decode cX5_tableEntry 36 = .ok (.ireturn, 1) := by decide +kernel
theorem dX5_invokeEntry_0 : decode cX5_invokeEntry 0 = .ok (.aload_n 0, 1) := by decide +kernel
theorem dX5_invokeEntry_1 : decode cX5_invokeEntry 1 = .ok (.getfield 19, 3) := by decide +kernel
theorem dX5_invokeEntry_4 : decode cX5_invokeEntry 4 = .ok (.aload_n 0, 1) := by decide +kernel
theorem dX5_invokeEntry_5 : decode cX5_invokeEntry 5 = .ok (.iload_n 1, 1) := by decide +kernel
theorem dX5_invokeEntry_6 : decode cX5_invokeEntry 6 = .ok (.aload_n 0, 1) := by decide +kernel
theorem dX5_invokeEntry_7 : decode cX5_invokeEntry 7 = .ok (.getfield 15, 3) := by decide +kernel
theorem dX5_invokeEntry_10 : decode cX5_invokeEntry 10 = .ok (.getfield 86, 3) := by decide +kernel
theorem dX5_invokeEntry_13 : decode cX5_invokeEntry 13 = .ok (.iload_n 2, 1) := by decide +kernel
theorem dX5_invokeEntry_14 : decode cX5_invokeEntry 14 = .ok (.iaload, 1) := by decide +kernel
theorem dX5_invokeEntry_15 : decode cX5_invokeEntry 15 = .ok (.invokevirtual 65, 3) := by decide +kernel
theorem dX5_invokeEntry_18 : decode cX5_invokeEntry 18 = .ok (.aload_n 0, 1) := by decide +kernel
theorem dX5_invokeEntry_19 : decode cX5_invokeEntry 19 = .ok (.getfield 15, 3) := by decide +kernel
theorem dX5_invokeEntry_22 : decode cX5_invokeEntry 22 = .ok (.getfield 59, 3) := by decide +kernel
theorem dX5_invokeEntry_25 : decode cX5_invokeEntry 25 = .ok (.iload_n 2, 1) := by decide +kernel
theorem dX5_invokeEntry_26 : decode cX5_invokeEntry 26 = .ok (.iaload, 1) := by decide +kernel
theorem dX5_invokeEntry_27 : decode cX5_invokeEntry 27 = .ok (.aload_n 0, 1) := by decide +kernel
theorem dX5_invokeEntry_28 : decode cX5_invokeEntry 28 = .ok (.getfield 15, 3) := by decide +kernel
theorem dX5_invokeEntry_31 : decode cX5_invokeEntry 31 = .ok (.getfield 111, 3) := by decide +kernel
theorem dX5_invokeEntry_34 : decode cX5_invokeEntry 34 = .ok (.iload_n 2, 1) := by decide +kernel
theorem dX5_invokeEntry_35 : decode cX5_invokeEntry 35 = .ok (.iaload, 1) := by decide +kernel
theorem dX5_invokeEntry_36 : decode cX5_invokeEntry 36 = .ok (.aload_n 0, 1) := by decide +kernel
theorem dX5_invokeEntry_37 : decode cX5_invokeEntry 37 = .ok (.getfield 9, 3) := by decide +kernel
theorem dX5_invokeEntry_40 : decode cX5_invokeEntry 40 = .ok (.invokevirtual 174, 3) := by decide +kernel
theorem dX5_invokeEntry_43 : decode cX5_invokeEntry 43 = .ok (.istore_n 3, 1) := by decide +kernel
theorem dX5_invokeEntry_44 : decode cX5_invokeEntry 44 = .ok (.iload_n 3, 1) := by decide +kernel
theorem dX5_invokeEntry_45 : decode cX5_invokeEntry 45 = .ok (.ifCond .ge 15, 3) := by decide +kernel
theorem dX5_invokeEntry_48 : decode cX5_invokeEntry 48 = .ok (.aload_n 0, 1) := by decide +kernel
theorem dX5_invokeEntry_49 : decode cX5_invokeEntry 49 = .ok (.getfield 23, 3) := by decide +kernel
theorem dX5_invokeEntry_52 : decode cX5_invokeEntry 52 = .ok (.iload_n 3, 1) := by decide +kernel
theorem dX5_invokeEntry_53 : decode cX5_invokeEntry 53 = .ok (.ineg, 1) := by decide +kernel
theorem dX5_invokeEntry_54 : decode cX5_invokeEntry 54 = .ok (.invokevirtual 95, 3) := by decide +kernel
theorem dX5_invokeEntry_57 : decode cX5_invokeEntry 57 = .ok (.goto 37, 3) := by decide +kernel
theorem dX5_invokeEntry_60 : decode cX5_invokeEntry 60 = .ok (.aload_n 0, 1) := by decide +kernel
theorem dX5_invokeEntry_61 : decode cX5_invokeEntry 61 = .ok (.getfield 23, 3) := by decide +kernel
theorem dX5_invokeEntry_64 : decode cX5_invokeEntry 64 = .ok (.iload_n 3, 1) := by decide +kernel
theorem dX5_invokeEntry_65 : decode cX5_invokeEntry 65 = .ok (.aload_n 0, 1) := by decide +kernel
theorem dX5_invokeEntry_66 : decode cX5_invokeEntry 66 = .ok (.getfield 23, 3) := by decide +kernel
theorem dX5_invokeEntry_69 : decode cX5_invokeEntry 69 = .ok (.getfield 153, 3) := by decide +kernel
theorem dX5_invokeEntry_72 : decode cX5_invokeEntry 72 = .ok (.aload_n 0, 1) := by decide +kernel
theorem dX5_invokeEntry_73 : decode cX5_invokeEntry 73 = .ok (.getfield 23, 3) := by decide +kernel
theorem dX5_invokeEntry_76 : decode cX5_invokeEntry 76 = .ok (.getfield 147, 3) := by decide +kernel
theorem dX5_invokeEntry_79 : decode cX5_invokeEntry 79 = .ok (.iload_n 1, 1) := by decide +kernel
theorem dX5_invokeEntry_80 : decode cX5_invokeEntry 80 = .ok (.iaload, 1) := by decide +kernel
theorem dX5_invokeEntry_81 : decode cX5_invokeEntry 81 = .ok (.aload_n 0, 1) := by decide +kernel
theorem dX5_invokeEntry_82 : decode cX5_invokeEntry 82 = .ok (.getfield 15, 3) := by decide +kernel
theorem dX5_invokeEntry_85 : decode cX5_invokeEntry 85 = .ok (.getfield 62, 3) := by decide +kernel
theorem dX5_invokeEntry_88 : decode cX5_invokeEntry 88 = .ok (.iload_n 2, 1) := by decide +kernel
theorem dX5_invokeEntry_89 : decode cX5_invokeEntry 89 = .ok (.iaload, 1) := by decide +kernel
theorem dX5_invokeEntry_90 : decode cX5_invokeEntry 90 = .ok (.iadd, 1) := by decide +kernel
theorem dX5_invokeEntry_91 : decode cX5_invokeEntry 91 = .ok (.invokevirtual 156, 3) := by decide +kernel
theorem dX5_invokeEntry_94 : decode cX5_invokeEntry 94 = .ok (.return_, 1) := by decide +kernel
theorem dX5_read_0 : decode cX5_read 0 = .ok (.iload_n 2, 1) := by decide +kernel
theorem dX5_read_1 : decode cX5_read 1 = .ok (.ifCond .ge 16, 3) := by decide +kernel
theorem dX5_read_4 : decode cX5_read 4 = .ok (.aload_n 0, 1) := by decide +kernel
theorem dX5_read_5 : decode cX5_read 5 = .ok (.getfield 9, 3) := by decide +kernel
theorem dX5_read_8 : decode cX5_read 8 = .ok (.iload_n 2, 1) := by decide +kernel
theorem dX5_read_9 : decode cX5_read 9 = .ok (.iconst (-1), 1) := by decide +kernel
theorem dX5_read_10 : decode cX5_read 10 = .ok (.ixor, 1) := by decide +kernel
theorem dX5_read_11 : decode cX5_read 11 = .ok (.invokevirtual 178, 3) := by decide +kernel
theorem dX5_read_14 : decode cX5_read 14 = .ok (.goto 21, 3) := by decide +kernel
theorem dX5_read_17 : decode cX5_read 17 = .ok (.aload_n 0, 1) := by decide +kernel
theorem dX5_read_18 : decode cX5_read 18 = .ok (.getfield 23, 3) := by decide +kernel
theorem dX5_read_21 : decode cX5_read 21 = .ok (.aload_n 0, 1) := by decide +kernel
theorem dX5_read_22 : decode cX5_read 22 = .ok (.getfield 23, 3) := by decide +kernel
theorem dX5_read_25 : decode cX5_read 25 = .ok (.getfield 147, 3) := by decide +kernel
theorem dX5_read_28 : decode cX5_read 28 = .ok (.iload_n 1, 1) := by decide +kernel
theorem dX5_read_29 : decode cX5_read 29 = .ok (.iaload, 1) := by decide +kernel
theorem dX5_read_30 : decode cX5_read 30 = .ok (.iload_n 2, 1) := by decide +kernel
theorem dX5_read_31 : decode cX5_read 31 = .ok (.iadd, 1) := by decide +kernel
theorem dX5_read_32 : decode cX5_read 32 = .ok (.invokevirtual 184, 3) := by decide +kernel
theorem dX5_read_35 : decode cX5_read 35 = .ok (.lreturn, 1) := by decide +kernel
theorem dX5_setRegister_0 : decode cX5_setRegister 0 = .ok (.aload_n 0, 1) := by decide +kernel
theorem dX5_setRegister_1 : decode cX5_setRegister 1 = .ok (.getfield 23, 3) := by decide +kernel
theorem dX5_setRegister_4 : decode cX5_setRegister 4 = .ok (.aload_n 0, 1) := by decide +kernel
theorem dX5_setRegister_5 : decode cX5_setRegister 5 = .ok (.getfield 23, 3) := by decide +kernel
theorem dX5_setRegister_8 : decode cX5_setRegister 8 = .ok (.getfield 147, 3) := by decide +kernel
theorem dX5_setRegister_11 : decode cX5_setRegister 11 = .ok (.iload_n 1, 1) := by decide +kernel
theorem dX5_setRegister_12 : decode cX5_setRegister 12 = .ok (.iaload, 1) := by decide +kernel
theorem dX5_setRegister_13 : decode cX5_setRegister 13 = .ok (.iload_n 2, 1) := by decide +kernel
theorem dX5_setRegister_14 : decode cX5_setRegister 14 = .ok (.iadd, 1) := by decide +kernel
theorem dX5_setRegister_15 : decode cX5_setRegister 15 = .ok (.lload_n 3, 1) := by decide +kernel
theorem dX5_setRegister_16 : decode cX5_setRegister 16 = .ok (.invokevirtual 187, 3) := by decide +kernel
theorem dX5_setRegister_19 : decode cX5_setRegister 19 = .ok (.return_, 1) := by decide +kernel
theorem dX6_init_0 : decode cX6_init 0 = .ok (.aload_n 0, 1) := by decide +kernel
theorem dX6_init_1 : decode cX6_init 1 = .ok (.invokespecial 3, 3) := by decide +kernel
theorem dX6_init_4 : decode cX6_init 4 = .ok (.aload_n 0, 1) := by decide +kernel
theorem dX6_init_5 : decode cX6_init 5 = .ok (.aload_n 1, 1) := by decide +kernel
theorem dX6_init_6 : decode cX6_init 6 = .ok (.putfield 9, 3) := by decide +kernel
theorem dX6_init_9 : decode cX6_init 9 = .ok (.aload_n 0, 1) := by decide +kernel
theorem dX6_init_10 : decode cX6_init 10 = .ok (.aload_n 2, 1) := by decide +kernel
theorem dX6_init_11 : decode cX6_init 11 = .ok (.putfield 15, 3) := by decide +kernel
theorem dX6_init_14 : decode cX6_init 14 = .ok (.aload_n 0, 1) := by decide +kernel
theorem dX6_init_15 : decode cX6_init 15 = .ok (.aload_n 3, 1) := by decide +kernel
theorem dX6_init_16 : decode cX6_init 16 = .ok (.putfield 19, 3) := by decide +kernel
theorem dX6_init_19 : decode cX6_init 19 = .ok (.return_, 1) := by decide +kernel
theorem dX6_performFree_0 : decode cX6_performFree 0 = .ok (.aload_n 0, 1) := by decide +kernel
theorem dX6_performFree_1 : decode cX6_performFree 1 = .ok (.getfield 19, 3) := by decide +kernel
theorem dX6_performFree_4 : decode cX6_performFree 4 = .ok (.aload_n 0, 1) := by decide +kernel
theorem dX6_performFree_5 : decode cX6_performFree 5 = .ok (.getfield 9, 3) := by decide +kernel
theorem dX6_performFree_8 : decode cX6_performFree 8 = .ok (.getfield 23, 3) := by decide +kernel
theorem dX6_performFree_11 : decode cX6_performFree 11 = .ok (.invokevirtual 29, 3) := by decide +kernel
theorem dX6_performFree_14 : decode cX6_performFree 14 = .ok (.istore_n 1, 1) := by decide +kernel
theorem dX6_performFree_15 : decode cX6_performFree 15 = .ok (.iload_n 1, 1) := by decide +kernel
theorem dX6_performFree_16 : decode cX6_performFree 16 = .ok (.iconst (-1), 1) := by decide +kernel
theorem dX6_performFree_17 : decode cX6_performFree 17 = .ok (.if_icmp .ne 5, 3) := by decide +kernel
theorem dX6_performFree_20 : decode cX6_performFree 20 = .ok (.iconst 0, 1) := by decide +kernel
theorem dX6_performFree_21 : decode cX6_performFree 21 = .ok (.ireturn, 1) := by decide +kernel
theorem dX6_performFree_22 : decode cX6_performFree 22 = .ok (.aload_n 0, 1) := by decide +kernel
theorem dX6_performFree_23 : decode cX6_performFree 23 = .ok (.getfield 19, 3) := by decide +kernel
theorem dX6_performFree_26 : decode cX6_performFree 26 = .ok (.getfield 35, 3) := by decide +kernel
theorem dX6_performFree_29 : decode cX6_performFree 29 = .ok (.iconst 1, 1) := by decide +kernel
theorem dX6_performFree_30 : decode cX6_performFree 30 = .ok (.isub, 1) := by decide +kernel
theorem dX6_performFree_31 : decode cX6_performFree 31 = .ok (.istore_n 2, 1) := by decide +kernel
theorem dX6_performFree_32 : decode cX6_performFree 32 = .ok (.aload_n 0, 1) := by decide +kernel
theorem dX6_performFree_33 : decode cX6_performFree 33 = .ok (.getfield 9, 3) := by decide +kernel
theorem dX6_performFree_36 : decode cX6_performFree 36 = .ok (.getfield 38, 3) := by decide +kernel
theorem dX6_performFree_39 : decode cX6_performFree 39 = .ok (.iload_n 1, 1) := by decide +kernel
theorem dX6_performFree_40 : decode cX6_performFree 40 = .ok (.iaload, 1) := by decide +kernel
theorem dX6_performFree_41 : decode cX6_performFree 41 = .ok (.tableswitch 123 2 11 #[55, 55, 123, 69, 123, 123, 123, 123, 123, 91], 55) := by decide +kernel
theorem dX6_performFree_96 : decode cX6_performFree 96 = .ok (.aload_n 0, 1) := by decide +kernel
theorem dX6_performFree_97 : decode cX6_performFree 97 = .ok (.getfield 19, 3) := by decide +kernel
theorem dX6_performFree_100 : decode cX6_performFree 100 = .ok (.getfield 42, 3) := by decide +kernel
theorem dX6_performFree_103 : decode cX6_performFree 103 = .ok (.iload_n 2, 1) := by decide +kernel
theorem dX6_performFree_104 : decode cX6_performFree 104 = .ok (.iload_n 1, 1) := by decide +kernel
theorem dX6_performFree_105 : decode cX6_performFree 105 = .ok (.iconst 1, 1) := by decide +kernel
theorem dX6_performFree_106 : decode cX6_performFree 106 = .ok (.iadd, 1) := by decide +kernel
theorem dX6_performFree_107 : decode cX6_performFree 107 = .ok (.iastore, 1) := by decide +kernel
theorem dX6_performFree_108 : decode cX6_performFree 108 = .ok (.iconst 1, 1) := by decide +kernel
theorem dX6_performFree_109 : decode cX6_performFree 109 = .ok (.ireturn, 1) := by decide +kernel
theorem dX6_performFree_110 : decode cX6_performFree 110 = .ok (.aload_n 0, 1) := by decide +kernel
theorem dX6_performFree_111 : decode cX6_performFree 111 = .ok (.getfield 19, 3) := by decide +kernel
theorem dX6_performFree_114 : decode cX6_performFree 114 = .ok (.getfield 42, 3) := by decide +kernel
theorem dX6_performFree_117 : decode cX6_performFree 117 = .ok (.iload_n 2, 1) := by decide +kernel
theorem dX6_performFree_118 : decode cX6_performFree 118 = .ok (.aload_n 0, 1) := by decide +kernel
theorem dX6_performFree_119 : decode cX6_performFree 119 = .ok (.getfield 9, 3) := by decide +kernel
theorem dX6_performFree_122 : decode cX6_performFree 122 = .ok (.getfield 45, 3) := by decide +kernel
theorem dX6_performFree_125 : decode cX6_performFree 125 = .ok (.iload_n 1, 1) := by decide +kernel
theorem dX6_performFree_126 : decode cX6_performFree 126 = .ok (.iaload, 1) := by decide +kernel
theorem dX6_performFree_127 : decode cX6_performFree 127 = .ok (.iconst 1, 1) := by decide +kernel
theorem dX6_performFree_128 : decode cX6_performFree 128 = .ok (.iadd, 1) := by decide +kernel
theorem dX6_performFree_129 : decode cX6_performFree 129 = .ok (.iastore, 1) := by decide +kernel
theorem dX6_performFree_130 : decode cX6_performFree 130 = .ok (.iconst 1, 1) := by decide +kernel
theorem dX6_performFree_131 : decode cX6_performFree 131 = .ok (.ireturn, 1) := by decide +kernel
theorem dX6_performFree_132 : decode cX6_performFree 132 = .ok (.aload_n 0, 1) := by decide +kernel
theorem dX6_performFree_133 : decode cX6_performFree 133 = .ok (.getfield 19, 3) := by decide +kernel
theorem dX6_performFree_136 : decode cX6_performFree 136 = .ok (.getfield 42, 3) := by decide +kernel
theorem dX6_performFree_139 : decode cX6_performFree 139 = .ok (.iload_n 2, 1) := by decide +kernel
theorem dX6_performFree_140 : decode cX6_performFree 140 = .ok (.iload_n 1, 1) := by decide +kernel
theorem dX6_performFree_141 : decode cX6_performFree 141 = .ok (.iconst 1, 1) := by decide +kernel
theorem dX6_performFree_142 : decode cX6_performFree 142 = .ok (.iadd, 1) := by decide +kernel
theorem dX6_performFree_143 : decode cX6_performFree 143 = .ok (.iastore, 1) := by decide +kernel
theorem dX6_performFree_144 : decode cX6_performFree 144 = .ok (.aload_n 0, 1) := by decide +kernel
theorem dX6_performFree_145 : decode cX6_performFree 145 = .ok (.getfield 9, 3) := by decide +kernel
theorem dX6_performFree_148 : decode cX6_performFree 148 = .ok (.getfield 45, 3) := by decide +kernel
theorem dX6_performFree_151 : decode cX6_performFree 151 = .ok (.iload_n 1, 1) := by decide +kernel
theorem dX6_performFree_152 : decode cX6_performFree 152 = .ok (.iaload, 1) := by decide +kernel
theorem dX6_performFree_153 : decode cX6_performFree 153 = .ok (.iconst (-1), 1) := by decide +kernel
theorem dX6_performFree_154 : decode cX6_performFree 154 = .ok (.if_icmp .ne 8, 3) := by decide +kernel
theorem dX6_performFree_157 : decode cX6_performFree 157 = .ok (.aload_n 0, 1) := by decide +kernel
theorem dX6_performFree_158 : decode cX6_performFree 158 = .ok (.iload_n 2, 1) := by decide +kernel
theorem dX6_performFree_159 : decode cX6_performFree 159 = .ok (.invokevirtual 48, 3) := by decide +kernel
theorem dX6_performFree_162 : decode cX6_performFree 162 = .ok (.iconst 1, 1) := by decide +kernel
theorem dX6_performFree_163 : decode cX6_performFree 163 = .ok (.ireturn, 1) := by decide +kernel
theorem dX6_performFree_164 : decode cX6_performFree 164 = .ok (.iconst 0, 1) := by decide +kernel
theorem dX6_performFree_165 : decode cX6_performFree 165 = .ok (.ireturn, 1) := by decide +kernel
theorem dX6_perform_0 : decode cX6_perform 0 = .ok (.aload_n 0, 1) := by decide +kernel
theorem dX6_perform_1 : decode cX6_perform 1 = .ok (.getfield 19, 3) := by decide +kernel
theorem dX6_perform_4 : decode cX6_perform 4 = .ok (.aload_n 0, 1) := by decide +kernel
theorem dX6_perform_5 : decode cX6_perform 5 = .ok (.getfield 9, 3) := by decide +kernel
theorem dX6_perform_8 : decode cX6_perform 8 = .ok (.getfield 23, 3) := by decide +kernel
theorem dX6_perform_11 : decode cX6_perform 11 = .ok (.invokevirtual 29, 3) := by decide +kernel
theorem dX6_perform_14 : decode cX6_perform 14 = .ok (.istore_n 1, 1) := by decide +kernel
theorem dX6_perform_15 : decode cX6_perform 15 = .ok (.iload_n 1, 1) := by decide +kernel
theorem dX6_perform_16 : decode cX6_perform 16 = .ok (.iconst (-1), 1) := by decide +kernel
theorem dX6_perform_17 : decode cX6_perform 17 = .ok (.if_icmp .ne 4, 3) := by decide +kernel
theorem dX6_perform_20 : decode cX6_perform 20 = .ok (.return_, 1) := by decide +kernel
theorem dX6_perform_21 : decode cX6_perform 21 = .ok (.aload_n 0, 1) := by decide +kernel
theorem dX6_perform_22 : decode cX6_perform 22 = .ok (.getfield 19, 3) := by decide +kernel
theorem dX6_perform_25 : decode cX6_perform 25 = .ok (.getfield 35, 3) := by decide +kernel
theorem dX6_perform_28 : decode cX6_perform 28 = .ok (.iconst 1, 1) := by decide +kernel
theorem dX6_perform_29 : decode cX6_perform 29 = .ok (.isub, 1) := by decide +kernel
theorem dX6_perform_30 : decode cX6_perform 30 = .ok (.istore_n 2, 1) := by decide +kernel
theorem dX6_perform_31 : decode cX6_perform 31 = .ok (.aload_n 0, 1) := by decide +kernel
theorem dX6_perform_32 : decode cX6_perform 32 = .ok (.getfield 9, 3) := by decide +kernel
theorem dX6_perform_35 : decode cX6_perform 35 = .ok (.getfield 38, 3) := by decide +kernel
theorem dX6_perform_38 : decode cX6_perform 38 = .ok (.iload_n 1, 1) := by decide +kernel
theorem dX6_perform_39 : decode cX6_perform 39 = .ok (.iaload, 1) := by decide +kernel
theorem dX6_perform_40 : decode cX6_perform 40 = .ok (.istore_n 3, 1) := by decide +kernel
theorem dX6_perform_41 : decode cX6_perform 41 = .ok (.aload_n 0, 1) := by decide +kernel
theorem dX6_perform_42 : decode cX6_perform 42 = .ok (.getfield 19, 3) := by decide +kernel
theorem dX6_perform_45 : decode cX6_perform 45 = .ok (.getfield 42, 3) := by decide +kernel
theorem dX6_perform_48 : decode cX6_perform 48 = .ok (.iload_n 2, 1) := by decide +kernel
theorem dX6_perform_49 : decode cX6_perform 49 = .ok (.iload_n 1, 1) := by decide +kernel
theorem dX6_perform_50 : decode cX6_perform 50 = .ok (.iconst 1, 1) := by decide +kernel
theorem dX6_perform_51 : decode cX6_perform 51 = .ok (.iadd, 1) := by decide +kernel
theorem dX6_perform_52 : decode cX6_perform 52 = .ok (.iastore, 1) := by decide +kernel
theorem dX6_perform_53 : decode cX6_perform 53 = .ok (.iload_n 3, 1) := by decide +kernel
theorem dX6_perform_54 : decode cX6_perform 54 = .ok (.bipush 69, 2) := by decide +kernel
theorem dX6_perform_56 : decode cX6_perform 56 = .ok (.if_icmp .lt 12, 3) := by decide +kernel
theorem dX6_perform_59 : decode cX6_perform 59 = .ok (.aload_n 0, 1) := by decide +kernel
theorem dX6_perform_60 : decode cX6_perform 60 = .ok (.iload_n 2, 1) := by decide +kernel
theorem dX6_perform_61 : decode cX6_perform 61 = .ok (.iload_n 3, 1) := by decide +kernel
theorem dX6_perform_62 : decode cX6_perform 62 = .ok (.invokevirtual 52, 3) := by decide +kernel
theorem dX6_perform_65 : decode cX6_perform 65 = .ok (.goto 80, 3) := by decide +kernel
theorem dX6_perform_68 : decode cX6_perform 68 = .ok (.iload_n 3, 1) := by decide +kernel
theorem dX6_perform_69 : decode cX6_perform 69 = .ok (.bipush 65, 2) := by decide +kernel
theorem dX6_perform_71 : decode cX6_perform 71 = .ok (.if_icmp .lt 19, 3) := by decide +kernel
theorem dX6_perform_74 : decode cX6_perform 74 = .ok (.aload_n 0, 1) := by decide +kernel
theorem dX6_perform_75 : decode cX6_perform 75 = .ok (.iload_n 2, 1) := by decide +kernel
theorem dX6_perform_76 : decode cX6_perform 76 = .ok (.aload_n 0, 1) := by decide +kernel
theorem dX6_perform_77 : decode cX6_perform 77 = .ok (.getfield 9, 3) := by decide +kernel
theorem dX6_perform_80 : decode cX6_perform 80 = .ok (.iload_n 1, 1) := by decide +kernel
theorem dX6_perform_81 : decode cX6_perform 81 = .ok (.invokevirtual 56, 3) := by decide +kernel
theorem dX6_perform_84 : decode cX6_perform 84 = .ok (.invokevirtual 60, 3) := by decide +kernel
theorem dX6_perform_87 : decode cX6_perform 87 = .ok (.goto 58, 3) := by decide +kernel
theorem dX6_perform_90 : decode cX6_perform 90 = .ok (.iload_n 3, 1) := by decide +kernel
theorem dX6_perform_91 : decode cX6_perform 91 = .ok (.bipush 40, 2) := by decide +kernel
theorem dX6_perform_93 : decode cX6_perform 93 = .ok (.if_icmp .lt 21, 3) := by decide +kernel
theorem dX6_perform_96 : decode cX6_perform 96 = .ok (.aload_n 0, 1) := by decide +kernel
theorem dX6_perform_97 : decode cX6_perform 97 = .ok (.iload_n 2, 1) := by decide +kernel
theorem dX6_perform_98 : decode cX6_perform 98 = .ok (.iload_n 3, 1) := by decide +kernel
theorem dX6_perform_99 : decode cX6_perform 99 = .ok (.aload_n 0, 1) := by decide +kernel
theorem dX6_perform_100 : decode cX6_perform 100 = .ok (.getfield 9, 3) := by decide +kernel
theorem dX6_perform_103 : decode cX6_perform 103 = .ok (.getfield 64, 3) := by decide +kernel
theorem dX6_perform_106 : decode cX6_perform 106 = .ok (.iload_n 1, 1) := by decide +kernel
theorem dX6_perform_107 : decode cX6_perform 107 = .ok (.iaload, 1) := by decide +kernel
theorem dX6_perform_108 : decode cX6_perform 108 = .ok (.invokevirtual 67, 3) := by decide +kernel
theorem dX6_perform_111 : decode cX6_perform 111 = .ok (.goto 34, 3) := by decide +kernel
theorem dX6_perform_114 : decode cX6_perform 114 = .ok (.iload_n 3, 1) := by decide +kernel
theorem dX6_perform_115 : decode cX6_perform 115 = .ok (.bipush 26, 2) := by decide +kernel
theorem dX6_perform_117 : decode cX6_perform 117 = .ok (.if_icmp .lt 21, 3) := by decide +kernel
theorem dX6_perform_120 : decode cX6_perform 120 = .ok (.aload_n 0, 1) := by decide +kernel
theorem dX6_perform_121 : decode cX6_perform 121 = .ok (.iload_n 2, 1) := by decide +kernel
theorem dX6_perform_122 : decode cX6_perform 122 = .ok (.iload_n 3, 1) := by decide +kernel
theorem dX6_perform_123 : decode cX6_perform 123 = .ok (.aload_n 0, 1) := by decide +kernel
theorem dX6_perform_124 : decode cX6_perform 124 = .ok (.getfield 9, 3) := by decide +kernel
theorem dX6_perform_127 : decode cX6_perform 127 = .ok (.getfield 64, 3) := by decide +kernel
theorem dX6_perform_130 : decode cX6_perform 130 = .ok (.iload_n 1, 1) := by decide +kernel
theorem dX6_perform_131 : decode cX6_perform 131 = .ok (.iaload, 1) := by decide +kernel
theorem dX6_perform_132 : decode cX6_perform 132 = .ok (.invokevirtual 71, 3) := by decide +kernel
theorem dX6_perform_135 : decode cX6_perform 135 = .ok (.goto 10, 3) := by decide +kernel
theorem dX6_perform_138 : decode cX6_perform 138 = .ok (.aload_n 0, 1) := by decide +kernel
theorem dX6_perform_139 : decode cX6_perform 139 = .ok (.iload_n 2, 1) := by decide +kernel
theorem dX6_perform_140 : decode cX6_perform 140 = .ok (.iload_n 3, 1) := by decide +kernel
theorem dX6_perform_141 : decode cX6_perform 141 = .ok (.iload_n 1, 1) := by decide +kernel
theorem dX6_perform_142 : decode cX6_perform 142 = .ok (.invokevirtual 74, 3) := by decide +kernel
theorem dX6_perform_145 : decode cX6_perform 145 = .ok (.return_, 1) := by decide +kernel
theorem dX6_operate_0 : decode cX6_operate 0 = .ok (.iload_n 2, 1) := by decide +kernel
theorem dX6_operate_1 : decode cX6_operate 1 = .ok (.invokestatic 77, 3) := by decide +kernel
theorem dX6_operate_4 : decode cX6_operate 4 = .ok (.iconst 2, 1) := by decide +kernel
theorem dX6_operate_5 : decode cX6_operate 5 = .ok (.if_icmp .ne 11, 3) := by decide +kernel
theorem dX6_operate_8 : decode cX6_operate 8 = .ok (.aload_n 0, 1) := by decide +kernel
theorem dX6_operate_9 : decode cX6_operate 9 = .ok (.iload_n 1, 1) := by decide +kernel
theorem dX6_operate_10 : decode cX6_operate 10 = .ok (.invokevirtual 82, 3) := by decide +kernel
theorem dX6_operate_13 : decode cX6_operate 13 = .ok (.goto 4, 3) := by decide +kernel
theorem dX6_operate_16 : decode cX6_operate 16 = .ok (.lconst 0, 1) := by decide +kernel
theorem dX6_operate_17 : decode cX6_operate 17 = .ok (.lstore_n 3, 1) := by decide +kernel
theorem dX6_operate_18 : decode cX6_operate 18 = .ok (.aload_n 0, 1) := by decide +kernel
theorem dX6_operate_19 : decode cX6_operate 19 = .ok (.iload_n 1, 1) := by decide +kernel
theorem dX6_operate_20 : decode cX6_operate 20 = .ok (.invokevirtual 82, 3) := by decide +kernel
theorem dX6_operate_23 : decode cX6_operate 23 = .ok (.lstore 5, 2) := by decide +kernel
theorem dX6_operate_25 : decode cX6_operate 25 = .ok (.iload_n 2, 1) := by decide +kernel
theorem dX6_operate_26 : decode cX6_operate 26 = .ok (.lload_n 3, 1) := by decide +kernel
theorem dX6_operate_27 : decode cX6_operate 27 = .ok (.invokestatic 85, 3) := by decide +kernel
theorem dX6_operate_30 : decode cX6_operate 30 = .ok (.ifCond .eq 13, 3) := by decide +kernel
theorem dX6_operate_33 : decode cX6_operate 33 = .ok (.aload_n 0, 1) := by decide +kernel
theorem dX6_operate_34 : decode cX6_operate 34 = .ok (.getfield 19, 3) := by decide +kernel
theorem dX6_operate_37 : decode cX6_operate 37 = .ok (.bipush 11, 2) := by decide +kernel
theorem dX6_operate_39 : decode cX6_operate 39 = .ok (.invokevirtual 89, 3) := by decide +kernel
theorem dX6_operate_42 : decode cX6_operate 42 = .ok (.return_, 1) := by decide +kernel
theorem dX6_operate_43 : decode cX6_operate 43 = .ok (.aload_n 0, 1) := by decide +kernel
theorem dX6_operate_44 : decode cX6_operate 44 = .ok (.iload_n 1, 1) := by decide +kernel
theorem dX6_operate_45 : decode cX6_operate 45 = .ok (.iload_n 2, 1) := by decide +kernel
theorem dX6_operate_46 : decode cX6_operate 46 = .ok (.lload 5, 2) := by decide +kernel
theorem dX6_operate_48 : decode cX6_operate 48 = .ok (.lload_n 3, 1) := by decide +kernel
theorem dX6_operate_49 : decode cX6_operate 49 = .ok (.invokestatic 92, 3) := by decide +kernel
theorem dX6_operate_52 : decode cX6_operate 52 = .ok (.invokevirtual 60, 3) := by decide +kernel
theorem dX6_operate_55 : decode cX6_operate 55 = .ok (.return_, 1) := by decide +kernel
theorem dX6_useMemory_0 : decode cX6_useMemory 0 = .ok (.iload_n 2, 1) := by decide +kernel
theorem dX6_useMemory_1 : decode cX6_useMemory 1 = .ok (.bipush 63, 2) := by decide +kernel
theorem dX6_useMemory_3 : decode cX6_useMemory 3 = .ok (.if_icmp .ne 17, 3) := by decide +kernel
theorem dX6_useMemory_6 : decode cX6_useMemory 6 = .ok (.aload_n 0, 1) := by decide +kernel
theorem dX6_useMemory_7 : decode cX6_useMemory 7 = .ok (.iload_n 1, 1) := by decide +kernel
theorem dX6_useMemory_8 : decode cX6_useMemory 8 = .ok (.aload_n 0, 1) := by decide +kernel
theorem dX6_useMemory_9 : decode cX6_useMemory 9 = .ok (.getfield 15, 3) := by decide +kernel
theorem dX6_useMemory_12 : decode cX6_useMemory 12 = .ok (.getfield 96, 3) := by decide +kernel
theorem dX6_useMemory_15 : decode cX6_useMemory 15 = .ok (.i2l, 1) := by decide +kernel
theorem dX6_useMemory_16 : decode cX6_useMemory 16 = .ok (.invokevirtual 60, 3) := by decide +kernel
theorem dX6_useMemory_19 : decode cX6_useMemory 19 = .ok (.return_, 1) := by decide +kernel
theorem dX6_useMemory_20 : decode cX6_useMemory 20 = .ok (.iload_n 2, 1) := by decide +kernel
theorem dX6_useMemory_21 : decode cX6_useMemory 21 = .ok (.bipush 64, 2) := by decide +kernel
theorem dX6_useMemory_23 : decode cX6_useMemory 23 = .ok (.if_icmp .ne 21, 3) := by decide +kernel
theorem dX6_useMemory_26 : decode cX6_useMemory 26 = .ok (.aload_n 0, 1) := by decide +kernel
theorem dX6_useMemory_27 : decode cX6_useMemory 27 = .ok (.iload_n 1, 1) := by decide +kernel
theorem dX6_useMemory_28 : decode cX6_useMemory 28 = .ok (.aload_n 0, 1) := by decide +kernel
theorem dX6_useMemory_29 : decode cX6_useMemory 29 = .ok (.getfield 15, 3) := by decide +kernel
theorem dX6_useMemory_32 : decode cX6_useMemory 32 = .ok (.aload_n 0, 1) := by decide +kernel
theorem dX6_useMemory_33 : decode cX6_useMemory 33 = .ok (.iload_n 1, 1) := by decide +kernel
theorem dX6_useMemory_34 : decode cX6_useMemory 34 = .ok (.invokevirtual 82, 3) := by decide +kernel
theorem dX6_useMemory_37 : decode cX6_useMemory 37 = .ok (.invokevirtual 101, 3) := by decide +kernel
theorem dX6_useMemory_40 : decode cX6_useMemory 40 = .ok (.invokevirtual 60, 3) := by decide +kernel
theorem dX6_useMemory_43 : decode cX6_useMemory 43 = .ok (.return_, 1) := by decide +kernel
theorem dX6_useMemory_44 : decode cX6_useMemory 44 = .ok (.iload_n 2, 1) := by decide +kernel
theorem dX6_useMemory_45 : decode cX6_useMemory 45 = .ok (.bipush 54, 2) := by decide +kernel
theorem dX6_useMemory_47 : decode cX6_useMemory 47 = .ok (.if_icmp .lt 11, 3) := by decide +kernel
theorem dX6_useMemory_50 : decode cX6_useMemory 50 = .ok (.aload_n 0, 1) := by decide +kernel
theorem dX6_useMemory_51 : decode cX6_useMemory 51 = .ok (.iload_n 1, 1) := by decide +kernel
theorem dX6_useMemory_52 : decode cX6_useMemory 52 = .ok (.invokevirtual 82, 3) := by decide +kernel
theorem dX6_useMemory_55 : decode cX6_useMemory 55 = .ok (.goto 4, 3) := by decide +kernel
theorem dX6_useMemory_58 : decode cX6_useMemory 58 = .ok (.lconst 0, 1) := by decide +kernel
theorem dX6_useMemory_59 : decode cX6_useMemory 59 = .ok (.lstore 4, 2) := by decide +kernel
theorem dX6_useMemory_61 : decode cX6_useMemory 61 = .ok (.aload_n 0, 1) := by decide +kernel
theorem dX6_useMemory_62 : decode cX6_useMemory 62 = .ok (.iload_n 1, 1) := by decide +kernel
theorem dX6_useMemory_63 : decode cX6_useMemory 63 = .ok (.invokevirtual 82, 3) := by decide +kernel
theorem dX6_useMemory_66 : decode cX6_useMemory 66 = .ok (.iload_n 3, 1) := by decide +kernel
theorem dX6_useMemory_67 : decode cX6_useMemory 67 = .ok (.invokestatic 105, 3) := by decide +kernel
theorem dX6_useMemory_70 : decode cX6_useMemory 70 = .ok (.lstore 6, 2) := by decide +kernel
theorem dX6_useMemory_72 : decode cX6_useMemory 72 = .ok (.aload_n 0, 1) := by decide +kernel
theorem dX6_useMemory_73 : decode cX6_useMemory 73 = .ok (.getfield 15, 3) := by decide +kernel
theorem dX6_useMemory_76 : decode cX6_useMemory 76 = .ok (.lload 6, 2) := by decide +kernel
theorem dX6_useMemory_78 : decode cX6_useMemory 78 = .ok (.iload_n 2, 1) := by decide +kernel
theorem dX6_useMemory_79 : decode cX6_useMemory 79 = .ok (.invokestatic 109, 3) := by decide +kernel
theorem dX6_useMemory_82 : decode cX6_useMemory 82 = .ok (.invokevirtual 112, 3) := by decide +kernel
theorem dX6_useMemory_85 : decode cX6_useMemory 85 = .ok (.ifCond .ne 14, 3) := by decide +kernel
theorem dX6_useMemory_88 : decode cX6_useMemory 88 = .ok (.aload_n 0, 1) := by decide +kernel
theorem dX6_useMemory_89 : decode cX6_useMemory 89 = .ok (.getfield 19, 3) := by decide +kernel
theorem dX6_useMemory_92 : decode cX6_useMemory 92 = .ok (.iconst 4, 1) := by decide +kernel
theorem dX6_useMemory_93 : decode cX6_useMemory 93 = .ok (.invokevirtual 89, 3) := by decide +kernel
theorem dX6_useMemory_96 : decode cX6_useMemory 96 = .ok (.goto 41, 3) := by decide +kernel
theorem dX6_useMemory_99 : decode cX6_useMemory 99 = .ok (.iload_n 2, 1) := by decide +kernel
theorem dX6_useMemory_100 : decode cX6_useMemory 100 = .ok (.bipush 54, 2) := by decide +kernel
theorem dX6_useMemory_102 : decode cX6_useMemory 102 = .ok (.if_icmp .lt 19, 3) := by decide +kernel
theorem dX6_useMemory_105 : decode cX6_useMemory 105 = .ok (.aload_n 0, 1) := by decide +kernel
theorem dX6_useMemory_106 : decode cX6_useMemory 106 = .ok (.getfield 15, 3) := by decide +kernel
theorem dX6_useMemory_109 : decode cX6_useMemory 109 = .ok (.iload_n 2, 1) := by decide +kernel
theorem dX6_useMemory_110 : decode cX6_useMemory 110 = .ok (.lload 6, 2) := by decide +kernel
theorem dX6_useMemory_112 : decode cX6_useMemory 112 = .ok (.l2i, 1) := by decide +kernel
theorem dX6_useMemory_113 : decode cX6_useMemory 113 = .ok (.lload 4, 2) := by decide +kernel
theorem dX6_useMemory_115 : decode cX6_useMemory 115 = .ok (.invokevirtual 116, 3) := by decide +kernel
theorem dX6_useMemory_118 : decode cX6_useMemory 118 = .ok (.goto 19, 3) := by decide +kernel
theorem dX6_useMemory_121 : decode cX6_useMemory 121 = .ok (.aload_n 0, 1) := by decide +kernel
theorem dX6_useMemory_122 : decode cX6_useMemory 122 = .ok (.iload_n 1, 1) := by decide +kernel
theorem dX6_useMemory_123 : decode cX6_useMemory 123 = .ok (.aload_n 0, 1) := by decide +kernel
theorem dX6_useMemory_124 : decode cX6_useMemory 124 = .ok (.getfield 15, 3) := by decide +kernel
theorem dX6_useMemory_127 : decode cX6_useMemory 127 = .ok (.iload_n 2, 1) := by decide +kernel
theorem dX6_useMemory_128 : decode cX6_useMemory 128 = .ok (.lload 6, 2) := by decide +kernel
theorem dX6_useMemory_130 : decode cX6_useMemory 130 = .ok (.l2i, 1) := by decide +kernel
theorem dX6_useMemory_131 : decode cX6_useMemory 131 = .ok (.invokevirtual 120, 3) := by decide +kernel
theorem dX6_useMemory_134 : decode cX6_useMemory 134 = .ok (.invokevirtual 60, 3) := by decide +kernel
theorem dX6_useMemory_137 : decode cX6_useMemory 137 = .ok (.return_, 1) := by decide +kernel
theorem dX6_useVariable_0 : decode cX6_useVariable 0 = .ok (.aload_n 0, 1) := by decide +kernel
theorem dX6_useVariable_1 : decode cX6_useVariable 1 = .ok (.getfield 19, 3) := by decide +kernel
theorem dX6_useVariable_4 : decode cX6_useVariable 4 = .ok (.getfield 124, 3) := by decide +kernel
theorem dX6_useVariable_7 : decode cX6_useVariable 7 = .ok (.iload_n 1, 1) := by decide +kernel
theorem dX6_useVariable_8 : decode cX6_useVariable 8 = .ok (.iaload, 1) := by decide +kernel
theorem dX6_useVariable_9 : decode cX6_useVariable 9 = .ok (.iload_n 3, 1) := by decide +kernel
theorem dX6_useVariable_10 : decode cX6_useVariable 10 = .ok (.iadd, 1) := by decide +kernel
theorem dX6_useVariable_11 : decode cX6_useVariable 11 = .ok (.istore 4, 2) := by decide +kernel
theorem dX6_useVariable_13 : decode cX6_useVariable 13 = .ok (.iload_n 2, 1) := by decide +kernel
theorem dX6_useVariable_14 : decode cX6_useVariable 14 = .ok (.tableswitch 173 26 36 #[58, 67, 173, 173, 173, 173, 75, 92, 109, 139, 156], 58) := by decide +kernel
theorem dX6_useVariable_72 : decode cX6_useVariable 72 = .ok (.aload_n 0, 1) := by decide +kernel
theorem dX6_useVariable_73 : decode cX6_useVariable 73 = .ok (.iload_n 1, 1) := by decide +kernel
theorem dX6_useVariable_74 : decode cX6_useVariable 74 = .ok (.invokevirtual 82, 3) := by decide +kernel
theorem dX6_useVariable_77 : decode cX6_useVariable 77 = .ok (.pop2, 1) := by decide +kernel
theorem dX6_useVariable_78 : decode cX6_useVariable 78 = .ok (.goto 109, 3) := by decide +kernel
theorem dX6_useVariable_81 : decode cX6_useVariable 81 = .ok (.aload_n 0, 1) := by decide +kernel
theorem dX6_useVariable_82 : decode cX6_useVariable 82 = .ok (.iload_n 1, 1) := by decide +kernel
theorem dX6_useVariable_83 : decode cX6_useVariable 83 = .ok (.invokevirtual 127, 3) := by decide +kernel
theorem dX6_useVariable_86 : decode cX6_useVariable 86 = .ok (.goto 101, 3) := by decide +kernel
theorem dX6_useVariable_89 : decode cX6_useVariable 89 = .ok (.aload_n 0, 1) := by decide +kernel
theorem dX6_useVariable_90 : decode cX6_useVariable 90 = .ok (.iload_n 1, 1) := by decide +kernel
theorem dX6_useVariable_91 : decode cX6_useVariable 91 = .ok (.aload_n 0, 1) := by decide +kernel
theorem dX6_useVariable_92 : decode cX6_useVariable 92 = .ok (.getfield 19, 3) := by decide +kernel
theorem dX6_useVariable_95 : decode cX6_useVariable 95 = .ok (.iload 4, 2) := by decide +kernel
theorem dX6_useVariable_97 : decode cX6_useVariable 97 = .ok (.invokevirtual 130, 3) := by decide +kernel
theorem dX6_useVariable_100 : decode cX6_useVariable 100 = .ok (.invokevirtual 60, 3) := by decide +kernel
theorem dX6_useVariable_103 : decode cX6_useVariable 103 = .ok (.goto 84, 3) := by decide +kernel
theorem dX6_useVariable_106 : decode cX6_useVariable 106 = .ok (.aload_n 0, 1) := by decide +kernel
theorem dX6_useVariable_107 : decode cX6_useVariable 107 = .ok (.getfield 19, 3) := by decide +kernel
theorem dX6_useVariable_110 : decode cX6_useVariable 110 = .ok (.iload 4, 2) := by decide +kernel
theorem dX6_useVariable_112 : decode cX6_useVariable 112 = .ok (.aload_n 0, 1) := by decide +kernel
theorem dX6_useVariable_113 : decode cX6_useVariable 113 = .ok (.iload_n 1, 1) := by decide +kernel
theorem dX6_useVariable_114 : decode cX6_useVariable 114 = .ok (.invokevirtual 82, 3) := by decide +kernel
theorem dX6_useVariable_117 : decode cX6_useVariable 117 = .ok (.invokevirtual 133, 3) := by decide +kernel
theorem dX6_useVariable_120 : decode cX6_useVariable 120 = .ok (.goto 67, 3) := by decide +kernel
theorem dX6_useVariable_123 : decode cX6_useVariable 123 = .ok (.aload_n 0, 1) := by decide +kernel
theorem dX6_useVariable_124 : decode cX6_useVariable 124 = .ok (.getfield 19, 3) := by decide +kernel
theorem dX6_useVariable_127 : decode cX6_useVariable 127 = .ok (.iload 4, 2) := by decide +kernel
theorem dX6_useVariable_129 : decode cX6_useVariable 129 = .ok (.aload_n 0, 1) := by decide +kernel
theorem dX6_useVariable_130 : decode cX6_useVariable 130 = .ok (.getfield 19, 3) := by decide +kernel
theorem dX6_useVariable_133 : decode cX6_useVariable 133 = .ok (.aload_n 0, 1) := by decide +kernel
theorem dX6_useVariable_134 : decode cX6_useVariable 134 = .ok (.getfield 19, 3) := by decide +kernel
theorem dX6_useVariable_137 : decode cX6_useVariable 137 = .ok (.getfield 136, 3) := by decide +kernel
theorem dX6_useVariable_140 : decode cX6_useVariable 140 = .ok (.iload_n 1, 1) := by decide +kernel
theorem dX6_useVariable_141 : decode cX6_useVariable 141 = .ok (.iaload, 1) := by decide +kernel
theorem dX6_useVariable_142 : decode cX6_useVariable 142 = .ok (.iconst 1, 1) := by decide +kernel
theorem dX6_useVariable_143 : decode cX6_useVariable 143 = .ok (.isub, 1) := by decide +kernel
theorem dX6_useVariable_144 : decode cX6_useVariable 144 = .ok (.invokevirtual 130, 3) := by decide +kernel
theorem dX6_useVariable_147 : decode cX6_useVariable 147 = .ok (.invokevirtual 133, 3) := by decide +kernel
theorem dX6_useVariable_150 : decode cX6_useVariable 150 = .ok (.goto 37, 3) := by decide +kernel
theorem dX6_useVariable_153 : decode cX6_useVariable 153 = .ok (.aload_n 0, 1) := by decide +kernel
theorem dX6_useVariable_154 : decode cX6_useVariable 154 = .ok (.iload_n 1, 1) := by decide +kernel
theorem dX6_useVariable_155 : decode cX6_useVariable 155 = .ok (.aload_n 0, 1) := by decide +kernel
theorem dX6_useVariable_156 : decode cX6_useVariable 156 = .ok (.getfield 15, 3) := by decide +kernel
theorem dX6_useVariable_159 : decode cX6_useVariable 159 = .ok (.getfield 139, 3) := by decide +kernel
theorem dX6_useVariable_162 : decode cX6_useVariable 162 = .ok (.iload_n 3, 1) := by decide +kernel
theorem dX6_useVariable_163 : decode cX6_useVariable 163 = .ok (.laload, 1) := by decide +kernel
theorem dX6_useVariable_164 : decode cX6_useVariable 164 = .ok (.invokevirtual 60, 3) := by decide +kernel
theorem dX6_useVariable_167 : decode cX6_useVariable 167 = .ok (.goto 20, 3) := by decide +kernel
theorem dX6_useVariable_170 : decode cX6_useVariable 170 = .ok (.aload_n 0, 1) := by decide +kernel
theorem dX6_useVariable_171 : decode cX6_useVariable 171 = .ok (.getfield 15, 3) := by decide +kernel
theorem dX6_useVariable_174 : decode cX6_useVariable 174 = .ok (.getfield 139, 3) := by decide +kernel
theorem dX6_useVariable_177 : decode cX6_useVariable 177 = .ok (.iload_n 3, 1) := by decide +kernel
theorem dX6_useVariable_178 : decode cX6_useVariable 178 = .ok (.aload_n 0, 1) := by decide +kernel
theorem dX6_useVariable_179 : decode cX6_useVariable 179 = .ok (.iload_n 1, 1) := by decide +kernel
theorem dX6_useVariable_180 : decode cX6_useVariable 180 = .ok (.invokevirtual 82, 3) := by decide +kernel
theorem dX6_useVariable_183 : decode cX6_useVariable 183 = .ok (.lastore, 1) := by decide +kernel
theorem dX6_useVariable_184 : decode cX6_useVariable 184 = .ok (.goto 3, 3) := by decide +kernel
theorem dX6_useVariable_187 : decode cX6_useVariable 187 = .ok (.return_, 1) := by decide +kernel
theorem dX6_select_0 : decode cX6_select 0 = .ok (.aload_n 0, 1) := by decide +kernel
theorem dX6_select_1 : decode cX6_select 1 = .ok (.iload_n 1, 1) := by decide +kernel
theorem dX6_select_2 : decode cX6_select 2 = .ok (.invokevirtual 82, 3) := by decide +kernel
theorem dX6_select_5 : decode cX6_select 5 = .ok (.l2i, 1) := by decide +kernel
theorem dX6_select_6 : decode cX6_select 6 = .ok (.ifCond .eq 7, 3) := by decide +kernel
theorem dX6_select_9 : decode cX6_select 9 = .ok (.iconst 1, 1) := by decide +kernel
theorem dX6_select_10 : decode cX6_select 10 = .ok (.goto 4, 3) := by decide +kernel
theorem dX6_select_13 : decode cX6_select 13 = .ok (.iconst 0, 1) := by decide +kernel
theorem dX6_select_14 : decode cX6_select 14 = .ok (.istore_n 2, 1) := by decide +kernel
theorem dX6_select_15 : decode cX6_select 15 = .ok (.aload_n 0, 1) := by decide +kernel
theorem dX6_select_16 : decode cX6_select 16 = .ok (.iload_n 1, 1) := by decide +kernel
theorem dX6_select_17 : decode cX6_select 17 = .ok (.invokevirtual 82, 3) := by decide +kernel
theorem dX6_select_20 : decode cX6_select 20 = .ok (.lstore_n 3, 1) := by decide +kernel
theorem dX6_select_21 : decode cX6_select 21 = .ok (.aload_n 0, 1) := by decide +kernel
theorem dX6_select_22 : decode cX6_select 22 = .ok (.iload_n 1, 1) := by decide +kernel
theorem dX6_select_23 : decode cX6_select 23 = .ok (.invokevirtual 82, 3) := by decide +kernel
theorem dX6_select_26 : decode cX6_select 26 = .ok (.lstore 5, 2) := by decide +kernel
theorem dX6_select_28 : decode cX6_select 28 = .ok (.aload_n 0, 1) := by decide +kernel
theorem dX6_select_29 : decode cX6_select 29 = .ok (.iload_n 1, 1) := by decide +kernel
theorem dX6_select_30 : decode cX6_select 30 = .ok (.iload_n 2, 1) := by decide +kernel
theorem dX6_select_31 : decode cX6_select 31 = .ok (.ifCond .eq 8, 3) := by decide +kernel
theorem dX6_select_34 : decode cX6_select 34 = .ok (.lload 5, 2) := by decide +kernel
theorem dX6_select_36 : decode cX6_select 36 = .ok (.goto 4, 3) := by decide +kernel
theorem dX6_select_39 : decode cX6_select 39 = .ok (.lload_n 3, 1) := by decide +kernel
theorem dX6_select_40 : decode cX6_select 40 = .ok (.invokevirtual 60, 3) := by decide +kernel
theorem dX6_select_43 : decode cX6_select 43 = .ok (.return_, 1) := by decide +kernel
theorem dX6_control_0 : decode cX6_control 0 = .ok (.iload_n 2, 1) := by decide +kernel
theorem dX6_control_1 : decode cX6_control 1 = .ok (.tableswitch 203 0 17 #[87, 203, 203, 203, 98, 203, 203, 203, 203, 203, 203, 203, 107, 116, 134, 169, 177, 194], 87) := by decide +kernel
theorem dX6_control_88 : decode cX6_control 88 = .ok (.aload_n 0, 1) := by decide +kernel
theorem dX6_control_89 : decode cX6_control 89 = .ok (.getfield 19, 3) := by decide +kernel
theorem dX6_control_92 : decode cX6_control 92 = .ok (.iconst 1, 1) := by decide +kernel
theorem dX6_control_93 : decode cX6_control 93 = .ok (.invokevirtual 89, 3) := by decide +kernel
theorem dX6_control_96 : decode cX6_control 96 = .ok (.goto 108, 3) := by decide +kernel
theorem dX6_control_99 : decode cX6_control 99 = .ok (.aload_n 0, 1) := by decide +kernel
theorem dX6_control_100 : decode cX6_control 100 = .ok (.iload_n 1, 1) := by decide +kernel
theorem dX6_control_101 : decode cX6_control 101 = .ok (.iload_n 3, 1) := by decide +kernel
theorem dX6_control_102 : decode cX6_control 102 = .ok (.invokevirtual 143, 3) := by decide +kernel
theorem dX6_control_105 : decode cX6_control 105 = .ok (.goto 99, 3) := by decide +kernel
theorem dX6_control_108 : decode cX6_control 108 = .ok (.aload_n 0, 1) := by decide +kernel
theorem dX6_control_109 : decode cX6_control 109 = .ok (.iload_n 1, 1) := by decide +kernel
theorem dX6_control_110 : decode cX6_control 110 = .ok (.iload_n 3, 1) := by decide +kernel
theorem dX6_control_111 : decode cX6_control 111 = .ok (.invokevirtual 146, 3) := by decide +kernel
theorem dX6_control_114 : decode cX6_control 114 = .ok (.goto 90, 3) := by decide +kernel
theorem dX6_control_117 : decode cX6_control 117 = .ok (.aload_n 0, 1) := by decide +kernel
theorem dX6_control_118 : decode cX6_control 118 = .ok (.iload_n 1, 1) := by decide +kernel
theorem dX6_control_119 : decode cX6_control 119 = .ok (.invokevirtual 82, 3) := by decide +kernel
theorem dX6_control_122 : decode cX6_control 122 = .ok (.l2i, 1) := by decide +kernel
theorem dX6_control_123 : decode cX6_control 123 = .ok (.ifCond .eq 81, 3) := by decide +kernel
theorem dX6_control_126 : decode cX6_control 126 = .ok (.aload_n 0, 1) := by decide +kernel
theorem dX6_control_127 : decode cX6_control 127 = .ok (.iload_n 1, 1) := by decide +kernel
theorem dX6_control_128 : decode cX6_control 128 = .ok (.iload_n 3, 1) := by decide +kernel
theorem dX6_control_129 : decode cX6_control 129 = .ok (.invokevirtual 146, 3) := by decide +kernel
theorem dX6_control_132 : decode cX6_control 132 = .ok (.goto 72, 3) := by decide +kernel
theorem dX6_control_135 : decode cX6_control 135 = .ok (.aload_n 0, 1) := by decide +kernel
theorem dX6_control_136 : decode cX6_control 136 = .ok (.iload_n 1, 1) := by decide +kernel
theorem dX6_control_137 : decode cX6_control 137 = .ok (.iload_n 3, 1) := by decide +kernel
theorem dX6_control_138 : decode cX6_control 138 = .ok (.iconst 1, 1) := by decide +kernel
theorem dX6_control_139 : decode cX6_control 139 = .ok (.iadd, 1) := by decide +kernel
theorem dX6_control_140 : decode cX6_control 140 = .ok (.aload_n 0, 1) := by decide +kernel
theorem dX6_control_141 : decode cX6_control 141 = .ok (.iload_n 1, 1) := by decide +kernel
theorem dX6_control_142 : decode cX6_control 142 = .ok (.invokevirtual 82, 3) := by decide +kernel
theorem dX6_control_145 : decode cX6_control 145 = .ok (.ldc2_w 149, 3) := by decide +kernel
theorem dX6_control_148 : decode cX6_control 148 = .ok (.land, 1) := by decide +kernel
theorem dX6_control_149 : decode cX6_control 149 = .ok (.aload_n 0, 1) := by decide +kernel
theorem dX6_control_150 : decode cX6_control 150 = .ok (.getfield 9, 3) := by decide +kernel
theorem dX6_control_153 : decode cX6_control 153 = .ok (.getfield 64, 3) := by decide +kernel
theorem dX6_control_156 : decode cX6_control 156 = .ok (.iload_n 3, 1) := by decide +kernel
theorem dX6_control_157 : decode cX6_control 157 = .ok (.iaload, 1) := by decide +kernel
theorem dX6_control_158 : decode cX6_control 158 = .ok (.i2l, 1) := by decide +kernel
theorem dX6_control_159 : decode cX6_control 159 = .ok (.invokestatic 151, 3) := by decide +kernel
theorem dX6_control_162 : decode cX6_control 162 = .ok (.l2i, 1) := by decide +kernel
theorem dX6_control_163 : decode cX6_control 163 = .ok (.iadd, 1) := by decide +kernel
theorem dX6_control_164 : decode cX6_control 164 = .ok (.invokevirtual 146, 3) := by decide +kernel
theorem dX6_control_167 : decode cX6_control 167 = .ok (.goto 37, 3) := by decide +kernel
theorem dX6_control_170 : decode cX6_control 170 = .ok (.aload_n 0, 1) := by decide +kernel
theorem dX6_control_171 : decode cX6_control 171 = .ok (.iload_n 1, 1) := by decide +kernel
theorem dX6_control_172 : decode cX6_control 172 = .ok (.invokevirtual 48, 3) := by decide +kernel
theorem dX6_control_175 : decode cX6_control 175 = .ok (.goto 29, 3) := by decide +kernel
theorem dX6_control_178 : decode cX6_control 178 = .ok (.aload_n 0, 1) := by decide +kernel
theorem dX6_control_179 : decode cX6_control 179 = .ok (.iload_n 1, 1) := by decide +kernel
theorem dX6_control_180 : decode cX6_control 180 = .ok (.aload_n 0, 1) := by decide +kernel
theorem dX6_control_181 : decode cX6_control 181 = .ok (.getfield 9, 3) := by decide +kernel
theorem dX6_control_184 : decode cX6_control 184 = .ok (.getfield 64, 3) := by decide +kernel
theorem dX6_control_187 : decode cX6_control 187 = .ok (.iload_n 3, 1) := by decide +kernel
theorem dX6_control_188 : decode cX6_control 188 = .ok (.iaload, 1) := by decide +kernel
theorem dX6_control_189 : decode cX6_control 189 = .ok (.invokevirtual 157, 3) := by decide +kernel
theorem dX6_control_192 : decode cX6_control 192 = .ok (.goto 12, 3) := by decide +kernel
theorem dX6_control_195 : decode cX6_control 195 = .ok (.aload_n 0, 1) := by decide +kernel
theorem dX6_control_196 : decode cX6_control 196 = .ok (.iload_n 1, 1) := by decide +kernel
theorem dX6_control_197 : decode cX6_control 197 = .ok (.iload_n 3, 1) := by decide +kernel
theorem dX6_control_198 : decode cX6_control 198 = .ok (.invokevirtual 160, 3) := by decide +kernel
theorem dX6_control_201 : decode cX6_control 201 = .ok (.goto 3, 3) := by decide +kernel
theorem dX6_control_204 : decode cX6_control 204 = .ok (.return_, 1) := by decide +kernel
theorem dX6_beginIf_0 : decode cX6_beginIf 0 = .ok (.aload_n 0, 1) := by decide +kernel
theorem dX6_beginIf_1 : decode cX6_beginIf 1 = .ok (.iload_n 1, 1) := by decide +kernel
theorem dX6_beginIf_2 : decode cX6_beginIf 2 = .ok (.invokevirtual 82, 3) := by decide +kernel
theorem dX6_beginIf_5 : decode cX6_beginIf 5 = .ok (.l2i, 1) := by decide +kernel
theorem dX6_beginIf_6 : decode cX6_beginIf 6 = .ok (.ifCond .ne 42, 3) := by decide +kernel
theorem dX6_beginIf_9 : decode cX6_beginIf 9 = .ok (.aload_n 0, 1) := by decide +kernel
theorem dX6_beginIf_10 : decode cX6_beginIf 10 = .ok (.getfield 9, 3) := by decide +kernel
theorem dX6_beginIf_13 : decode cX6_beginIf 13 = .ok (.getfield 163, 3) := by decide +kernel
theorem dX6_beginIf_16 : decode cX6_beginIf 16 = .ok (.iload_n 2, 1) := by decide +kernel
theorem dX6_beginIf_17 : decode cX6_beginIf 17 = .ok (.iaload, 1) := by decide +kernel
theorem dX6_beginIf_18 : decode cX6_beginIf 18 = .ok (.istore_n 3, 1) := by decide +kernel
theorem dX6_beginIf_19 : decode cX6_beginIf 19 = .ok (.aload_n 0, 1) := by decide +kernel
theorem dX6_beginIf_20 : decode cX6_beginIf 20 = .ok (.getfield 19, 3) := by decide +kernel
theorem dX6_beginIf_23 : decode cX6_beginIf 23 = .ok (.getfield 42, 3) := by decide +kernel
theorem dX6_beginIf_26 : decode cX6_beginIf 26 = .ok (.iload_n 1, 1) := by decide +kernel
theorem dX6_beginIf_27 : decode cX6_beginIf 27 = .ok (.iload_n 3, 1) := by decide +kernel
theorem dX6_beginIf_28 : decode cX6_beginIf 28 = .ok (.iconst (-1), 1) := by decide +kernel
theorem dX6_beginIf_29 : decode cX6_beginIf 29 = .ok (.if_icmp .ne 15, 3) := by decide +kernel
theorem dX6_beginIf_32 : decode cX6_beginIf 32 = .ok (.aload_n 0, 1) := by decide +kernel
theorem dX6_beginIf_33 : decode cX6_beginIf 33 = .ok (.getfield 9, 3) := by decide +kernel
theorem dX6_beginIf_36 : decode cX6_beginIf 36 = .ok (.getfield 45, 3) := by decide +kernel
theorem dX6_beginIf_39 : decode cX6_beginIf 39 = .ok (.iload_n 2, 1) := by decide +kernel
theorem dX6_beginIf_40 : decode cX6_beginIf 40 = .ok (.iaload, 1) := by decide +kernel
theorem dX6_beginIf_41 : decode cX6_beginIf 41 = .ok (.goto 4, 3) := by decide +kernel
theorem dX6_beginIf_44 : decode cX6_beginIf 44 = .ok (.iload_n 3, 1) := by decide +kernel
theorem dX6_beginIf_45 : decode cX6_beginIf 45 = .ok (.iconst 1, 1) := by decide +kernel
theorem dX6_beginIf_46 : decode cX6_beginIf 46 = .ok (.iadd, 1) := by decide +kernel
theorem dX6_beginIf_47 : decode cX6_beginIf 47 = .ok (.iastore, 1) := by decide +kernel
theorem dX6_beginIf_48 : decode cX6_beginIf 48 = .ok (.return_, 1) := by decide +kernel
theorem dX6_branch_0 : decode cX6_branch 0 = .ok (.aload_n 0, 1) := by decide +kernel
theorem dX6_branch_1 : decode cX6_branch 1 = .ok (.getfield 9, 3) := by decide +kernel
