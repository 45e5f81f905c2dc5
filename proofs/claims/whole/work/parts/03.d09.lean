theorem dX10_condition_41 : decode cX10_condition 41 = .ok (.if_icmp .ne 9, 3) := by decide +kernel
theorem dX10_condition_44 : decode cX10_condition 44 = .ok (.iload_n 3, 1) := by decide +kernel
theorem dX10_condition_45 : decode cX10_condition 45 = .ok (.iconst 1, 1) := by decide +kernel
theorem dX10_condition_46 : decode cX10_condition 46 = .ok (.iadd, 1) := by decide +kernel
theorem dX10_condition_47 : decode cX10_condition 47 = .ok (.goto 4, 3) := by decide +kernel
theorem dX10_condition_50 : decode cX10_condition 50 = .ok (.iload_n 3, 1) := by decide +kernel
theorem dX10_condition_51 : decode cX10_condition 51 = .ok (.putfield 212, 3) := by decide +kernel
theorem dX10_condition_54 : decode cX10_condition 54 = .ok (.return_, 1) := by decide +kernel
theorem dX10_step_0 : decode cX10_step 0 = .ok (.aload_n 0, 1) := by decide +kernel
theorem dX10_step_1 : decode cX10_step 1 = .ok (.dup, 1) := by decide +kernel
theorem dX10_step_2 : decode cX10_step 2 = .ok (.getfield 289, 3) := by decide +kernel
theorem dX10_step_5 : decode cX10_step 5 = .ok (.iconst 1, 1) := by decide +kernel
theorem dX10_step_6 : decode cX10_step 6 = .ok (.iadd, 1) := by decide +kernel
theorem dX10_step_7 : decode cX10_step 7 = .ok (.putfield 289, 3) := by decide +kernel
theorem dX10_step_10 : decode cX10_step 10 = .ok (.aload_n 0, 1) := by decide +kernel
theorem dX10_step_11 : decode cX10_step 11 = .ok (.getfield 28, 3) := by decide +kernel
theorem dX10_step_14 : decode cX10_step 14 = .ok (.aload_n 0, 1) := by decide +kernel
theorem dX10_step_15 : decode cX10_step 15 = .ok (.getfield 212, 3) := by decide +kernel
theorem dX10_step_18 : decode cX10_step 18 = .ok (.iaload, 1) := by decide +kernel
theorem dX10_step_19 : decode cX10_step 19 = .ok (.istore_n 1, 1) := by decide +kernel
theorem dX10_step_20 : decode cX10_step 20 = .ok (.aload_n 0, 1) := by decide +kernel
theorem dX10_step_21 : decode cX10_step 21 = .ok (.getfield 31, 3) := by decide +kernel
theorem dX10_step_24 : decode cX10_step 24 = .ok (.aload_n 0, 1) := by decide +kernel
theorem dX10_step_25 : decode cX10_step 25 = .ok (.getfield 212, 3) := by decide +kernel
theorem dX10_step_28 : decode cX10_step 28 = .ok (.iaload, 1) := by decide +kernel
theorem dX10_step_29 : decode cX10_step 29 = .ok (.istore_n 2, 1) := by decide +kernel
theorem dX10_step_30 : decode cX10_step 30 = .ok (.aload_n 0, 1) := by decide +kernel
theorem dX10_step_31 : decode cX10_step 31 = .ok (.getfield 34, 3) := by decide +kernel
theorem dX10_step_34 : decode cX10_step 34 = .ok (.aload_n 0, 1) := by decide +kernel
theorem dX10_step_35 : decode cX10_step 35 = .ok (.getfield 212, 3) := by decide +kernel
theorem dX10_step_38 : decode cX10_step 38 = .ok (.iaload, 1) := by decide +kernel
theorem dX10_step_39 : decode cX10_step 39 = .ok (.istore_n 3, 1) := by decide +kernel
theorem dX10_step_40 : decode cX10_step 40 = .ok (.iload_n 1, 1) := by decide +kernel
theorem dX10_step_41 : decode cX10_step 41 = .ok (.tableswitch 214 0 17 #[87, 214, 214, 214, 95, 214, 214, 214, 214, 214, 214, 214, 103, 111, 142, 186, 197, 205], 87) := by decide +kernel
theorem dX10_step_128 : decode cX10_step 128 = .ok (.aload_n 0, 1) := by decide +kernel
theorem dX10_step_129 : decode cX10_step 129 = .ok (.iconst 1, 1) := by decide +kernel
theorem dX10_step_130 : decode cX10_step 130 = .ok (.invokevirtual 249, 3) := by decide +kernel
theorem dX10_step_133 : decode cX10_step 133 = .ok (.goto 129, 3) := by decide +kernel
theorem dX10_step_136 : decode cX10_step 136 = .ok (.aload_n 0, 1) := by decide +kernel
theorem dX10_step_137 : decode cX10_step 137 = .ok (.iload_n 2, 1) := by decide +kernel
theorem dX10_step_138 : decode cX10_step 138 = .ok (.invokevirtual 292, 3) := by decide +kernel
theorem dX10_step_141 : decode cX10_step 141 = .ok (.goto 121, 3) := by decide +kernel
theorem dX10_step_144 : decode cX10_step 144 = .ok (.aload_n 0, 1) := by decide +kernel
theorem dX10_step_145 : decode cX10_step 145 = .ok (.iload_n 2, 1) := by decide +kernel
theorem dX10_step_146 : decode cX10_step 146 = .ok (.invokevirtual 295, 3) := by decide +kernel
theorem dX10_step_149 : decode cX10_step 149 = .ok (.goto 113, 3) := by decide +kernel
theorem dX10_step_152 : decode cX10_step 152 = .ok (.aload_n 0, 1) := by decide +kernel
theorem dX10_step_153 : decode cX10_step 153 = .ok (.invokevirtual 243, 3) := by decide +kernel
theorem dX10_step_156 : decode cX10_step 156 = .ok (.invokestatic 285, 3) := by decide +kernel
theorem dX10_step_159 : decode cX10_step 159 = .ok (.ifCond .eq 11, 3) := by decide +kernel
theorem dX10_step_162 : decode cX10_step 162 = .ok (.aload_n 0, 1) := by decide +kernel
theorem dX10_step_163 : decode cX10_step 163 = .ok (.iload_n 2, 1) := by decide +kernel
theorem dX10_step_164 : decode cX10_step 164 = .ok (.invokevirtual 295, 3) := by decide +kernel
theorem dX10_step_167 : decode cX10_step 167 = .ok (.goto 95, 3) := by decide +kernel
theorem dX10_step_170 : decode cX10_step 170 = .ok (.aload_n 0, 1) := by decide +kernel
theorem dX10_step_171 : decode cX10_step 171 = .ok (.dup, 1) := by decide +kernel
theorem dX10_step_172 : decode cX10_step 172 = .ok (.getfield 212, 3) := by decide +kernel
theorem dX10_step_175 : decode cX10_step 175 = .ok (.iconst 1, 1) := by decide +kernel
theorem dX10_step_176 : decode cX10_step 176 = .ok (.iadd, 1) := by decide +kernel
theorem dX10_step_177 : decode cX10_step 177 = .ok (.putfield 212, 3) := by decide +kernel
theorem dX10_step_180 : decode cX10_step 180 = .ok (.goto 82, 3) := by decide +kernel
theorem dX10_step_183 : decode cX10_step 183 = .ok (.aload_n 0, 1) := by decide +kernel
theorem dX10_step_184 : decode cX10_step 184 = .ok (.invokevirtual 243, 3) := by decide +kernel
theorem dX10_step_187 : decode cX10_step 187 = .ok (.ldc2_w 241, 3) := by decide +kernel
theorem dX10_step_190 : decode cX10_step 190 = .ok (.land, 1) := by decide +kernel
theorem dX10_step_191 : decode cX10_step 191 = .ok (.lstore 4, 2) := by decide +kernel
theorem dX10_step_193 : decode cX10_step 193 = .ok (.aload_n 0, 1) := by decide +kernel
theorem dX10_step_194 : decode cX10_step 194 = .ok (.aload_n 0, 1) := by decide +kernel
theorem dX10_step_195 : decode cX10_step 195 = .ok (.getfield 31, 3) := by decide +kernel
theorem dX10_step_198 : decode cX10_step 198 = .ok (.aload_n 0, 1) := by decide +kernel
theorem dX10_step_199 : decode cX10_step 199 = .ok (.getfield 212, 3) := by decide +kernel
theorem dX10_step_202 : decode cX10_step 202 = .ok (.iconst 1, 1) := by decide +kernel
theorem dX10_step_203 : decode cX10_step 203 = .ok (.iadd, 1) := by decide +kernel
theorem dX10_step_204 : decode cX10_step 204 = .ok (.lload 4, 2) := by decide +kernel
theorem dX10_step_206 : decode cX10_step 206 = .ok (.iload_n 2, 1) := by decide +kernel
theorem dX10_step_207 : decode cX10_step 207 = .ok (.i2l, 1) := by decide +kernel
theorem dX10_step_208 : decode cX10_step 208 = .ok (.lcmp, 1) := by decide +kernel
theorem dX10_step_209 : decode cX10_step 209 = .ok (.ifCond .ge 9, 3) := by decide +kernel
theorem dX10_step_212 : decode cX10_step 212 = .ok (.lload 4, 2) := by decide +kernel
theorem dX10_step_214 : decode cX10_step 214 = .ok (.l2i, 1) := by decide +kernel
theorem dX10_step_215 : decode cX10_step 215 = .ok (.goto 4, 3) := by decide +kernel
theorem dX10_step_218 : decode cX10_step 218 = .ok (.iload_n 2, 1) := by decide +kernel
theorem dX10_step_219 : decode cX10_step 219 = .ok (.iadd, 1) := by decide +kernel
theorem dX10_step_220 : decode cX10_step 220 = .ok (.iaload, 1) := by decide +kernel
theorem dX10_step_221 : decode cX10_step 221 = .ok (.invokevirtual 295, 3) := by decide +kernel
theorem dX10_step_224 : decode cX10_step 224 = .ok (.goto 38, 3) := by decide +kernel
theorem dX10_step_227 : decode cX10_step 227 = .ok (.aload_n 0, 1) := by decide +kernel
theorem dX10_step_228 : decode cX10_step 228 = .ok (.aload_n 0, 1) := by decide +kernel
theorem dX10_step_229 : decode cX10_step 229 = .ok (.invokevirtual 298, 3) := by decide +kernel
theorem dX10_step_232 : decode cX10_step 232 = .ok (.invokevirtual 295, 3) := by decide +kernel
theorem dX10_step_235 : decode cX10_step 235 = .ok (.goto 27, 3) := by decide +kernel
theorem dX10_step_238 : decode cX10_step 238 = .ok (.aload_n 0, 1) := by decide +kernel
theorem dX10_step_239 : decode cX10_step 239 = .ok (.iload_n 2, 1) := by decide +kernel
theorem dX10_step_240 : decode cX10_step 240 = .ok (.invokevirtual 252, 3) := by decide +kernel
theorem dX10_step_243 : decode cX10_step 243 = .ok (.goto 19, 3) := by decide +kernel
theorem dX10_step_246 : decode cX10_step 246 = .ok (.aload_n 0, 1) := by decide +kernel
theorem dX10_step_247 : decode cX10_step 247 = .ok (.iload_n 2, 1) := by decide +kernel
theorem dX10_step_248 : decode cX10_step 248 = .ok (.iload_n 3, 1) := by decide +kernel
theorem dX10_step_249 : decode cX10_step 249 = .ok (.invokevirtual 301, 3) := by decide +kernel
theorem dX10_step_252 : decode cX10_step 252 = .ok (.goto 10, 3) := by decide +kernel
theorem dX10_step_255 : decode cX10_step 255 = .ok (.aload_n 0, 1) := by decide +kernel
theorem dX10_step_256 : decode cX10_step 256 = .ok (.iload_n 1, 1) := by decide +kernel
theorem dX10_step_257 : decode cX10_step 257 = .ok (.iload_n 2, 1) := by decide +kernel
theorem dX10_step_258 : decode cX10_step 258 = .ok (.iload_n 3, 1) := by decide +kernel
theorem dX10_step_259 : decode cX10_step 259 = .ok (.invokevirtual 304, 3) := by decide +kernel
theorem dX10_step_262 : decode cX10_step 262 = .ok (.aload_n 0, 1) := by decide +kernel
theorem dX10_step_263 : decode cX10_step 263 = .ok (.invokevirtual 307, 3) := by decide +kernel
theorem dX10_step_266 : decode cX10_step 266 = .ok (.return_, 1) := by decide +kernel
theorem dX10_argument_0 : decode cX10_argument 0 = .ok (.aload_n 0, 1) := by decide +kernel
theorem dX10_argument_1 : decode cX10_argument 1 = .ok (.getfield 310, 3) := by decide +kernel
theorem dX10_argument_4 : decode cX10_argument 4 = .ok (.bipush 8, 2) := by decide +kernel
theorem dX10_argument_6 : decode cX10_argument 6 = .ok (.if_icmp .ne 5, 3) := by decide +kernel
theorem dX10_argument_9 : decode cX10_argument 9 = .ok (.iconst (-1), 1) := by decide +kernel
theorem dX10_argument_10 : decode cX10_argument 10 = .ok (.ireturn, 1) := by decide +kernel
theorem dX10_argument_11 : decode cX10_argument 11 = .ok (.aload_n 0, 1) := by decide +kernel
theorem dX10_argument_12 : decode cX10_argument 12 = .ok (.getfield 73, 3) := by decide +kernel
theorem dX10_argument_15 : decode cX10_argument 15 = .ok (.aload_n 0, 1) := by decide +kernel
theorem dX10_argument_16 : decode cX10_argument 16 = .ok (.getfield 310, 3) := by decide +kernel
theorem dX10_argument_19 : decode cX10_argument 19 = .ok (.lload_n 1, 1) := by decide +kernel
theorem dX10_argument_20 : decode cX10_argument 20 = .ok (.lastore, 1) := by decide +kernel
theorem dX10_argument_21 : decode cX10_argument 21 = .ok (.aload_n 0, 1) := by decide +kernel
theorem dX10_argument_22 : decode cX10_argument 22 = .ok (.dup, 1) := by decide +kernel
theorem dX10_argument_23 : decode cX10_argument 23 = .ok (.getfield 310, 3) := by decide +kernel
theorem dX10_argument_26 : decode cX10_argument 26 = .ok (.iconst 1, 1) := by decide +kernel
theorem dX10_argument_27 : decode cX10_argument 27 = .ok (.iadd, 1) := by decide +kernel
theorem dX10_argument_28 : decode cX10_argument 28 = .ok (.putfield 310, 3) := by decide +kernel
theorem dX10_argument_31 : decode cX10_argument 31 = .ok (.aload_n 0, 1) := by decide +kernel
theorem dX10_argument_32 : decode cX10_argument 32 = .ok (.getfield 310, 3) := by decide +kernel
theorem dX10_argument_35 : decode cX10_argument 35 = .ok (.ireturn, 1) := by decide +kernel
theorem dX10_call_0 : decode cX10_call 0 = .ok (.aload_n 0, 1) := by decide +kernel
theorem dX10_call_1 : decode cX10_call 1 = .ok (.iload_n 1, 1) := by decide +kernel
theorem dX10_call_2 : decode cX10_call 2 = .ok (.invokevirtual 187, 3) := by decide +kernel
theorem dX10_call_5 : decode cX10_call 5 = .ok (.ifCond .eq 16, 3) := by decide +kernel
theorem dX10_call_8 : decode cX10_call 8 = .ok (.aload_n 0, 1) := by decide +kernel
theorem dX10_call_9 : decode cX10_call 9 = .ok (.getfield 310, 3) := by decide +kernel
theorem dX10_call_12 : decode cX10_call 12 = .ok (.aload_n 0, 1) := by decide +kernel
theorem dX10_call_13 : decode cX10_call 13 = .ok (.getfield 16, 3) := by decide +kernel
theorem dX10_call_16 : decode cX10_call 16 = .ok (.iload_n 1, 1) := by decide +kernel
theorem dX10_call_17 : decode cX10_call 17 = .ok (.iaload, 1) := by decide +kernel
theorem dX10_call_18 : decode cX10_call 18 = .ok (.if_icmp .eq 5, 3) := by decide +kernel
theorem dX10_call_21 : decode cX10_call 21 = .ok (.iconst 0, 1) := by decide +kernel
theorem dX10_call_22 : decode cX10_call 22 = .ok (.ireturn, 1) := by decide +kernel
theorem dX10_call_23 : decode cX10_call 23 = .ok (.aload_n 0, 1) := by decide +kernel
theorem dX10_call_24 : decode cX10_call 24 = .ok (.iconst 1, 1) := by decide +kernel
theorem dX10_call_25 : decode cX10_call 25 = .ok (.putfield 215, 3) := by decide +kernel
theorem dX10_call_28 : decode cX10_call 28 = .ok (.aload_n 0, 1) := by decide +kernel
theorem dX10_call_29 : decode cX10_call 29 = .ok (.iconst 0, 1) := by decide +kernel
theorem dX10_call_30 : decode cX10_call 30 = .ok (.putfield 289, 3) := by decide +kernel
theorem dX10_call_33 : decode cX10_call 33 = .ok (.aload_n 0, 1) := by decide +kernel
theorem dX10_call_34 : decode cX10_call 34 = .ok (.iconst 0, 1) := by decide +kernel
theorem dX10_call_35 : decode cX10_call 35 = .ok (.putfield 190, 3) := by decide +kernel
theorem dX10_call_38 : decode cX10_call 38 = .ok (.aload_n 0, 1) := by decide +kernel
theorem dX10_call_39 : decode cX10_call 39 = .ok (.iconst 0, 1) := by decide +kernel
theorem dX10_call_40 : decode cX10_call 40 = .ok (.putfield 199, 3) := by decide +kernel
theorem dX10_call_43 : decode cX10_call 43 = .ok (.aload_n 0, 1) := by decide +kernel
theorem dX10_call_44 : decode cX10_call 44 = .ok (.iconst 0, 1) := by decide +kernel
theorem dX10_call_45 : decode cX10_call 45 = .ok (.putfield 206, 3) := by decide +kernel
theorem dX10_call_48 : decode cX10_call 48 = .ok (.aload_n 0, 1) := by decide +kernel
theorem dX10_call_49 : decode cX10_call 49 = .ok (.iconst 0, 1) := by decide +kernel
theorem dX10_call_50 : decode cX10_call 50 = .ok (.putfield 218, 3) := by decide +kernel
theorem dX10_call_53 : decode cX10_call 53 = .ok (.iconst 0, 1) := by decide +kernel
theorem dX10_call_54 : decode cX10_call 54 = .ok (.istore_n 2, 1) := by decide +kernel
theorem dX10_call_55 : decode cX10_call 55 = .ok (.iload_n 2, 1) := by decide +kernel
theorem dX10_call_56 : decode cX10_call 56 = .ok (.aload_n 0, 1) := by decide +kernel
theorem dX10_call_57 : decode cX10_call 57 = .ok (.getfield 310, 3) := by decide +kernel
theorem dX10_call_60 : decode cX10_call 60 = .ok (.if_icmp .ge 19, 3) := by decide +kernel
theorem dX10_call_63 : decode cX10_call 63 = .ok (.aload_n 0, 1) := by decide +kernel
theorem dX10_call_64 : decode cX10_call 64 = .ok (.aload_n 0, 1) := by decide +kernel
theorem dX10_call_65 : decode cX10_call 65 = .ok (.getfield 73, 3) := by decide +kernel
theorem dX10_call_68 : decode cX10_call 68 = .ok (.iload_n 2, 1) := by decide +kernel
theorem dX10_call_69 : decode cX10_call 69 = .ok (.laload, 1) := by decide +kernel
theorem dX10_call_70 : decode cX10_call 70 = .ok (.invokevirtual 221, 3) := by decide +kernel
theorem dX10_call_73 : decode cX10_call 73 = .ok (.iinc 2 1, 3) := by decide +kernel
theorem dX10_call_76 : decode cX10_call 76 = .ok (.goto (-21), 3) := by decide +kernel
theorem dX10_call_79 : decode cX10_call 79 = .ok (.aload_n 0, 1) := by decide +kernel
theorem dX10_call_80 : decode cX10_call 80 = .ok (.iconst 0, 1) := by decide +kernel
theorem dX10_call_81 : decode cX10_call 81 = .ok (.putfield 310, 3) := by decide +kernel
theorem dX10_call_84 : decode cX10_call 84 = .ok (.aload_n 0, 1) := by decide +kernel
theorem dX10_call_85 : decode cX10_call 85 = .ok (.iload_n 1, 1) := by decide +kernel
theorem dX10_call_86 : decode cX10_call 86 = .ok (.putfield 91, 3) := by decide +kernel
theorem dX10_call_89 : decode cX10_call 89 = .ok (.aload_n 0, 1) := by decide +kernel
theorem dX10_call_90 : decode cX10_call 90 = .ok (.iconst 0, 1) := by decide +kernel
theorem dX10_call_91 : decode cX10_call 91 = .ok (.putfield 212, 3) := by decide +kernel
theorem dX10_call_94 : decode cX10_call 94 = .ok (.aload_n 0, 1) := by decide +kernel
theorem dX10_call_95 : decode cX10_call 95 = .ok (.iload_n 1, 1) := by decide +kernel
theorem dX10_call_96 : decode cX10_call 96 = .ok (.invokevirtual 252, 3) := by decide +kernel
theorem dX10_call_99 : decode cX10_call 99 = .ok (.aload_n 0, 1) := by decide +kernel
theorem dX10_call_100 : decode cX10_call 100 = .ok (.invokevirtual 307, 3) := by decide +kernel
theorem dX10_call_103 : decode cX10_call 103 = .ok (.iconst 1, 1) := by decide +kernel
theorem dX10_call_104 : decode cX10_call 104 = .ok (.ireturn, 1) := by decide +kernel
theorem dX10_tier_0 : decode cX10_tier 0 = .ok (.iload_n 1, 1) := by decide +kernel
theorem dX10_tier_1 : decode cX10_tier 1 = .ok (.ifCond .ge 5, 3) := by decide +kernel
theorem dX10_tier_4 : decode cX10_tier 4 = .ok (.iconst (-1), 1) := by decide +kernel
theorem dX10_tier_5 : decode cX10_tier 5 = .ok (.ireturn, 1) := by decide +kernel
theorem dX10_tier_6 : decode cX10_tier 6 = .ok (.aload_n 0, 1) := by decide +kernel
theorem dX10_tier_7 : decode cX10_tier 7 = .ok (.getfield 88, 3) := by decide +kernel
theorem dX10_tier_10 : decode cX10_tier 10 = .ok (.istore_n 2, 1) := by decide +kernel
theorem dX10_tier_11 : decode cX10_tier 11 = .ok (.aload_n 0, 1) := by decide +kernel
theorem dX10_tier_12 : decode cX10_tier 12 = .ok (.iload_n 1, 1) := by decide +kernel
theorem dX10_tier_13 : decode cX10_tier 13 = .ok (.putfield 88, 3) := by decide +kernel
theorem dX10_tier_16 : decode cX10_tier 16 = .ok (.iload_n 2, 1) := by decide +kernel
theorem dX10_tier_17 : decode cX10_tier 17 = .ok (.ireturn, 1) := by decide +kernel
theorem dX10_compiledOnes_0 : decode cX10_compiledOnes 0 = .ok (.iconst 0, 1) := by decide +kernel
theorem dX10_compiledOnes_1 : decode cX10_compiledOnes 1 = .ok (.istore_n 1, 1) := by decide +kernel
theorem dX10_compiledOnes_2 : decode cX10_compiledOnes 2 = .ok (.iconst 0, 1) := by decide +kernel
theorem dX10_compiledOnes_3 : decode cX10_compiledOnes 3 = .ok (.istore_n 2, 1) := by decide +kernel
theorem dX10_compiledOnes_4 : decode cX10_compiledOnes 4 = .ok (.iload_n 2, 1) := by decide +kernel
theorem dX10_compiledOnes_5 : decode cX10_compiledOnes 5 = .ok (.aload_n 0, 1) := by decide +kernel
theorem dX10_compiledOnes_6 : decode cX10_compiledOnes 6 = .ok (.getfield 107, 3) := by decide +kernel
theorem dX10_compiledOnes_9 : decode cX10_compiledOnes 9 = .ok (.if_icmp .ge 26, 3) := by decide +kernel
theorem dX10_compiledOnes_12 : decode cX10_compiledOnes 12 = .ok (.iload_n 1, 1) := by decide +kernel
theorem dX10_compiledOnes_13 : decode cX10_compiledOnes 13 = .ok (.aload_n 0, 1) := by decide +kernel
theorem dX10_compiledOnes_14 : decode cX10_compiledOnes 14 = .ok (.getfield 97, 3) := by decide +kernel
theorem dX10_compiledOnes_17 : decode cX10_compiledOnes 17 = .ok (.iload_n 2, 1) := by decide +kernel
theorem dX10_compiledOnes_18 : decode cX10_compiledOnes 18 = .ok (.baload, 1) := by decide +kernel
theorem dX10_compiledOnes_19 : decode cX10_compiledOnes 19 = .ok (.ifCond .eq 7, 3) := by decide +kernel
theorem dX10_compiledOnes_22 : decode cX10_compiledOnes 22 = .ok (.iconst 1, 1) := by decide +kernel
theorem dX10_compiledOnes_23 : decode cX10_compiledOnes 23 = .ok (.goto 4, 3) := by decide +kernel
theorem dX10_compiledOnes_26 : decode cX10_compiledOnes 26 = .ok (.iconst 0, 1) := by decide +kernel
theorem dX10_compiledOnes_27 : decode cX10_compiledOnes 27 = .ok (.iadd, 1) := by decide +kernel
theorem dX10_compiledOnes_28 : decode cX10_compiledOnes 28 = .ok (.istore_n 1, 1) := by decide +kernel
theorem dX10_compiledOnes_29 : decode cX10_compiledOnes 29 = .ok (.iinc 2 1, 3) := by decide +kernel
theorem dX10_compiledOnes_32 : decode cX10_compiledOnes 32 = .ok (.goto (-28), 3) := by decide +kernel
theorem dX10_compiledOnes_35 : decode cX10_compiledOnes 35 = .ok (.iload_n 1, 1) := by decide +kernel
theorem dX10_compiledOnes_36 : decode cX10_compiledOnes 36 = .ok (.ireturn, 1) := by decide +kernel
theorem dX10_run_0 : decode cX10_run 0 = .ok (.iload_n 1, 1) := by decide +kernel
theorem dX10_run_1 : decode cX10_run 1 = .ok (.sipush 2000, 3) := by decide +kernel
theorem dX10_run_4 : decode cX10_run 4 = .ok (.invokestatic 110, 3) := by decide +kernel
theorem dX10_run_7 : decode cX10_run 7 = .ok (.ifCond .ne 5, 3) := by decide +kernel
theorem dX10_run_10 : decode cX10_run 10 = .ok (.iconst (-1), 1) := by decide +kernel
theorem dX10_run_11 : decode cX10_run 11 = .ok (.ireturn, 1) := by decide +kernel
theorem dX10_run_12 : decode cX10_run 12 = .ok (.iconst 0, 1) := by decide +kernel
theorem dX10_run_13 : decode cX10_run 13 = .ok (.istore_n 2, 1) := by decide +kernel
theorem dX10_run_14 : decode cX10_run 14 = .ok (.iload_n 2, 1) := by decide +kernel
theorem dX10_run_15 : decode cX10_run 15 = .ok (.iload_n 1, 1) := by decide +kernel
theorem dX10_run_16 : decode cX10_run 16 = .ok (.if_icmp .ge 21, 3) := by decide +kernel
theorem dX10_run_19 : decode cX10_run 19 = .ok (.aload_n 0, 1) := by decide +kernel
theorem dX10_run_20 : decode cX10_run 20 = .ok (.getfield 215, 3) := by decide +kernel
theorem dX10_run_23 : decode cX10_run 23 = .ok (.iconst 1, 1) := by decide +kernel
theorem dX10_run_24 : decode cX10_run 24 = .ok (.if_icmp .ne 13, 3) := by decide +kernel
theorem dX10_run_27 : decode cX10_run 27 = .ok (.aload_n 0, 1) := by decide +kernel
theorem dX10_run_28 : decode cX10_run 28 = .ok (.invokevirtual 313, 3) := by decide +kernel
theorem dX10_run_31 : decode cX10_run 31 = .ok (.iinc 2 1, 3) := by decide +kernel
theorem dX10_run_34 : decode cX10_run 34 = .ok (.goto (-20), 3) := by decide +kernel
theorem dX10_run_37 : decode cX10_run 37 = .ok (.iload_n 2, 1) := by decide +kernel
theorem dX10_run_38 : decode cX10_run 38 = .ok (.ireturn, 1) := by decide +kernel
theorem dX10_state_0 : decode cX10_state 0 = .ok (.iload_n 1, 1) := by decide +kernel
theorem dX10_state_1 : decode cX10_state 1 = .ok (.tableswitch 198 0 11 #[63, 68, 73, 90, 111, 116, 121, 126, 142, 163, 188, 193], 63) := by decide +kernel
theorem dX10_state_64 : decode cX10_state 64 = .ok (.aload_n 0, 1) := by decide +kernel
theorem dX10_state_65 : decode cX10_state 65 = .ok (.getfield 215, 3) := by decide +kernel
theorem dX10_state_68 : decode cX10_state 68 = .ok (.ireturn, 1) := by decide +kernel
theorem dX10_state_69 : decode cX10_state 69 = .ok (.aload_n 0, 1) := by decide +kernel
theorem dX10_state_70 : decode cX10_state 70 = .ok (.getfield 238, 3) := by decide +kernel
theorem dX10_state_73 : decode cX10_state 73 = .ok (.ireturn, 1) := by decide +kernel
theorem dX10_state_74 : decode cX10_state 74 = .ok (.aload_n 0, 1) := by decide +kernel
theorem dX10_state_75 : decode cX10_state 75 = .ok (.getfield 215, 3) := by decide +kernel
theorem dX10_state_78 : decode cX10_state 78 = .ok (.iconst 1, 1) := by decide +kernel
theorem dX10_state_79 : decode cX10_state 79 = .ok (.if_icmp .ne 10, 3) := by decide +kernel
theorem dX10_state_82 : decode cX10_state 82 = .ok (.aload_n 0, 1) := by decide +kernel
theorem dX10_state_83 : decode cX10_state 83 = .ok (.getfield 190, 3) := by decide +kernel
theorem dX10_state_86 : decode cX10_state 86 = .ok (.goto 4, 3) := by decide +kernel
theorem dX10_state_89 : decode cX10_state 89 = .ok (.iconst 0, 1) := by decide +kernel
theorem dX10_state_90 : decode cX10_state 90 = .ok (.ireturn, 1) := by decide +kernel
theorem dX10_state_91 : decode cX10_state 91 = .ok (.aload_n 0, 1) := by decide +kernel
theorem dX10_state_92 : decode cX10_state 92 = .ok (.getfield 91, 3) := by decide +kernel
theorem dX10_state_95 : decode cX10_state 95 = .ok (.ifCond .ge 7, 3) := by decide +kernel
theorem dX10_state_98 : decode cX10_state 98 = .ok (.iconst 0, 1) := by decide +kernel
theorem dX10_state_99 : decode cX10_state 99 = .ok (.goto 12, 3) := by decide +kernel
theorem dX10_state_102 : decode cX10_state 102 = .ok (.aload_n 0, 1) := by decide +kernel
theorem dX10_state_103 : decode cX10_state 103 = .ok (.getfield 94, 3) := by decide +kernel
theorem dX10_state_106 : decode cX10_state 106 = .ok (.aload_n 0, 1) := by decide +kernel
theorem dX10_state_107 : decode cX10_state 107 = .ok (.getfield 91, 3) := by decide +kernel
theorem dX10_state_110 : decode cX10_state 110 = .ok (.iaload, 1) := by decide +kernel
theorem dX10_state_111 : decode cX10_state 111 = .ok (.ireturn, 1) := by decide +kernel
theorem dX10_state_112 : decode cX10_state 112 = .ok (.aload_n 0, 1) := by decide +kernel
theorem dX10_state_113 : decode cX10_state 113 = .ok (.getfield 289, 3) := by decide +kernel
theorem dX10_state_116 : decode cX10_state 116 = .ok (.ireturn, 1) := by decide +kernel
theorem dX10_state_117 : decode cX10_state 117 = .ok (.aload_n 0, 1) := by decide +kernel
theorem dX10_state_118 : decode cX10_state 118 = .ok (.getfield 107, 3) := by decide +kernel
theorem dX10_state_121 : decode cX10_state 121 = .ok (.ireturn, 1) := by decide +kernel
theorem dX10_state_122 : decode cX10_state 122 = .ok (.aload_n 0, 1) := by decide +kernel
theorem dX10_state_123 : decode cX10_state 123 = .ok (.getfield 114, 3) := by decide +kernel
theorem dX10_state_126 : decode cX10_state 126 = .ok (.ireturn, 1) := by decide +kernel
theorem dX10_state_127 : decode cX10_state 127 = .ok (.aload_n 0, 1) := by decide +kernel
theorem dX10_state_128 : decode cX10_state 128 = .ok (.getfield 103, 3) := by decide +kernel
theorem dX10_state_131 : decode cX10_state 131 = .ok (.ifCond .eq 10, 3) := by decide +kernel
theorem dX10_state_134 : decode cX10_state 134 = .ok (.aload_n 0, 1) := by decide +kernel
theorem dX10_state_135 : decode cX10_state 135 = .ok (.getfield 117, 3) := by decide +kernel
theorem dX10_state_138 : decode cX10_state 138 = .ok (.goto 4, 3) := by decide +kernel
theorem dX10_state_141 : decode cX10_state 141 = .ok (.iconst 0, 1) := by decide +kernel
theorem dX10_state_142 : decode cX10_state 142 = .ok (.ireturn, 1) := by decide +kernel
theorem dX10_state_143 : decode cX10_state 143 = .ok (.aload_n 0, 1) := by decide +kernel
theorem dX10_state_144 : decode cX10_state 144 = .ok (.getfield 103, 3) := by decide +kernel
theorem dX10_state_147 : decode cX10_state 147 = .ok (.ifCond .eq 15, 3) := by decide +kernel
theorem dX10_state_150 : decode cX10_state 150 = .ok (.aload_n 0, 1) := by decide +kernel
theorem dX10_state_151 : decode cX10_state 151 = .ok (.getfield 52, 3) := by decide +kernel
theorem dX10_state_154 : decode cX10_state 154 = .ok (.aload_n 0, 1) := by decide +kernel
theorem dX10_state_155 : decode cX10_state 155 = .ok (.invokevirtual 127, 3) := by decide +kernel
theorem dX10_state_158 : decode cX10_state 158 = .ok (.iaload, 1) := by decide +kernel
theorem dX10_state_159 : decode cX10_state 159 = .ok (.goto 4, 3) := by decide +kernel
theorem dX10_state_162 : decode cX10_state 162 = .ok (.iconst 0, 1) := by decide +kernel
theorem dX10_state_163 : decode cX10_state 163 = .ok (.ireturn, 1) := by decide +kernel
theorem dX10_state_164 : decode cX10_state 164 = .ok (.aload_n 0, 1) := by decide +kernel
theorem dX10_state_165 : decode cX10_state 165 = .ok (.getfield 103, 3) := by decide +kernel
theorem dX10_state_168 : decode cX10_state 168 = .ok (.ifCond .eq 19, 3) := by decide +kernel
theorem dX10_state_171 : decode cX10_state 171 = .ok (.aload_n 0, 1) := by decide +kernel
theorem dX10_state_172 : decode cX10_state 172 = .ok (.getfield 55, 3) := by decide +kernel
theorem dX10_state_175 : decode cX10_state 175 = .ok (.aload_n 0, 1) := by decide +kernel
theorem dX10_state_176 : decode cX10_state 176 = .ok (.invokevirtual 127, 3) := by decide +kernel
theorem dX10_state_179 : decode cX10_state 179 = .ok (.baload, 1) := by decide +kernel
theorem dX10_state_180 : decode cX10_state 180 = .ok (.ifCond .eq 7, 3) := by decide +kernel
theorem dX10_state_183 : decode cX10_state 183 = .ok (.iconst 1, 1) := by decide +kernel
theorem dX10_state_184 : decode cX10_state 184 = .ok (.goto 4, 3) := by decide +kernel
theorem dX10_state_187 : decode cX10_state 187 = .ok (.iconst 0, 1) := by decide +kernel
theorem dX10_state_188 : decode cX10_state 188 = .ok (.ireturn, 1) := by decide +kernel
theorem dX10_state_189 : decode cX10_state 189 = .ok (.aload_n 0, 1) := by decide +kernel
theorem dX10_state_190 : decode cX10_state 190 = .ok (.getfield 69, 3) := by decide +kernel
theorem dX10_state_193 : decode cX10_state 193 = .ok (.ireturn, 1) := by decide +kernel
theorem dX10_state_194 : decode cX10_state 194 = .ok (.aload_n 0, 1) := by decide +kernel
theorem dX10_state_195 : decode cX10_state 195 = .ok (.invokevirtual 316, 3) := by decide +kernel
theorem dX10_state_198 : decode cX10_state 198 = .ok (.ireturn, 1) := by decide +kernel
theorem dX10_state_199 : decode cX10_state 199 = .ok (.iconst (-1), 1) := by decide +kernel
theorem dX10_state_200 : decode cX10_state 200 = .ok (.ireturn, 1) := by decide +kernel
theorem dX10_result_0 : decode cX10_result 0 = .ok (.aload_n 0, 1) := by decide +kernel
theorem dX10_result_1 : decode cX10_result 1 = .ok (.getfield 215, 3) := by decide +kernel
theorem dX10_result_4 : decode cX10_result 4 = .ok (.iconst 2, 1) := by decide +kernel
theorem dX10_result_5 : decode cX10_result 5 = .ok (.if_icmp .ne 24, 3) := by decide +kernel
theorem dX10_result_8 : decode cX10_result 8 = .ok (.iload_n 1, 1) := by decide +kernel
theorem dX10_result_9 : decode cX10_result 9 = .ok (.ifCond .lt 20, 3) := by decide +kernel
theorem dX10_result_12 : decode cX10_result 12 = .ok (.iload_n 1, 1) := by decide +kernel
theorem dX10_result_13 : decode cX10_result 13 = .ok (.aload_n 0, 1) := by decide +kernel
theorem dX10_result_14 : decode cX10_result 14 = .ok (.getfield 218, 3) := by decide +kernel
theorem dX10_result_17 : decode cX10_result 17 = .ok (.if_icmp .ge 12, 3) := by decide +kernel
theorem dX10_result_20 : decode cX10_result 20 = .ok (.aload_n 0, 1) := by decide +kernel
theorem dX10_result_21 : decode cX10_result 21 = .ok (.getfield 100, 3) := by decide +kernel
theorem dX10_result_24 : decode cX10_result 24 = .ok (.iload_n 1, 1) := by decide +kernel
theorem dX10_result_25 : decode cX10_result 25 = .ok (.laload, 1) := by decide +kernel
theorem dX10_result_26 : decode cX10_result 26 = .ok (.goto 4, 3) := by decide +kernel
theorem dX10_result_29 : decode cX10_result 29 = .ok (.lconst 0, 1) := by decide +kernel
theorem dX10_result_30 : decode cX10_result 30 = .ok (.lreturn, 1) := by decide +kernel
theorem dX10_global_0 : decode cX10_global 0 = .ok (.iload_n 1, 1) := by decide +kernel
theorem dX10_global_1 : decode cX10_global 1 = .ok (.bipush 7, 2) := by decide +kernel
theorem dX10_global_3 : decode cX10_global 3 = .ok (.invokestatic 110, 3) := by decide +kernel
theorem dX10_global_6 : decode cX10_global 6 = .ok (.ifCond .eq 12, 3) := by decide +kernel
theorem dX10_global_9 : decode cX10_global 9 = .ok (.aload_n 0, 1) := by decide +kernel
theorem dX10_global_10 : decode cX10_global 10 = .ok (.getfield 62, 3) := by decide +kernel
theorem dX10_global_13 : decode cX10_global 13 = .ok (.iload_n 1, 1) := by decide +kernel
theorem dX10_global_14 : decode cX10_global 14 = .ok (.laload, 1) := by decide +kernel
theorem dX10_global_15 : decode cX10_global 15 = .ok (.goto 4, 3) := by decide +kernel
theorem dX10_global_18 : decode cX10_global 18 = .ok (.lconst 0, 1) := by decide +kernel
theorem dX10_global_19 : decode cX10_global 19 = .ok (.lreturn, 1) := by decide +kernel
theorem dX10_memory_0 : decode cX10_memory 0 = .ok (.iload_n 1, 1) := by decide +kernel
theorem dX10_memory_1 : decode cX10_memory 1 = .ok (.ifCond .lt 14, 3) := by decide +kernel
theorem dX10_memory_4 : decode cX10_memory 4 = .ok (.iload_n 1, 1) := by decide +kernel
theorem dX10_memory_5 : decode cX10_memory 5 = .ok (.bipush 64, 2) := by decide +kernel
theorem dX10_memory_7 : decode cX10_memory 7 = .ok (.aload_n 0, 1) := by decide +kernel
theorem dX10_memory_8 : decode cX10_memory 8 = .ok (.getfield 69, 3) := by decide +kernel
theorem dX10_memory_11 : decode cX10_memory 11 = .ok (.imul, 1) := by decide +kernel
theorem dX10_memory_12 : decode cX10_memory 12 = .ok (.if_icmp .lt 7, 3) := by decide +kernel
theorem dX10_memory_15 : decode cX10_memory 15 = .ok (.iconst (-1), 1) := by decide +kernel
theorem dX10_memory_16 : decode cX10_memory 16 = .ok (.goto 9, 3) := by decide +kernel
theorem dX10_memory_19 : decode cX10_memory 19 = .ok (.aload_n 0, 1) := by decide +kernel
theorem dX10_memory_20 : decode cX10_memory 20 = .ok (.getfield 66, 3) := by decide +kernel
theorem dX10_memory_23 : decode cX10_memory 23 = .ok (.iload_n 1, 1) := by decide +kernel
theorem dX10_memory_24 : decode cX10_memory 24 = .ok (.iaload, 1) := by decide +kernel
theorem dX10_memory_25 : decode cX10_memory 25 = .ok (.ireturn, 1) := by decide +kernel
theorem dX10_look_0 : decode cX10_look 0 = .ok (.aload_n 0, 1) := by decide +kernel
theorem dX10_look_1 : decode cX10_look 1 = .ok (.iload_n 1, 1) := by decide +kernel
theorem dX10_look_2 : decode cX10_look 2 = .ok (.invokevirtual 187, 3) := by decide +kernel
theorem dX10_look_5 : decode cX10_look 5 = .ok (.ifCond .ne 5, 3) := by decide +kernel
theorem dX10_look_8 : decode cX10_look 8 = .ok (.iconst (-1), 1) := by decide +kernel
theorem dX10_look_9 : decode cX10_look 9 = .ok (.ireturn, 1) := by decide +kernel
theorem dX10_look_10 : decode cX10_look 10 = .ok (.iload_n 2, 1) := by decide +kernel
theorem dX10_look_11 : decode cX10_look 11 = .ok (.ifCond .ne 12, 3) := by decide +kernel
theorem dX10_look_14 : decode cX10_look 14 = .ok (.aload_n 0, 1) := by decide +kernel
theorem dX10_look_15 : decode cX10_look 15 = .ok (.getfield 16, 3) := by decide +kernel
theorem dX10_look_18 : decode cX10_look 18 = .ok (.iload_n 1, 1) := by decide +kernel
theorem dX10_look_19 : decode cX10_look 19 = .ok (.iaload, 1) := by decide +kernel
theorem dX10_look_20 : decode cX10_look 20 = .ok (.goto 46, 3) := by decide +kernel
theorem dX10_look_23 : decode cX10_look 23 = .ok (.iload_n 2, 1) := by decide +kernel
theorem dX10_look_24 : decode cX10_look 24 = .ok (.iconst 1, 1) := by decide +kernel
theorem dX10_look_25 : decode cX10_look 25 = .ok (.if_icmp .ne 12, 3) := by decide +kernel
theorem dX10_look_28 : decode cX10_look 28 = .ok (.aload_n 0, 1) := by decide +kernel
theorem dX10_look_29 : decode cX10_look 29 = .ok (.getfield 19, 3) := by decide +kernel
theorem dX10_look_32 : decode cX10_look 32 = .ok (.iload_n 1, 1) := by decide +kernel
theorem dX10_look_33 : decode cX10_look 33 = .ok (.iaload, 1) := by decide +kernel
theorem dX10_look_34 : decode cX10_look 34 = .ok (.goto 32, 3) := by decide +kernel
theorem dX10_look_37 : decode cX10_look 37 = .ok (.iload_n 2, 1) := by decide +kernel
theorem dX10_look_38 : decode cX10_look 38 = .ok (.iconst 2, 1) := by decide +kernel
theorem dX10_look_39 : decode cX10_look 39 = .ok (.if_icmp .ne 12, 3) := by decide +kernel
theorem dX10_look_42 : decode cX10_look 42 = .ok (.aload_n 0, 1) := by decide +kernel
theorem dX10_look_43 : decode cX10_look 43 = .ok (.getfield 22, 3) := by decide +kernel
theorem dX10_look_46 : decode cX10_look 46 = .ok (.iload_n 1, 1) := by decide +kernel
theorem dX10_look_47 : decode cX10_look 47 = .ok (.iaload, 1) := by decide +kernel
theorem dX10_look_48 : decode cX10_look 48 = .ok (.goto 18, 3) := by decide +kernel
theorem dX10_look_51 : decode cX10_look 51 = .ok (.iload_n 2, 1) := by decide +kernel
theorem dX10_look_52 : decode cX10_look 52 = .ok (.iconst 3, 1) := by decide +kernel
theorem dX10_look_53 : decode cX10_look 53 = .ok (.if_icmp .ne 12, 3) := by decide +kernel
theorem dX10_look_56 : decode cX10_look 56 = .ok (.aload_n 0, 1) := by decide +kernel
theorem dX10_look_57 : decode cX10_look 57 = .ok (.getfield 25, 3) := by decide +kernel
theorem dX10_look_60 : decode cX10_look 60 = .ok (.iload_n 1, 1) := by decide +kernel
theorem dX10_look_61 : decode cX10_look 61 = .ok (.iaload, 1) := by decide +kernel
theorem dX10_look_62 : decode cX10_look 62 = .ok (.goto 4, 3) := by decide +kernel
theorem dX10_look_65 : decode cX10_look 65 = .ok (.iconst (-1), 1) := by decide +kernel
theorem dX10_look_66 : decode cX10_look 66 = .ok (.ireturn, 1) := by decide +kernel
theorem dJ9_max_7cf53_0 : decode cJ9_max_7cf53 0 = .ok (.iload_n 0, 1) := by decide +kernel
theorem dJ9_max_7cf53_1 : decode cJ9_max_7cf53 1 = .ok (.iload_n 1, 1) := by decide +kernel
theorem dJ9_max_7cf53_2 : decode cJ9_max_7cf53 2 = .ok (.if_icmp .lt 7, 3) := by decide +kernel
theorem dJ9_max_7cf53_5 : decode cJ9_max_7cf53 5 = .ok (.iload_n 0, 1) := by decide +kernel
theorem dJ9_max_7cf53_6 : decode cJ9_max_7cf53 6 = .ok (.goto 4, 3) := by decide +kernel
theorem dJ9_max_7cf53_9 : decode cJ9_max_7cf53 9 = .ok (.iload_n 1, 1) := by decide +kernel
theorem dJ9_max_7cf53_10 : decode cJ9_max_7cf53 10 = .ok (.ireturn, 1) := by decide +kernel
theorem dJ9_min_f86c9_0 : decode cJ9_min_f86c9 0 = .ok (.lload_n 0, 1) := by decide +kernel
theorem dJ9_min_f86c9_1 : decode cJ9_min_f86c9 1 = .ok (.lload_n 2, 1) := by decide +kernel
theorem dJ9_min_f86c9_2 : decode cJ9_min_f86c9 2 = .ok (.lcmp, 1) := by decide +kernel
theorem dJ9_min_f86c9_3 : decode cJ9_min_f86c9 3 = .ok (.ifCond .gt 7, 3) := by decide +kernel
theorem dJ9_min_f86c9_6 : decode cJ9_min_f86c9 6 = .ok (.lload_n 0, 1) := by decide +kernel
theorem dJ9_min_f86c9_7 : decode cJ9_min_f86c9 7 = .ok (.goto 4, 3) := by decide +kernel
theorem dJ9_min_f86c9_10 : decode cJ9_min_f86c9 10 = .ok (.lload_n 2, 1) := by decide +kernel
theorem dJ9_min_f86c9_11 : decode cJ9_min_f86c9 11 = .ok (.lreturn, 1) := by decide +kernel
theorem dJ7_fill_53178_0 : decode cJ7_fill_53178 0 = .ok (.iconst 0, 1) := by decide +kernel
theorem dJ7_fill_53178_1 : decode cJ7_fill_53178 1 = .ok (.istore_n 2, 1) := by decide +kernel
theorem dJ7_fill_53178_2 : decode cJ7_fill_53178 2 = .ok (.aload_n 0, 1) := by decide +kernel
theorem dJ7_fill_53178_3 : decode cJ7_fill_53178 3 = .ok (.arraylength, 1) := by decide +kernel
theorem dJ7_fill_53178_4 : decode cJ7_fill_53178 4 = .ok (.istore_n 3, 1) := by decide +kernel
theorem dJ7_fill_53178_5 : decode cJ7_fill_53178 5 = .ok (.iload_n 2, 1) := by decide +kernel
theorem dJ7_fill_53178_6 : decode cJ7_fill_53178 6 = .ok (.iload_n 3, 1) := by decide +kernel
theorem dJ7_fill_53178_7 : decode cJ7_fill_53178 7 = .ok (.if_icmp .ge 13, 3) := by decide +kernel
theorem dJ7_fill_53178_10 : decode cJ7_fill_53178 10 = .ok (.aload_n 0, 1) := by decide +kernel
theorem dJ7_fill_53178_11 : decode cJ7_fill_53178 11 = .ok (.iload_n 2, 1) := by decide +kernel
theorem dJ7_fill_53178_12 : decode cJ7_fill_53178 12 = .ok (.iload_n 1, 1) := by decide +kernel
theorem dJ7_fill_53178_13 : decode cJ7_fill_53178 13 = .ok (.iastore, 1) := by decide +kernel
theorem dJ7_fill_53178_14 : decode cJ7_fill_53178 14 = .ok (.iinc 2 1, 3) := by decide +kernel
theorem dJ7_fill_53178_17 : decode cJ7_fill_53178 17 = .ok (.goto (-12), 3) := by decide +kernel
theorem dJ7_fill_53178_20 : decode cJ7_fill_53178 20 = .ok (.return_, 1) := by decide +kernel
theorem dL_law_0 : decode cL_law 0 = .ok (.new 7, 3) := by decide +kernel
theorem dL_law_3 : decode cL_law 3 = .ok (.dup, 1) := by decide +kernel
theorem dL_law_4 : decode cL_law 4 = .ok (.invokespecial 9, 3) := by decide +kernel
theorem dL_law_7 : decode cL_law 7 = .ok (.astore_n 1, 1) := by decide +kernel
theorem dL_law_8 : decode cL_law 8 = .ok (.new 10, 3) := by decide +kernel
theorem dL_law_11 : decode cL_law 11 = .ok (.dup, 1) := by decide +kernel
theorem dL_law_12 : decode cL_law 12 = .ok (.invokespecial 12, 3) := by decide +kernel
theorem dL_law_15 : decode cL_law 15 = .ok (.astore_n 2, 1) := by decide +kernel
theorem dL_law_16 : decode cL_law 16 = .ok (.iconst 0, 1) := by decide +kernel
theorem dL_law_17 : decode cL_law 17 = .ok (.istore_n 3, 1) := by decide +kernel
theorem dL_law_18 : decode cL_law 18 = .ok (.iload_n 3, 1) := by decide +kernel
theorem dL_law_19 : decode cL_law 19 = .ok (.aload_n 0, 1) := by decide +kernel
theorem dL_law_20 : decode cL_law 20 = .ok (.arraylength, 1) := by decide +kernel
theorem dL_law_21 : decode cL_law 21 = .ok (.iconst 4, 1) := by decide +kernel
theorem dL_law_22 : decode cL_law 22 = .ok (.isub, 1) := by decide +kernel
theorem dL_law_23 : decode cL_law 23 = .ok (.if_icmp .gt 464, 3) := by decide +kernel
theorem dL_law_26 : decode cL_law 26 = .ok (.aload_n 0, 1) := by decide +kernel
theorem dL_law_27 : decode cL_law 27 = .ok (.iload_n 3, 1) := by decide +kernel
theorem dL_law_28 : decode cL_law 28 = .ok (.iaload, 1) := by decide +kernel
theorem dL_law_29 : decode cL_law 29 = .ok (.bipush 15, 2) := by decide +kernel
theorem dL_law_31 : decode cL_law 31 = .ok (.iand, 1) := by decide +kernel
theorem dL_law_32 : decode cL_law 32 = .ok (.tableswitch 449 0 12 #[68, 111, 154, 167, 200, 253, 276, 299, 322, 345, 369, 393, 416], 68) := by decide +kernel
theorem dL_law_100 : decode cL_law 100 = .ok (.aload_n 1, 1) := by decide +kernel
theorem dL_law_101 : decode cL_law 101 = .ok (.aload_n 0, 1) := by decide +kernel
theorem dL_law_102 : decode cL_law 102 = .ok (.iload_n 3, 1) := by decide +kernel
theorem dL_law_103 : decode cL_law 103 = .ok (.iconst 1, 1) := by decide +kernel
theorem dL_law_104 : decode cL_law 104 = .ok (.iadd, 1) := by decide +kernel
theorem dL_law_105 : decode cL_law 105 = .ok (.iaload, 1) := by decide +kernel
theorem dL_law_106 : decode cL_law 106 = .ok (.aload_n 0, 1) := by decide +kernel
theorem dL_law_107 : decode cL_law 107 = .ok (.iload_n 3, 1) := by decide +kernel
theorem dL_law_108 : decode cL_law 108 = .ok (.iconst 2, 1) := by decide +kernel
theorem dL_law_109 : decode cL_law 109 = .ok (.iadd, 1) := by decide +kernel
theorem dL_law_110 : decode cL_law 110 = .ok (.iaload, 1) := by decide +kernel
theorem dL_law_111 : decode cL_law 111 = .ok (.aload_n 0, 1) := by decide +kernel
theorem dL_law_112 : decode cL_law 112 = .ok (.iload_n 3, 1) := by decide +kernel
theorem dL_law_113 : decode cL_law 113 = .ok (.iconst 3, 1) := by decide +kernel
theorem dL_law_114 : decode cL_law 114 = .ok (.iadd, 1) := by decide +kernel
theorem dL_law_115 : decode cL_law 115 = .ok (.iaload, 1) := by decide +kernel
theorem dL_law_116 : decode cL_law 116 = .ok (.invokevirtual 13, 3) := by decide +kernel
theorem dL_law_119 : decode cL_law 119 = .ok (.aload_n 2, 1) := by decide +kernel
theorem dL_law_120 : decode cL_law 120 = .ok (.aload_n 0, 1) := by decide +kernel
theorem dL_law_121 : decode cL_law 121 = .ok (.iload_n 3, 1) := by decide +kernel
theorem dL_law_122 : decode cL_law 122 = .ok (.iconst 1, 1) := by decide +kernel
theorem dL_law_123 : decode cL_law 123 = .ok (.iadd, 1) := by decide +kernel
theorem dL_law_124 : decode cL_law 124 = .ok (.iaload, 1) := by decide +kernel
theorem dL_law_125 : decode cL_law 125 = .ok (.aload_n 0, 1) := by decide +kernel
theorem dL_law_126 : decode cL_law 126 = .ok (.iload_n 3, 1) := by decide +kernel
theorem dL_law_127 : decode cL_law 127 = .ok (.iconst 2, 1) := by decide +kernel
theorem dL_law_128 : decode cL_law 128 = .ok (.iadd, 1) := by decide +kernel
theorem dL_law_129 : decode cL_law 129 = .ok (.iaload, 1) := by decide +kernel
theorem dL_law_130 : decode cL_law 130 = .ok (.aload_n 0, 1) := by decide +kernel
theorem dL_law_131 : decode cL_law 131 = .ok (.iload_n 3, 1) := by decide +kernel
theorem dL_law_132 : decode cL_law 132 = .ok (.iconst 3, 1) := by decide +kernel
theorem dL_law_133 : decode cL_law 133 = .ok (.iadd, 1) := by decide +kernel
theorem dL_law_134 : decode cL_law 134 = .ok (.iaload, 1) := by decide +kernel
theorem dL_law_135 : decode cL_law 135 = .ok (.invokevirtual 17, 3) := by decide +kernel
theorem dL_law_138 : decode cL_law 138 = .ok (.if_icmp .eq 343, 3) := by decide +kernel
theorem dL_law_141 : decode cL_law 141 = .ok (.iconst 0, 1) := by decide +kernel
theorem dL_law_142 : decode cL_law 142 = .ok (.ireturn, 1) := by decide +kernel
theorem dL_law_143 : decode cL_law 143 = .ok (.aload_n 1, 1) := by decide +kernel
theorem dL_law_144 : decode cL_law 144 = .ok (.aload_n 0, 1) := by decide +kernel
theorem dL_law_145 : decode cL_law 145 = .ok (.iload_n 3, 1) := by decide +kernel
theorem dL_law_146 : decode cL_law 146 = .ok (.iconst 1, 1) := by decide +kernel
theorem dL_law_147 : decode cL_law 147 = .ok (.iadd, 1) := by decide +kernel
theorem dL_law_148 : decode cL_law 148 = .ok (.iaload, 1) := by decide +kernel
theorem dL_law_149 : decode cL_law 149 = .ok (.aload_n 0, 1) := by decide +kernel
theorem dL_law_150 : decode cL_law 150 = .ok (.iload_n 3, 1) := by decide +kernel
theorem dL_law_151 : decode cL_law 151 = .ok (.iconst 2, 1) := by decide +kernel
theorem dL_law_152 : decode cL_law 152 = .ok (.iadd, 1) := by decide +kernel
theorem dL_law_153 : decode cL_law 153 = .ok (.iaload, 1) := by decide +kernel
theorem dL_law_154 : decode cL_law 154 = .ok (.aload_n 0, 1) := by decide +kernel
theorem dL_law_155 : decode cL_law 155 = .ok (.iload_n 3, 1) := by decide +kernel
theorem dL_law_156 : decode cL_law 156 = .ok (.iconst 3, 1) := by decide +kernel
theorem dL_law_157 : decode cL_law 157 = .ok (.iadd, 1) := by decide +kernel
theorem dL_law_158 : decode cL_law 158 = .ok (.iaload, 1) := by decide +kernel
theorem dL_law_159 : decode cL_law 159 = .ok (.invokevirtual 18, 3) := by decide +kernel
theorem dL_law_162 : decode cL_law 162 = .ok (.aload_n 2, 1) := by decide +kernel
theorem dL_law_163 : decode cL_law 163 = .ok (.aload_n 0, 1) := by decide +kernel
theorem dL_law_164 : decode cL_law 164 = .ok (.iload_n 3, 1) := by decide +kernel
theorem dL_law_165 : decode cL_law 165 = .ok (.iconst 1, 1) := by decide +kernel
theorem dL_law_166 : decode cL_law 166 = .ok (.iadd, 1) := by decide +kernel
theorem dL_law_167 : decode cL_law 167 = .ok (.iaload, 1) := by decide +kernel
theorem dL_law_168 : decode cL_law 168 = .ok (.aload_n 0, 1) := by decide +kernel
theorem dL_law_169 : decode cL_law 169 = .ok (.iload_n 3, 1) := by decide +kernel
theorem dL_law_170 : decode cL_law 170 = .ok (.iconst 2, 1) := by decide +kernel
theorem dL_law_171 : decode cL_law 171 = .ok (.iadd, 1) := by decide +kernel
theorem dL_law_172 : decode cL_law 172 = .ok (.iaload, 1) := by decide +kernel
theorem dL_law_173 : decode cL_law 173 = .ok (.aload_n 0, 1) := by decide +kernel
theorem dL_law_174 : decode cL_law 174 = .ok (.iload_n 3, 1) := by decide +kernel
theorem dL_law_175 : decode cL_law 175 = .ok (.iconst 3, 1) := by decide +kernel
theorem dL_law_176 : decode cL_law 176 = .ok (.iadd, 1) := by decide +kernel
theorem dL_law_177 : decode cL_law 177 = .ok (.iaload, 1) := by decide +kernel
theorem dL_law_178 : decode cL_law 178 = .ok (.invokevirtual 21, 3) := by decide +kernel
theorem dL_law_181 : decode cL_law 181 = .ok (.if_icmp .eq 300, 3) := by decide +kernel
theorem dL_law_184 : decode cL_law 184 = .ok (.iconst 0, 1) := by decide +kernel
theorem dL_law_185 : decode cL_law 185 = .ok (.ireturn, 1) := by decide +kernel
theorem dL_law_186 : decode cL_law 186 = .ok (.aload_n 1, 1) := by decide +kernel
theorem dL_law_187 : decode cL_law 187 = .ok (.invokevirtual 22, 3) := by decide +kernel
theorem dL_law_190 : decode cL_law 190 = .ok (.aload_n 2, 1) := by decide +kernel
theorem dL_law_191 : decode cL_law 191 = .ok (.invokevirtual 26, 3) := by decide +kernel
theorem dL_law_194 : decode cL_law 194 = .ok (.if_icmp .eq 287, 3) := by decide +kernel
theorem dL_law_197 : decode cL_law 197 = .ok (.iconst 0, 1) := by decide +kernel
theorem dL_law_198 : decode cL_law 198 = .ok (.ireturn, 1) := by decide +kernel
theorem dL_law_199 : decode cL_law 199 = .ok (.aload_n 1, 1) := by decide +kernel
theorem dL_law_200 : decode cL_law 200 = .ok (.aload_n 0, 1) := by decide +kernel
theorem dL_law_201 : decode cL_law 201 = .ok (.iload_n 3, 1) := by decide +kernel
theorem dL_law_202 : decode cL_law 202 = .ok (.iconst 1, 1) := by decide +kernel
theorem dL_law_203 : decode cL_law 203 = .ok (.iadd, 1) := by decide +kernel
theorem dL_law_204 : decode cL_law 204 = .ok (.iaload, 1) := by decide +kernel
theorem dL_law_205 : decode cL_law 205 = .ok (.aload_n 0, 1) := by decide +kernel
theorem dL_law_206 : decode cL_law 206 = .ok (.iload_n 3, 1) := by decide +kernel
theorem dL_law_207 : decode cL_law 207 = .ok (.iconst 2, 1) := by decide +kernel
theorem dL_law_208 : decode cL_law 208 = .ok (.iadd, 1) := by decide +kernel
theorem dL_law_209 : decode cL_law 209 = .ok (.iaload, 1) := by decide +kernel
theorem dL_law_210 : decode cL_law 210 = .ok (.invokevirtual 27, 3) := by decide +kernel
theorem dL_law_213 : decode cL_law 213 = .ok (.aload_n 2, 1) := by decide +kernel
theorem dL_law_214 : decode cL_law 214 = .ok (.aload_n 0, 1) := by decide +kernel
theorem dL_law_215 : decode cL_law 215 = .ok (.iload_n 3, 1) := by decide +kernel
theorem dL_law_216 : decode cL_law 216 = .ok (.iconst 1, 1) := by decide +kernel
theorem dL_law_217 : decode cL_law 217 = .ok (.iadd, 1) := by decide +kernel
theorem dL_law_218 : decode cL_law 218 = .ok (.iaload, 1) := by decide +kernel
theorem dL_law_219 : decode cL_law 219 = .ok (.aload_n 0, 1) := by decide +kernel
theorem dL_law_220 : decode cL_law 220 = .ok (.iload_n 3, 1) := by decide +kernel
theorem dL_law_221 : decode cL_law 221 = .ok (.iconst 2, 1) := by decide +kernel
theorem dL_law_222 : decode cL_law 222 = .ok (.iadd, 1) := by decide +kernel
theorem dL_law_223 : decode cL_law 223 = .ok (.iaload, 1) := by decide +kernel
theorem dL_law_224 : decode cL_law 224 = .ok (.invokevirtual 31, 3) := by decide +kernel
theorem dL_law_227 : decode cL_law 227 = .ok (.if_icmp .eq 254, 3) := by decide +kernel
theorem dL_law_230 : decode cL_law 230 = .ok (.iconst 0, 1) := by decide +kernel
theorem dL_law_231 : decode cL_law 231 = .ok (.ireturn, 1) := by decide +kernel
theorem dL_law_232 : decode cL_law 232 = .ok (.aload_n 1, 1) := by decide +kernel
theorem dL_law_233 : decode cL_law 233 = .ok (.aload_n 0, 1) := by decide +kernel
theorem dL_law_234 : decode cL_law 234 = .ok (.iload_n 3, 1) := by decide +kernel
theorem dL_law_235 : decode cL_law 235 = .ok (.iconst 1, 1) := by decide +kernel
theorem dL_law_236 : decode cL_law 236 = .ok (.iadd, 1) := by decide +kernel
theorem dL_law_237 : decode cL_law 237 = .ok (.iaload, 1) := by decide +kernel
theorem dL_law_238 : decode cL_law 238 = .ok (.i2l, 1) := by decide +kernel
theorem dL_law_239 : decode cL_law 239 = .ok (.bipush 32, 2) := by decide +kernel
theorem dL_law_241 : decode cL_law 241 = .ok (.lshl, 1) := by decide +kernel
theorem dL_law_242 : decode cL_law 242 = .ok (.aload_n 0, 1) := by decide +kernel
theorem dL_law_243 : decode cL_law 243 = .ok (.iload_n 3, 1) := by decide +kernel
theorem dL_law_244 : decode cL_law 244 = .ok (.iconst 2, 1) := by decide +kernel
theorem dL_law_245 : decode cL_law 245 = .ok (.iadd, 1) := by decide +kernel
theorem dL_law_246 : decode cL_law 246 = .ok (.iaload, 1) := by decide +kernel
theorem dL_law_247 : decode cL_law 247 = .ok (.i2l, 1) := by decide +kernel
theorem dL_law_248 : decode cL_law 248 = .ok (.ldc2_w 32, 3) := by decide +kernel
theorem dL_law_251 : decode cL_law 251 = .ok (.land, 1) := by decide +kernel
theorem dL_law_252 : decode cL_law 252 = .ok (.lor, 1) := by decide +kernel
theorem dL_law_253 : decode cL_law 253 = .ok (.invokevirtual 34, 3) := by decide +kernel
theorem dL_law_256 : decode cL_law 256 = .ok (.aload_n 2, 1) := by decide +kernel
theorem dL_law_257 : decode cL_law 257 = .ok (.aload_n 0, 1) := by decide +kernel
theorem dL_law_258 : decode cL_law 258 = .ok (.iload_n 3, 1) := by decide +kernel
theorem dL_law_259 : decode cL_law 259 = .ok (.iconst 1, 1) := by decide +kernel
theorem dL_law_260 : decode cL_law 260 = .ok (.iadd, 1) := by decide +kernel
theorem dL_law_261 : decode cL_law 261 = .ok (.iaload, 1) := by decide +kernel
theorem dL_law_262 : decode cL_law 262 = .ok (.i2l, 1) := by decide +kernel
theorem dL_law_263 : decode cL_law 263 = .ok (.bipush 32, 2) := by decide +kernel
theorem dL_law_265 : decode cL_law 265 = .ok (.lshl, 1) := by decide +kernel
theorem dL_law_266 : decode cL_law 266 = .ok (.aload_n 0, 1) := by decide +kernel
theorem dL_law_267 : decode cL_law 267 = .ok (.iload_n 3, 1) := by decide +kernel
theorem dL_law_268 : decode cL_law 268 = .ok (.iconst 2, 1) := by decide +kernel
theorem dL_law_269 : decode cL_law 269 = .ok (.iadd, 1) := by decide +kernel
theorem dL_law_270 : decode cL_law 270 = .ok (.iaload, 1) := by decide +kernel
theorem dL_law_271 : decode cL_law 271 = .ok (.i2l, 1) := by decide +kernel
theorem dL_law_272 : decode cL_law 272 = .ok (.ldc2_w 32, 3) := by decide +kernel
theorem dL_law_275 : decode cL_law 275 = .ok (.land, 1) := by decide +kernel
theorem dL_law_276 : decode cL_law 276 = .ok (.lor, 1) := by decide +kernel
theorem dL_law_277 : decode cL_law 277 = .ok (.invokevirtual 38, 3) := by decide +kernel
theorem dL_law_280 : decode cL_law 280 = .ok (.if_icmp .eq 201, 3) := by decide +kernel
theorem dL_law_283 : decode cL_law 283 = .ok (.iconst 0, 1) := by decide +kernel
theorem dL_law_284 : decode cL_law 284 = .ok (.ireturn, 1) := by decide +kernel
theorem dL_law_285 : decode cL_law 285 = .ok (.aload_n 1, 1) := by decide +kernel
theorem dL_law_286 : decode cL_law 286 = .ok (.aload_n 0, 1) := by decide +kernel
theorem dL_law_287 : decode cL_law 287 = .ok (.iload_n 3, 1) := by decide +kernel
theorem dL_law_288 : decode cL_law 288 = .ok (.iconst 1, 1) := by decide +kernel
theorem dL_law_289 : decode cL_law 289 = .ok (.iadd, 1) := by decide +kernel
theorem dL_law_290 : decode cL_law 290 = .ok (.iaload, 1) := by decide +kernel
theorem dL_law_291 : decode cL_law 291 = .ok (.invokevirtual 39, 3) := by decide +kernel
theorem dL_law_294 : decode cL_law 294 = .ok (.aload_n 2, 1) := by decide +kernel
theorem dL_law_295 : decode cL_law 295 = .ok (.aload_n 0, 1) := by decide +kernel
theorem dL_law_296 : decode cL_law 296 = .ok (.iload_n 3, 1) := by decide +kernel
theorem dL_law_297 : decode cL_law 297 = .ok (.iconst 1, 1) := by decide +kernel
theorem dL_law_298 : decode cL_law 298 = .ok (.iadd, 1) := by decide +kernel
theorem dL_law_299 : decode cL_law 299 = .ok (.iaload, 1) := by decide +kernel
theorem dL_law_300 : decode cL_law 300 = .ok (.invokevirtual 43, 3) := by decide +kernel
theorem dL_law_303 : decode cL_law 303 = .ok (.if_icmp .eq 178, 3) := by decide +kernel
theorem dL_law_306 : decode cL_law 306 = .ok (.iconst 0, 1) := by decide +kernel
theorem dL_law_307 : decode cL_law 307 = .ok (.ireturn, 1) := by decide +kernel
theorem dL_law_308 : decode cL_law 308 = .ok (.aload_n 1, 1) := by decide +kernel
theorem dL_law_309 : decode cL_law 309 = .ok (.aload_n 0, 1) := by decide +kernel
theorem dL_law_310 : decode cL_law 310 = .ok (.iload_n 3, 1) := by decide +kernel
theorem dL_law_311 : decode cL_law 311 = .ok (.iconst 1, 1) := by decide +kernel
theorem dL_law_312 : decode cL_law 312 = .ok (.iadd, 1) := by decide +kernel
theorem dL_law_313 : decode cL_law 313 = .ok (.iaload, 1) := by decide +kernel
theorem dL_law_314 : decode cL_law 314 = .ok (.invokevirtual 44, 3) := by decide +kernel
theorem dL_law_317 : decode cL_law 317 = .ok (.aload_n 2, 1) := by decide +kernel
theorem dL_law_318 : decode cL_law 318 = .ok (.aload_n 0, 1) := by decide +kernel
theorem dL_law_319 : decode cL_law 319 = .ok (.iload_n 3, 1) := by decide +kernel
theorem dL_law_320 : decode cL_law 320 = .ok (.iconst 1, 1) := by decide +kernel
theorem dL_law_321 : decode cL_law 321 = .ok (.iadd, 1) := by decide +kernel
theorem dL_law_322 : decode cL_law 322 = .ok (.iaload, 1) := by decide +kernel
theorem dL_law_323 : decode cL_law 323 = .ok (.invokevirtual 48, 3) := by decide +kernel
theorem dL_law_326 : decode cL_law 326 = .ok (.if_icmp .eq 155, 3) := by decide +kernel
theorem dL_law_329 : decode cL_law 329 = .ok (.iconst 0, 1) := by decide +kernel
theorem dL_law_330 : decode cL_law 330 = .ok (.ireturn, 1) := by decide +kernel
theorem dL_law_331 : decode cL_law 331 = .ok (.aload_n 1, 1) := by decide +kernel
theorem dL_law_332 : decode cL_law 332 = .ok (.aload_n 0, 1) := by decide +kernel
theorem dL_law_333 : decode cL_law 333 = .ok (.iload_n 3, 1) := by decide +kernel
theorem dL_law_334 : decode cL_law 334 = .ok (.iconst 1, 1) := by decide +kernel
theorem dL_law_335 : decode cL_law 335 = .ok (.iadd, 1) := by decide +kernel
theorem dL_law_336 : decode cL_law 336 = .ok (.iaload, 1) := by decide +kernel
theorem dL_law_337 : decode cL_law 337 = .ok (.invokevirtual 49, 3) := by decide +kernel
theorem dL_law_340 : decode cL_law 340 = .ok (.aload_n 2, 1) := by decide +kernel
theorem dL_law_341 : decode cL_law 341 = .ok (.aload_n 0, 1) := by decide +kernel
theorem dL_law_342 : decode cL_law 342 = .ok (.iload_n 3, 1) := by decide +kernel
theorem dL_law_343 : decode cL_law 343 = .ok (.iconst 1, 1) := by decide +kernel
theorem dL_law_344 : decode cL_law 344 = .ok (.iadd, 1) := by decide +kernel
theorem dL_law_345 : decode cL_law 345 = .ok (.iaload, 1) := by decide +kernel
theorem dL_law_346 : decode cL_law 346 = .ok (.invokevirtual 52, 3) := by decide +kernel
theorem dL_law_349 : decode cL_law 349 = .ok (.if_icmp .eq 132, 3) := by decide +kernel
theorem dL_law_352 : decode cL_law 352 = .ok (.iconst 0, 1) := by decide +kernel
theorem dL_law_353 : decode cL_law 353 = .ok (.ireturn, 1) := by decide +kernel
theorem dL_law_354 : decode cL_law 354 = .ok (.aload_n 1, 1) := by decide +kernel
theorem dL_law_355 : decode cL_law 355 = .ok (.aload_n 0, 1) := by decide +kernel
theorem dL_law_356 : decode cL_law 356 = .ok (.iload_n 3, 1) := by decide +kernel
theorem dL_law_357 : decode cL_law 357 = .ok (.iconst 1, 1) := by decide +kernel
theorem dL_law_358 : decode cL_law 358 = .ok (.iadd, 1) := by decide +kernel
theorem dL_law_359 : decode cL_law 359 = .ok (.iaload, 1) := by decide +kernel
theorem dL_law_360 : decode cL_law 360 = .ok (.invokevirtual 53, 3) := by decide +kernel
theorem dL_law_363 : decode cL_law 363 = .ok (.aload_n 2, 1) := by decide +kernel
theorem dL_law_364 : decode cL_law 364 = .ok (.aload_n 0, 1) := by decide +kernel
theorem dL_law_365 : decode cL_law 365 = .ok (.iload_n 3, 1) := by decide +kernel
theorem dL_law_366 : decode cL_law 366 = .ok (.iconst 1, 1) := by decide +kernel
theorem dL_law_367 : decode cL_law 367 = .ok (.iadd, 1) := by decide +kernel
theorem dL_law_368 : decode cL_law 368 = .ok (.iaload, 1) := by decide +kernel
theorem dL_law_369 : decode cL_law 369 = .ok (.invokevirtual 56, 3) := by decide +kernel
theorem dL_law_372 : decode cL_law 372 = .ok (.if_icmp .eq 109, 3) := by decide +kernel
theorem dL_law_375 : decode cL_law 375 = .ok (.iconst 0, 1) := by decide +kernel
theorem dL_law_376 : decode cL_law 376 = .ok (.ireturn, 1) := by decide +kernel
theorem dL_law_377 : decode cL_law 377 = .ok (.aload_n 1, 1) := by decide +kernel
theorem dL_law_378 : decode cL_law 378 = .ok (.aload_n 0, 1) := by decide +kernel
theorem dL_law_379 : decode cL_law 379 = .ok (.iload_n 3, 1) := by decide +kernel
theorem dL_law_380 : decode cL_law 380 = .ok (.iconst 1, 1) := by decide +kernel
theorem dL_law_381 : decode cL_law 381 = .ok (.iadd, 1) := by decide +kernel
theorem dL_law_382 : decode cL_law 382 = .ok (.iaload, 1) := by decide +kernel
theorem dL_law_383 : decode cL_law 383 = .ok (.invokevirtual 57, 3) := by decide +kernel
theorem dL_law_386 : decode cL_law 386 = .ok (.aload_n 2, 1) := by decide +kernel
theorem dL_law_387 : decode cL_law 387 = .ok (.aload_n 0, 1) := by decide +kernel
theorem dL_law_388 : decode cL_law 388 = .ok (.iload_n 3, 1) := by decide +kernel
theorem dL_law_389 : decode cL_law 389 = .ok (.iconst 1, 1) := by decide +kernel
theorem dL_law_390 : decode cL_law 390 = .ok (.iadd, 1) := by decide +kernel
theorem dL_law_391 : decode cL_law 391 = .ok (.iaload, 1) := by decide +kernel
theorem dL_law_392 : decode cL_law 392 = .ok (.invokevirtual 61, 3) := by decide +kernel
theorem dL_law_395 : decode cL_law 395 = .ok (.lcmp, 1) := by decide +kernel
theorem dL_law_396 : decode cL_law 396 = .ok (.ifCond .eq 85, 3) := by decide +kernel
theorem dL_law_399 : decode cL_law 399 = .ok (.iconst 0, 1) := by decide +kernel
theorem dL_law_400 : decode cL_law 400 = .ok (.ireturn, 1) := by decide +kernel
theorem dL_law_401 : decode cL_law 401 = .ok (.aload_n 1, 1) := by decide +kernel
theorem dL_law_402 : decode cL_law 402 = .ok (.aload_n 0, 1) := by decide +kernel
theorem dL_law_403 : decode cL_law 403 = .ok (.iload_n 3, 1) := by decide +kernel
theorem dL_law_404 : decode cL_law 404 = .ok (.iconst 1, 1) := by decide +kernel
theorem dL_law_405 : decode cL_law 405 = .ok (.iadd, 1) := by decide +kernel
theorem dL_law_406 : decode cL_law 406 = .ok (.iaload, 1) := by decide +kernel
theorem dL_law_407 : decode cL_law 407 = .ok (.invokevirtual 62, 3) := by decide +kernel
theorem dL_law_410 : decode cL_law 410 = .ok (.aload_n 2, 1) := by decide +kernel
theorem dL_law_411 : decode cL_law 411 = .ok (.aload_n 0, 1) := by decide +kernel
theorem dL_law_412 : decode cL_law 412 = .ok (.iload_n 3, 1) := by decide +kernel
theorem dL_law_413 : decode cL_law 413 = .ok (.iconst 1, 1) := by decide +kernel
theorem dL_law_414 : decode cL_law 414 = .ok (.iadd, 1) := by decide +kernel
theorem dL_law_415 : decode cL_law 415 = .ok (.iaload, 1) := by decide +kernel
theorem dL_law_416 : decode cL_law 416 = .ok (.invokevirtual 65, 3) := by decide +kernel
theorem dL_law_419 : decode cL_law 419 = .ok (.lcmp, 1) := by decide +kernel
theorem dL_law_420 : decode cL_law 420 = .ok (.ifCond .eq 61, 3) := by decide +kernel
theorem dL_law_423 : decode cL_law 423 = .ok (.iconst 0, 1) := by decide +kernel
theorem dL_law_424 : decode cL_law 424 = .ok (.ireturn, 1) := by decide +kernel
theorem dL_law_425 : decode cL_law 425 = .ok (.aload_n 1, 1) := by decide +kernel
theorem dL_law_426 : decode cL_law 426 = .ok (.aload_n 0, 1) := by decide +kernel
theorem dL_law_427 : decode cL_law 427 = .ok (.iload_n 3, 1) := by decide +kernel
theorem dL_law_428 : decode cL_law 428 = .ok (.iconst 1, 1) := by decide +kernel
theorem dL_law_429 : decode cL_law 429 = .ok (.iadd, 1) := by decide +kernel
theorem dL_law_430 : decode cL_law 430 = .ok (.iaload, 1) := by decide +kernel
theorem dL_law_431 : decode cL_law 431 = .ok (.invokevirtual 66, 3) := by decide +kernel
theorem dL_law_434 : decode cL_law 434 = .ok (.aload_n 2, 1) := by decide +kernel
theorem dL_law_435 : decode cL_law 435 = .ok (.aload_n 0, 1) := by decide +kernel
theorem dL_law_436 : decode cL_law 436 = .ok (.iload_n 3, 1) := by decide +kernel
theorem dL_law_437 : decode cL_law 437 = .ok (.iconst 1, 1) := by decide +kernel
theorem dL_law_438 : decode cL_law 438 = .ok (.iadd, 1) := by decide +kernel
theorem dL_law_439 : decode cL_law 439 = .ok (.iaload, 1) := by decide +kernel
theorem dL_law_440 : decode cL_law 440 = .ok (.invokevirtual 69, 3) := by decide +kernel
theorem dL_law_443 : decode cL_law 443 = .ok (.if_icmp .eq 38, 3) := by decide +kernel
theorem dL_law_446 : decode cL_law 446 = .ok (.iconst 0, 1) := by decide +kernel
theorem dL_law_447 : decode cL_law 447 = .ok (.ireturn, 1) := by decide +kernel
theorem dL_law_448 : decode cL_law 448 = .ok (.aload_n 1, 1) := by decide +kernel
theorem dL_law_449 : decode cL_law 449 = .ok (.aload_n 0, 1) := by decide +kernel
theorem dL_law_450 : decode cL_law 450 = .ok (.iload_n 3, 1) := by decide +kernel
theorem dL_law_451 : decode cL_law 451 = .ok (.iconst 1, 1) := by decide +kernel
theorem dL_law_452 : decode cL_law 452 = .ok (.iadd, 1) := by decide +kernel
theorem dL_law_453 : decode cL_law 453 = .ok (.iaload, 1) := by decide +kernel
theorem dL_law_454 : decode cL_law 454 = .ok (.aload_n 0, 1) := by decide +kernel
theorem dL_law_455 : decode cL_law 455 = .ok (.iload_n 3, 1) := by decide +kernel
theorem dL_law_456 : decode cL_law 456 = .ok (.iconst 2, 1) := by decide +kernel
theorem dL_law_457 : decode cL_law 457 = .ok (.iadd, 1) := by decide +kernel
theorem dL_law_458 : decode cL_law 458 = .ok (.iaload, 1) := by decide +kernel
theorem dL_law_459 : decode cL_law 459 = .ok (.invokevirtual 70, 3) := by decide +kernel
theorem dL_law_462 : decode cL_law 462 = .ok (.aload_n 2, 1) := by decide +kernel
theorem dL_law_463 : decode cL_law 463 = .ok (.aload_n 0, 1) := by decide +kernel
theorem dL_law_464 : decode cL_law 464 = .ok (.iload_n 3, 1) := by decide +kernel
theorem dL_law_465 : decode cL_law 465 = .ok (.iconst 1, 1) := by decide +kernel
theorem dL_law_466 : decode cL_law 466 = .ok (.iadd, 1) := by decide +kernel
theorem dL_law_467 : decode cL_law 467 = .ok (.iaload, 1) := by decide +kernel
theorem dL_law_468 : decode cL_law 468 = .ok (.aload_n 0, 1) := by decide +kernel
theorem dL_law_469 : decode cL_law 469 = .ok (.iload_n 3, 1) := by decide +kernel
theorem dL_law_470 : decode cL_law 470 = .ok (.iconst 2, 1) := by decide +kernel
theorem dL_law_471 : decode cL_law 471 = .ok (.iadd, 1) := by decide +kernel
theorem dL_law_472 : decode cL_law 472 = .ok (.iaload, 1) := by decide +kernel
theorem dL_law_473 : decode cL_law 473 = .ok (.invokevirtual 74, 3) := by decide +kernel
theorem dL_law_476 : decode cL_law 476 = .ok (.if_icmp .eq 5, 3) := by decide +kernel
theorem dL_law_479 : decode cL_law 479 = .ok (.iconst 0, 1) := by decide +kernel
theorem dL_law_480 : decode cL_law 480 = .ok (.ireturn, 1) := by decide +kernel
theorem dL_law_481 : decode cL_law 481 = .ok (.iinc 3 4, 3) := by decide +kernel
theorem dL_law_484 : decode cL_law 484 = .ok (.goto (-466), 3) := by decide +kernel
theorem dL_law_487 : decode cL_law 487 = .ok (.iconst 1, 1) := by decide +kernel
theorem dL_law_488 : decode cL_law 488 = .ok (.ireturn, 1) := by decide +kernel
