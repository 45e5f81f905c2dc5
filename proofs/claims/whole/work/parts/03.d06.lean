theorem dX9_run_11 : decode cX9_run 11 = .ok (.iconst (-1), 1) := by decide +kernel
theorem dX9_run_12 : decode cX9_run 12 = .ok (.ireturn, 1) := by decide +kernel
theorem dX9_run_13 : decode cX9_run 13 = .ok (.iconst 0, 1) := by decide +kernel
theorem dX9_run_14 : decode cX9_run 14 = .ok (.istore_n 2, 1) := by decide +kernel
theorem dX9_run_15 : decode cX9_run 15 = .ok (.iload_n 2, 1) := by decide +kernel
theorem dX9_run_16 : decode cX9_run 16 = .ok (.iload_n 1, 1) := by decide +kernel
theorem dX9_run_17 : decode cX9_run 17 = .ok (.if_icmp .ge 64, 3) := by decide +kernel
theorem dX9_run_20 : decode cX9_run 20 = .ok (.aload_n 0, 1) := by decide +kernel
theorem dX9_run_21 : decode cX9_run 21 = .ok (.getfield 35, 3) := by decide +kernel
theorem dX9_run_24 : decode cX9_run 24 = .ok (.getfield 113, 3) := by decide +kernel
theorem dX9_run_27 : decode cX9_run 27 = .ok (.iconst 1, 1) := by decide +kernel
theorem dX9_run_28 : decode cX9_run 28 = .ok (.if_icmp .ne 53, 3) := by decide +kernel
theorem dX9_run_31 : decode cX9_run 31 = .ok (.aload_n 0, 1) := by decide +kernel
theorem dX9_run_32 : decode cX9_run 32 = .ok (.getfield 35, 3) := by decide +kernel
theorem dX9_run_35 : decode cX9_run 35 = .ok (.dup, 1) := by decide +kernel
theorem dX9_run_36 : decode cX9_run 36 = .ok (.getfield 116, 3) := by decide +kernel
theorem dX9_run_39 : decode cX9_run 39 = .ok (.iconst 1, 1) := by decide +kernel
theorem dX9_run_40 : decode cX9_run 40 = .ok (.iadd, 1) := by decide +kernel
theorem dX9_run_41 : decode cX9_run 41 = .ok (.putfield 116, 3) := by decide +kernel
theorem dX9_run_44 : decode cX9_run 44 = .ok (.aload_n 0, 1) := by decide +kernel
theorem dX9_run_45 : decode cX9_run 45 = .ok (.getfield 35, 3) := by decide +kernel
theorem dX9_run_48 : decode cX9_run 48 = .ok (.invokevirtual 119, 3) := by decide +kernel
theorem dX9_run_51 : decode cX9_run 51 = .ok (.ifCond .eq 13, 3) := by decide +kernel
theorem dX9_run_54 : decode cX9_run 54 = .ok (.aload_n 0, 1) := by decide +kernel
theorem dX9_run_55 : decode cX9_run 55 = .ok (.getfield 69, 3) := by decide +kernel
theorem dX9_run_58 : decode cX9_run 58 = .ok (.invokevirtual 122, 3) := by decide +kernel
theorem dX9_run_61 : decode cX9_run 61 = .ok (.goto 10, 3) := by decide +kernel
theorem dX9_run_64 : decode cX9_run 64 = .ok (.aload_n 0, 1) := by decide +kernel
theorem dX9_run_65 : decode cX9_run 65 = .ok (.getfield 60, 3) := by decide +kernel
theorem dX9_run_68 : decode cX9_run 68 = .ok (.invokevirtual 125, 3) := by decide +kernel
theorem dX9_run_71 : decode cX9_run 71 = .ok (.aload_n 0, 1) := by decide +kernel
theorem dX9_run_72 : decode cX9_run 72 = .ok (.invokevirtual 110, 3) := by decide +kernel
theorem dX9_run_75 : decode cX9_run 75 = .ok (.iinc 2 1, 3) := by decide +kernel
theorem dX9_run_78 : decode cX9_run 78 = .ok (.goto (-63), 3) := by decide +kernel
theorem dX9_run_81 : decode cX9_run 81 = .ok (.iload_n 2, 1) := by decide +kernel
theorem dX9_run_82 : decode cX9_run 82 = .ok (.ireturn, 1) := by decide +kernel
theorem dX9_state_0 : decode cX9_state 0 = .ok (.iload_n 1, 1) := by decide +kernel
theorem dX9_state_1 : decode cX9_state 1 = .ok (.tableswitch 205 0 11 #[63, 71, 79, 102, 133, 141, 149, 157, 165, 173, 189, 197], 63) := by decide +kernel
theorem dX9_state_64 : decode cX9_state 64 = .ok (.aload_n 0, 1) := by decide +kernel
theorem dX9_state_65 : decode cX9_state 65 = .ok (.getfield 35, 3) := by decide +kernel
theorem dX9_state_68 : decode cX9_state 68 = .ok (.getfield 113, 3) := by decide +kernel
theorem dX9_state_71 : decode cX9_state 71 = .ok (.ireturn, 1) := by decide +kernel
theorem dX9_state_72 : decode cX9_state 72 = .ok (.aload_n 0, 1) := by decide +kernel
theorem dX9_state_73 : decode cX9_state 73 = .ok (.getfield 35, 3) := by decide +kernel
theorem dX9_state_76 : decode cX9_state 76 = .ok (.getfield 128, 3) := by decide +kernel
theorem dX9_state_79 : decode cX9_state 79 = .ok (.ireturn, 1) := by decide +kernel
theorem dX9_state_80 : decode cX9_state 80 = .ok (.aload_n 0, 1) := by decide +kernel
theorem dX9_state_81 : decode cX9_state 81 = .ok (.getfield 35, 3) := by decide +kernel
theorem dX9_state_84 : decode cX9_state 84 = .ok (.getfield 113, 3) := by decide +kernel
theorem dX9_state_87 : decode cX9_state 87 = .ok (.iconst 1, 1) := by decide +kernel
theorem dX9_state_88 : decode cX9_state 88 = .ok (.if_icmp .ne 13, 3) := by decide +kernel
theorem dX9_state_91 : decode cX9_state 91 = .ok (.aload_n 0, 1) := by decide +kernel
theorem dX9_state_92 : decode cX9_state 92 = .ok (.getfield 35, 3) := by decide +kernel
theorem dX9_state_95 : decode cX9_state 95 = .ok (.getfield 131, 3) := by decide +kernel
theorem dX9_state_98 : decode cX9_state 98 = .ok (.goto 4, 3) := by decide +kernel
theorem dX9_state_101 : decode cX9_state 101 = .ok (.iconst 0, 1) := by decide +kernel
theorem dX9_state_102 : decode cX9_state 102 = .ok (.ireturn, 1) := by decide +kernel
theorem dX9_state_103 : decode cX9_state 103 = .ok (.aload_n 0, 1) := by decide +kernel
theorem dX9_state_104 : decode cX9_state 104 = .ok (.getfield 35, 3) := by decide +kernel
theorem dX9_state_107 : decode cX9_state 107 = .ok (.getfield 134, 3) := by decide +kernel
theorem dX9_state_110 : decode cX9_state 110 = .ok (.iconst (-1), 1) := by decide +kernel
theorem dX9_state_111 : decode cX9_state 111 = .ok (.if_icmp .ne 7, 3) := by decide +kernel
theorem dX9_state_114 : decode cX9_state 114 = .ok (.iconst 0, 1) := by decide +kernel
theorem dX9_state_115 : decode cX9_state 115 = .ok (.goto 18, 3) := by decide +kernel
theorem dX9_state_118 : decode cX9_state 118 = .ok (.aload_n 0, 1) := by decide +kernel
theorem dX9_state_119 : decode cX9_state 119 = .ok (.getfield 12, 3) := by decide +kernel
theorem dX9_state_122 : decode cX9_state 122 = .ok (.getfield 137, 3) := by decide +kernel
theorem dX9_state_125 : decode cX9_state 125 = .ok (.aload_n 0, 1) := by decide +kernel
theorem dX9_state_126 : decode cX9_state 126 = .ok (.getfield 35, 3) := by decide +kernel
theorem dX9_state_129 : decode cX9_state 129 = .ok (.getfield 134, 3) := by decide +kernel
theorem dX9_state_132 : decode cX9_state 132 = .ok (.iaload, 1) := by decide +kernel
theorem dX9_state_133 : decode cX9_state 133 = .ok (.ireturn, 1) := by decide +kernel
theorem dX9_state_134 : decode cX9_state 134 = .ok (.aload_n 0, 1) := by decide +kernel
theorem dX9_state_135 : decode cX9_state 135 = .ok (.getfield 35, 3) := by decide +kernel
theorem dX9_state_138 : decode cX9_state 138 = .ok (.getfield 116, 3) := by decide +kernel
theorem dX9_state_141 : decode cX9_state 141 = .ok (.ireturn, 1) := by decide +kernel
theorem dX9_state_142 : decode cX9_state 142 = .ok (.aload_n 0, 1) := by decide +kernel
theorem dX9_state_143 : decode cX9_state 143 = .ok (.getfield 12, 3) := by decide +kernel
theorem dX9_state_146 : decode cX9_state 146 = .ok (.getfield 140, 3) := by decide +kernel
theorem dX9_state_149 : decode cX9_state 149 = .ok (.ireturn, 1) := by decide +kernel
theorem dX9_state_150 : decode cX9_state 150 = .ok (.aload_n 0, 1) := by decide +kernel
theorem dX9_state_151 : decode cX9_state 151 = .ok (.getfield 12, 3) := by decide +kernel
theorem dX9_state_154 : decode cX9_state 154 = .ok (.getfield 143, 3) := by decide +kernel
theorem dX9_state_157 : decode cX9_state 157 = .ok (.ireturn, 1) := by decide +kernel
theorem dX9_state_158 : decode cX9_state 158 = .ok (.aload_n 0, 1) := by decide +kernel
theorem dX9_state_159 : decode cX9_state 159 = .ok (.getfield 21, 3) := by decide +kernel
theorem dX9_state_162 : decode cX9_state 162 = .ok (.getfield 146, 3) := by decide +kernel
theorem dX9_state_165 : decode cX9_state 165 = .ok (.ireturn, 1) := by decide +kernel
theorem dX9_state_166 : decode cX9_state 166 = .ok (.aload_n 0, 1) := by decide +kernel
theorem dX9_state_167 : decode cX9_state 167 = .ok (.getfield 21, 3) := by decide +kernel
theorem dX9_state_170 : decode cX9_state 170 = .ok (.invokevirtual 149, 3) := by decide +kernel
theorem dX9_state_173 : decode cX9_state 173 = .ok (.ireturn, 1) := by decide +kernel
theorem dX9_state_174 : decode cX9_state 174 = .ok (.aload_n 0, 1) := by decide +kernel
theorem dX9_state_175 : decode cX9_state 175 = .ok (.getfield 21, 3) := by decide +kernel
theorem dX9_state_178 : decode cX9_state 178 = .ok (.invokevirtual 153, 3) := by decide +kernel
theorem dX9_state_181 : decode cX9_state 181 = .ok (.ifCond .eq 7, 3) := by decide +kernel
theorem dX9_state_184 : decode cX9_state 184 = .ok (.iconst 1, 1) := by decide +kernel
theorem dX9_state_185 : decode cX9_state 185 = .ok (.goto 4, 3) := by decide +kernel
theorem dX9_state_188 : decode cX9_state 188 = .ok (.iconst 0, 1) := by decide +kernel
theorem dX9_state_189 : decode cX9_state 189 = .ok (.ireturn, 1) := by decide +kernel
theorem dX9_state_190 : decode cX9_state 190 = .ok (.aload_n 0, 1) := by decide +kernel
theorem dX9_state_191 : decode cX9_state 191 = .ok (.getfield 28, 3) := by decide +kernel
theorem dX9_state_194 : decode cX9_state 194 = .ok (.getfield 156, 3) := by decide +kernel
theorem dX9_state_197 : decode cX9_state 197 = .ok (.ireturn, 1) := by decide +kernel
theorem dX9_state_198 : decode cX9_state 198 = .ok (.aload_n 0, 1) := by decide +kernel
theorem dX9_state_199 : decode cX9_state 199 = .ok (.getfield 42, 3) := by decide +kernel
theorem dX9_state_202 : decode cX9_state 202 = .ok (.getfield 159, 3) := by decide +kernel
theorem dX9_state_205 : decode cX9_state 205 = .ok (.ireturn, 1) := by decide +kernel
theorem dX9_state_206 : decode cX9_state 206 = .ok (.iconst (-1), 1) := by decide +kernel
theorem dX9_state_207 : decode cX9_state 207 = .ok (.ireturn, 1) := by decide +kernel
theorem dX9_tier_0 : decode cX9_tier 0 = .ok (.iload_n 1, 1) := by decide +kernel
theorem dX9_tier_1 : decode cX9_tier 1 = .ok (.ifCond .ge 5, 3) := by decide +kernel
theorem dX9_tier_4 : decode cX9_tier 4 = .ok (.iconst (-1), 1) := by decide +kernel
theorem dX9_tier_5 : decode cX9_tier 5 = .ok (.ireturn, 1) := by decide +kernel
theorem dX9_tier_6 : decode cX9_tier 6 = .ok (.aload_n 0, 1) := by decide +kernel
theorem dX9_tier_7 : decode cX9_tier 7 = .ok (.getfield 81, 3) := by decide +kernel
theorem dX9_tier_10 : decode cX9_tier 10 = .ok (.istore_n 2, 1) := by decide +kernel
theorem dX9_tier_11 : decode cX9_tier 11 = .ok (.aload_n 0, 1) := by decide +kernel
theorem dX9_tier_12 : decode cX9_tier 12 = .ok (.iload_n 1, 1) := by decide +kernel
theorem dX9_tier_13 : decode cX9_tier 13 = .ok (.putfield 81, 3) := by decide +kernel
theorem dX9_tier_16 : decode cX9_tier 16 = .ok (.iload_n 2, 1) := by decide +kernel
theorem dX9_tier_17 : decode cX9_tier 17 = .ok (.ireturn, 1) := by decide +kernel
theorem dX9_result_0 : decode cX9_result 0 = .ok (.iload_n 1, 1) := by decide +kernel
theorem dX9_result_1 : decode cX9_result 1 = .ok (.ifCond .lt 26, 3) := by decide +kernel
theorem dX9_result_4 : decode cX9_result 4 = .ok (.iload_n 1, 1) := by decide +kernel
theorem dX9_result_5 : decode cX9_result 5 = .ok (.aload_n 0, 1) := by decide +kernel
theorem dX9_result_6 : decode cX9_result 6 = .ok (.getfield 35, 3) := by decide +kernel
theorem dX9_result_9 : decode cX9_result 9 = .ok (.getfield 160, 3) := by decide +kernel
theorem dX9_result_12 : decode cX9_result 12 = .ok (.if_icmp .ge 15, 3) := by decide +kernel
theorem dX9_result_15 : decode cX9_result 15 = .ok (.aload_n 0, 1) := by decide +kernel
theorem dX9_result_16 : decode cX9_result 16 = .ok (.getfield 35, 3) := by decide +kernel
theorem dX9_result_19 : decode cX9_result 19 = .ok (.getfield 163, 3) := by decide +kernel
theorem dX9_result_22 : decode cX9_result 22 = .ok (.iload_n 1, 1) := by decide +kernel
theorem dX9_result_23 : decode cX9_result 23 = .ok (.laload, 1) := by decide +kernel
theorem dX9_result_24 : decode cX9_result 24 = .ok (.goto 4, 3) := by decide +kernel
theorem dX9_result_27 : decode cX9_result 27 = .ok (.lconst 0, 1) := by decide +kernel
theorem dX9_result_28 : decode cX9_result 28 = .ok (.lreturn, 1) := by decide +kernel
theorem dX9_global_0 : decode cX9_global 0 = .ok (.iload_n 1, 1) := by decide +kernel
theorem dX9_global_1 : decode cX9_global 1 = .ok (.ifCond .lt 21, 3) := by decide +kernel
theorem dX9_global_4 : decode cX9_global 4 = .ok (.iload_n 1, 1) := by decide +kernel
theorem dX9_global_5 : decode cX9_global 5 = .ok (.bipush 8, 2) := by decide +kernel
theorem dX9_global_7 : decode cX9_global 7 = .ok (.if_icmp .ge 15, 3) := by decide +kernel
theorem dX9_global_10 : decode cX9_global 10 = .ok (.aload_n 0, 1) := by decide +kernel
theorem dX9_global_11 : decode cX9_global 11 = .ok (.getfield 28, 3) := by decide +kernel
theorem dX9_global_14 : decode cX9_global 14 = .ok (.getfield 166, 3) := by decide +kernel
theorem dX9_global_17 : decode cX9_global 17 = .ok (.iload_n 1, 1) := by decide +kernel
theorem dX9_global_18 : decode cX9_global 18 = .ok (.laload, 1) := by decide +kernel
theorem dX9_global_19 : decode cX9_global 19 = .ok (.goto 4, 3) := by decide +kernel
theorem dX9_global_22 : decode cX9_global 22 = .ok (.lconst 0, 1) := by decide +kernel
theorem dX9_global_23 : decode cX9_global 23 = .ok (.lreturn, 1) := by decide +kernel
theorem dX9_memory_0 : decode cX9_memory 0 = .ok (.iload_n 1, 1) := by decide +kernel
theorem dX9_memory_1 : decode cX9_memory 1 = .ok (.ifCond .lt 32, 3) := by decide +kernel
theorem dX9_memory_4 : decode cX9_memory 4 = .ok (.aload_n 0, 1) := by decide +kernel
theorem dX9_memory_5 : decode cX9_memory 5 = .ok (.getfield 28, 3) := by decide +kernel
theorem dX9_memory_8 : decode cX9_memory 8 = .ok (.iload_n 1, 1) := by decide +kernel
theorem dX9_memory_9 : decode cX9_memory 9 = .ok (.i2l, 1) := by decide +kernel
theorem dX9_memory_10 : decode cX9_memory 10 = .ok (.iconst 1, 1) := by decide +kernel
theorem dX9_memory_11 : decode cX9_memory 11 = .ok (.invokevirtual 169, 3) := by decide +kernel
theorem dX9_memory_14 : decode cX9_memory 14 = .ok (.ifCond .eq 19, 3) := by decide +kernel
theorem dX9_memory_17 : decode cX9_memory 17 = .ok (.aload_n 0, 1) := by decide +kernel
theorem dX9_memory_18 : decode cX9_memory 18 = .ok (.getfield 28, 3) := by decide +kernel
theorem dX9_memory_21 : decode cX9_memory 21 = .ok (.getfield 173, 3) := by decide +kernel
theorem dX9_memory_24 : decode cX9_memory 24 = .ok (.iload_n 1, 1) := by decide +kernel
theorem dX9_memory_25 : decode cX9_memory 25 = .ok (.baload, 1) := by decide +kernel
theorem dX9_memory_26 : decode cX9_memory 26 = .ok (.sipush 255, 3) := by decide +kernel
theorem dX9_memory_29 : decode cX9_memory 29 = .ok (.iand, 1) := by decide +kernel
theorem dX9_memory_30 : decode cX9_memory 30 = .ok (.goto 4, 3) := by decide +kernel
theorem dX9_memory_33 : decode cX9_memory 33 = .ok (.iconst (-1), 1) := by decide +kernel
theorem dX9_memory_34 : decode cX9_memory 34 = .ok (.ireturn, 1) := by decide +kernel
theorem dX9_look_0 : decode cX9_look 0 = .ok (.aload_n 0, 1) := by decide +kernel
theorem dX9_look_1 : decode cX9_look 1 = .ok (.getfield 12, 3) := by decide +kernel
theorem dX9_look_4 : decode cX9_look 4 = .ok (.iload_n 1, 1) := by decide +kernel
theorem dX9_look_5 : decode cX9_look 5 = .ok (.invokevirtual 95, 3) := by decide +kernel
theorem dX9_look_8 : decode cX9_look 8 = .ok (.ifCond .ne 5, 3) := by decide +kernel
theorem dX9_look_11 : decode cX9_look 11 = .ok (.iconst (-1), 1) := by decide +kernel
theorem dX9_look_12 : decode cX9_look 12 = .ok (.ireturn, 1) := by decide +kernel
theorem dX9_look_13 : decode cX9_look 13 = .ok (.iload_n 2, 1) := by decide +kernel
theorem dX9_look_14 : decode cX9_look 14 = .ok (.tableswitch 70 0 3 #[30, 40, 50, 60], 30) := by decide +kernel
theorem dX9_look_44 : decode cX9_look 44 = .ok (.aload_n 0, 1) := by decide +kernel
theorem dX9_look_45 : decode cX9_look 45 = .ok (.getfield 12, 3) := by decide +kernel
theorem dX9_look_48 : decode cX9_look 48 = .ok (.getfield 103, 3) := by decide +kernel
theorem dX9_look_51 : decode cX9_look 51 = .ok (.iload_n 1, 1) := by decide +kernel
theorem dX9_look_52 : decode cX9_look 52 = .ok (.iaload, 1) := by decide +kernel
theorem dX9_look_53 : decode cX9_look 53 = .ok (.ireturn, 1) := by decide +kernel
theorem dX9_look_54 : decode cX9_look 54 = .ok (.aload_n 0, 1) := by decide +kernel
theorem dX9_look_55 : decode cX9_look 55 = .ok (.getfield 12, 3) := by decide +kernel
theorem dX9_look_58 : decode cX9_look 58 = .ok (.getfield 177, 3) := by decide +kernel
theorem dX9_look_61 : decode cX9_look 61 = .ok (.iload_n 1, 1) := by decide +kernel
theorem dX9_look_62 : decode cX9_look 62 = .ok (.iaload, 1) := by decide +kernel
theorem dX9_look_63 : decode cX9_look 63 = .ok (.ireturn, 1) := by decide +kernel
theorem dX9_look_64 : decode cX9_look 64 = .ok (.aload_n 0, 1) := by decide +kernel
theorem dX9_look_65 : decode cX9_look 65 = .ok (.getfield 12, 3) := by decide +kernel
theorem dX9_look_68 : decode cX9_look 68 = .ok (.getfield 179, 3) := by decide +kernel
theorem dX9_look_71 : decode cX9_look 71 = .ok (.iload_n 1, 1) := by decide +kernel
theorem dX9_look_72 : decode cX9_look 72 = .ok (.iaload, 1) := by decide +kernel
theorem dX9_look_73 : decode cX9_look 73 = .ok (.ireturn, 1) := by decide +kernel
theorem dX9_look_74 : decode cX9_look 74 = .ok (.aload_n 0, 1) := by decide +kernel
theorem dX9_look_75 : decode cX9_look 75 = .ok (.getfield 12, 3) := by decide +kernel
theorem dX9_look_78 : decode cX9_look 78 = .ok (.getfield 182, 3) := by decide +kernel
theorem dX9_look_81 : decode cX9_look 81 = .ok (.iload_n 1, 1) := by decide +kernel
theorem dX9_look_82 : decode cX9_look 82 = .ok (.iaload, 1) := by decide +kernel
theorem dX9_look_83 : decode cX9_look 83 = .ok (.ireturn, 1) := by decide +kernel
theorem dX9_look_84 : decode cX9_look 84 = .ok (.iconst (-1), 1) := by decide +kernel
theorem dX9_look_85 : decode cX9_look 85 = .ok (.ireturn, 1) := by decide +kernel
theorem dX9_doWhatIsNoStep_0 : decode cX9_doWhatIsNoStep 0 = .ok (.iconst 1, 1) := by decide +kernel
theorem dX9_doWhatIsNoStep_1 : decode cX9_doWhatIsNoStep 1 = .ok (.istore_n 1, 1) := by decide +kernel
theorem dX9_doWhatIsNoStep_2 : decode cX9_doWhatIsNoStep 2 = .ok (.iconst 0, 1) := by decide +kernel
theorem dX9_doWhatIsNoStep_3 : decode cX9_doWhatIsNoStep 3 = .ok (.istore_n 2, 1) := by decide +kernel
theorem dX9_doWhatIsNoStep_4 : decode cX9_doWhatIsNoStep 4 = .ok (.iload_n 2, 1) := by decide +kernel
theorem dX9_doWhatIsNoStep_5 : decode cX9_doWhatIsNoStep 5 = .ok (.ldc 185, 2) := by decide +kernel
theorem dX9_doWhatIsNoStep_7 : decode cX9_doWhatIsNoStep 7 = .ok (.if_icmp .ge 103, 3) := by decide +kernel
theorem dX9_doWhatIsNoStep_10 : decode cX9_doWhatIsNoStep 10 = .ok (.iload_n 1, 1) := by decide +kernel
theorem dX9_doWhatIsNoStep_11 : decode cX9_doWhatIsNoStep 11 = .ok (.ifCond .eq 99, 3) := by decide +kernel
theorem dX9_doWhatIsNoStep_14 : decode cX9_doWhatIsNoStep 14 = .ok (.aload_n 0, 1) := by decide +kernel
theorem dX9_doWhatIsNoStep_15 : decode cX9_doWhatIsNoStep 15 = .ok (.getfield 35, 3) := by decide +kernel
theorem dX9_doWhatIsNoStep_18 : decode cX9_doWhatIsNoStep 18 = .ok (.getfield 113, 3) := by decide +kernel
theorem dX9_doWhatIsNoStep_21 : decode cX9_doWhatIsNoStep 21 = .ok (.iconst 1, 1) := by decide +kernel
theorem dX9_doWhatIsNoStep_22 : decode cX9_doWhatIsNoStep 22 = .ok (.if_icmp .ne 88, 3) := by decide +kernel
theorem dX9_doWhatIsNoStep_25 : decode cX9_doWhatIsNoStep 25 = .ok (.aload_n 0, 1) := by decide +kernel
theorem dX9_doWhatIsNoStep_26 : decode cX9_doWhatIsNoStep 26 = .ok (.getfield 35, 3) := by decide +kernel
theorem dX9_doWhatIsNoStep_29 : decode cX9_doWhatIsNoStep 29 = .ok (.getfield 186, 3) := by decide +kernel
theorem dX9_doWhatIsNoStep_32 : decode cX9_doWhatIsNoStep 32 = .ok (.ifCond .eq 43, 3) := by decide +kernel
theorem dX9_doWhatIsNoStep_35 : decode cX9_doWhatIsNoStep 35 = .ok (.aload_n 0, 1) := by decide +kernel
theorem dX9_doWhatIsNoStep_36 : decode cX9_doWhatIsNoStep 36 = .ok (.getfield 35, 3) := by decide +kernel
theorem dX9_doWhatIsNoStep_39 : decode cX9_doWhatIsNoStep 39 = .ok (.invokevirtual 190, 3) := by decide +kernel
theorem dX9_doWhatIsNoStep_42 : decode cX9_doWhatIsNoStep 42 = .ok (.istore_n 3, 1) := by decide +kernel
theorem dX9_doWhatIsNoStep_43 : decode cX9_doWhatIsNoStep 43 = .ok (.aload_n 0, 1) := by decide +kernel
theorem dX9_doWhatIsNoStep_44 : decode cX9_doWhatIsNoStep 44 = .ok (.iload_n 3, 1) := by decide +kernel
theorem dX9_doWhatIsNoStep_45 : decode cX9_doWhatIsNoStep 45 = .ok (.invokevirtual 193, 3) := by decide +kernel
theorem dX9_doWhatIsNoStep_48 : decode cX9_doWhatIsNoStep 48 = .ok (.ifCond .eq 11, 3) := by decide +kernel
theorem dX9_doWhatIsNoStep_51 : decode cX9_doWhatIsNoStep 51 = .ok (.aload_n 0, 1) := by decide +kernel
theorem dX9_doWhatIsNoStep_52 : decode cX9_doWhatIsNoStep 52 = .ok (.getfield 51, 3) := by decide +kernel
theorem dX9_doWhatIsNoStep_55 : decode cX9_doWhatIsNoStep 55 = .ok (.iload_n 3, 1) := by decide +kernel
theorem dX9_doWhatIsNoStep_56 : decode cX9_doWhatIsNoStep 56 = .ok (.invokevirtual 196, 3) := by decide +kernel
theorem dX9_doWhatIsNoStep_59 : decode cX9_doWhatIsNoStep 59 = .ok (.aload_n 0, 1) := by decide +kernel
theorem dX9_doWhatIsNoStep_60 : decode cX9_doWhatIsNoStep 60 = .ok (.getfield 35, 3) := by decide +kernel
theorem dX9_doWhatIsNoStep_63 : decode cX9_doWhatIsNoStep 63 = .ok (.aload_n 0, 1) := by decide +kernel
theorem dX9_doWhatIsNoStep_64 : decode cX9_doWhatIsNoStep 64 = .ok (.getfield 42, 3) := by decide +kernel
theorem dX9_doWhatIsNoStep_67 : decode cX9_doWhatIsNoStep 67 = .ok (.getfield 200, 3) := by decide +kernel
theorem dX9_doWhatIsNoStep_70 : decode cX9_doWhatIsNoStep 70 = .ok (.iload_n 3, 1) := by decide +kernel
theorem dX9_doWhatIsNoStep_71 : decode cX9_doWhatIsNoStep 71 = .ok (.iaload, 1) := by decide +kernel
theorem dX9_doWhatIsNoStep_72 : decode cX9_doWhatIsNoStep 72 = .ok (.invokevirtual 202, 3) := by decide +kernel
theorem dX9_doWhatIsNoStep_75 : decode cX9_doWhatIsNoStep 75 = .ok (.aload_n 0, 1) := by decide +kernel
theorem dX9_doWhatIsNoStep_76 : decode cX9_doWhatIsNoStep 76 = .ok (.getfield 35, 3) := by decide +kernel
theorem dX9_doWhatIsNoStep_79 : decode cX9_doWhatIsNoStep 79 = .ok (.invokevirtual 119, 3) := by decide +kernel
theorem dX9_doWhatIsNoStep_82 : decode cX9_doWhatIsNoStep 82 = .ok (.ifCond .eq 14, 3) := by decide +kernel
theorem dX9_doWhatIsNoStep_85 : decode cX9_doWhatIsNoStep 85 = .ok (.aload_n 0, 1) := by decide +kernel
theorem dX9_doWhatIsNoStep_86 : decode cX9_doWhatIsNoStep 86 = .ok (.getfield 69, 3) := by decide +kernel
theorem dX9_doWhatIsNoStep_89 : decode cX9_doWhatIsNoStep 89 = .ok (.invokevirtual 205, 3) := by decide +kernel
theorem dX9_doWhatIsNoStep_92 : decode cX9_doWhatIsNoStep 92 = .ok (.istore_n 1, 1) := by decide +kernel
theorem dX9_doWhatIsNoStep_93 : decode cX9_doWhatIsNoStep 93 = .ok (.goto 11, 3) := by decide +kernel
theorem dX9_doWhatIsNoStep_96 : decode cX9_doWhatIsNoStep 96 = .ok (.aload_n 0, 1) := by decide +kernel
theorem dX9_doWhatIsNoStep_97 : decode cX9_doWhatIsNoStep 97 = .ok (.getfield 60, 3) := by decide +kernel
theorem dX9_doWhatIsNoStep_100 : decode cX9_doWhatIsNoStep 100 = .ok (.invokevirtual 208, 3) := by decide +kernel
theorem dX9_doWhatIsNoStep_103 : decode cX9_doWhatIsNoStep 103 = .ok (.istore_n 1, 1) := by decide +kernel
theorem dX9_doWhatIsNoStep_104 : decode cX9_doWhatIsNoStep 104 = .ok (.iinc 2 1, 3) := by decide +kernel
theorem dX9_doWhatIsNoStep_107 : decode cX9_doWhatIsNoStep 107 = .ok (.goto (-103), 3) := by decide +kernel
theorem dX9_doWhatIsNoStep_110 : decode cX9_doWhatIsNoStep 110 = .ok (.return_, 1) := by decide +kernel
theorem dX9_isDueWhenCounted_0 : decode cX9_isDueWhenCounted 0 = .ok (.aload_n 0, 1) := by decide +kernel
theorem dX9_isDueWhenCounted_1 : decode cX9_isDueWhenCounted 1 = .ok (.getfield 12, 3) := by decide +kernel
theorem dX9_isDueWhenCounted_4 : decode cX9_isDueWhenCounted 4 = .ok (.getfield 137, 3) := by decide +kernel
theorem dX9_isDueWhenCounted_7 : decode cX9_isDueWhenCounted 7 = .ok (.iload_n 1, 1) := by decide +kernel
theorem dX9_isDueWhenCounted_8 : decode cX9_isDueWhenCounted 8 = .ok (.dup2, 1) := by decide +kernel
theorem dX9_isDueWhenCounted_9 : decode cX9_isDueWhenCounted 9 = .ok (.iaload, 1) := by decide +kernel
theorem dX9_isDueWhenCounted_10 : decode cX9_isDueWhenCounted 10 = .ok (.iconst 1, 1) := by decide +kernel
theorem dX9_isDueWhenCounted_11 : decode cX9_isDueWhenCounted 11 = .ok (.iadd, 1) := by decide +kernel
theorem dX9_isDueWhenCounted_12 : decode cX9_isDueWhenCounted 12 = .ok (.iastore, 1) := by decide +kernel
theorem dX9_isDueWhenCounted_13 : decode cX9_isDueWhenCounted 13 = .ok (.aload_n 0, 1) := by decide +kernel
theorem dX9_isDueWhenCounted_14 : decode cX9_isDueWhenCounted 14 = .ok (.getfield 81, 3) := by decide +kernel
theorem dX9_isDueWhenCounted_17 : decode cX9_isDueWhenCounted 17 = .ok (.ifCond .le 36, 3) := by decide +kernel
theorem dX9_isDueWhenCounted_20 : decode cX9_isDueWhenCounted 20 = .ok (.aload_n 0, 1) := by decide +kernel
theorem dX9_isDueWhenCounted_21 : decode cX9_isDueWhenCounted 21 = .ok (.getfield 12, 3) := by decide +kernel
theorem dX9_isDueWhenCounted_24 : decode cX9_isDueWhenCounted 24 = .ok (.getfield 137, 3) := by decide +kernel
theorem dX9_isDueWhenCounted_27 : decode cX9_isDueWhenCounted 27 = .ok (.iload_n 1, 1) := by decide +kernel
theorem dX9_isDueWhenCounted_28 : decode cX9_isDueWhenCounted 28 = .ok (.iaload, 1) := by decide +kernel
theorem dX9_isDueWhenCounted_29 : decode cX9_isDueWhenCounted 29 = .ok (.aload_n 0, 1) := by decide +kernel
theorem dX9_isDueWhenCounted_30 : decode cX9_isDueWhenCounted 30 = .ok (.getfield 81, 3) := by decide +kernel
theorem dX9_isDueWhenCounted_33 : decode cX9_isDueWhenCounted 33 = .ok (.if_icmp .lt 20, 3) := by decide +kernel
theorem dX9_isDueWhenCounted_36 : decode cX9_isDueWhenCounted 36 = .ok (.aload_n 0, 1) := by decide +kernel
theorem dX9_isDueWhenCounted_37 : decode cX9_isDueWhenCounted 37 = .ok (.getfield 42, 3) := by decide +kernel
theorem dX9_isDueWhenCounted_40 : decode cX9_isDueWhenCounted 40 = .ok (.getfield 200, 3) := by decide +kernel
theorem dX9_isDueWhenCounted_43 : decode cX9_isDueWhenCounted 43 = .ok (.iload_n 1, 1) := by decide +kernel
theorem dX9_isDueWhenCounted_44 : decode cX9_isDueWhenCounted 44 = .ok (.iaload, 1) := by decide +kernel
theorem dX9_isDueWhenCounted_45 : decode cX9_isDueWhenCounted 45 = .ok (.iconst (-1), 1) := by decide +kernel
theorem dX9_isDueWhenCounted_46 : decode cX9_isDueWhenCounted 46 = .ok (.if_icmp .ne 7, 3) := by decide +kernel
theorem dX9_isDueWhenCounted_49 : decode cX9_isDueWhenCounted 49 = .ok (.iconst 1, 1) := by decide +kernel
theorem dX9_isDueWhenCounted_50 : decode cX9_isDueWhenCounted 50 = .ok (.goto 4, 3) := by decide +kernel
theorem dX9_isDueWhenCounted_53 : decode cX9_isDueWhenCounted 53 = .ok (.iconst 0, 1) := by decide +kernel
theorem dX9_isDueWhenCounted_54 : decode cX9_isDueWhenCounted 54 = .ok (.ireturn, 1) := by decide +kernel
theorem dX9_isWithin_0 : decode cX9_isWithin 0 = .ok (.iload_n 0, 1) := by decide +kernel
theorem dX9_isWithin_1 : decode cX9_isWithin 1 = .ok (.ifCond .lt 12, 3) := by decide +kernel
theorem dX9_isWithin_4 : decode cX9_isWithin 4 = .ok (.iload_n 0, 1) := by decide +kernel
theorem dX9_isWithin_5 : decode cX9_isWithin 5 = .ok (.iload_n 1, 1) := by decide +kernel
theorem dX9_isWithin_6 : decode cX9_isWithin 6 = .ok (.if_icmp .gt 7, 3) := by decide +kernel
theorem dX9_isWithin_9 : decode cX9_isWithin 9 = .ok (.iconst 1, 1) := by decide +kernel
theorem dX9_isWithin_10 : decode cX9_isWithin 10 = .ok (.goto 4, 3) := by decide +kernel
theorem dX9_isWithin_13 : decode cX9_isWithin 13 = .ok (.iconst 0, 1) := by decide +kernel
theorem dX9_isWithin_14 : decode cX9_isWithin 14 = .ok (.ireturn, 1) := by decide +kernel
theorem dX10_init_0 : decode cX10_init 0 = .ok (.aload_n 0, 1) := by decide +kernel
theorem dX10_init_1 : decode cX10_init 1 = .ok (.invokespecial 1, 3) := by decide +kernel
theorem dX10_init_4 : decode cX10_init 4 = .ok (.aload_n 0, 1) := by decide +kernel
theorem dX10_init_5 : decode cX10_init 5 = .ok (.bipush 40, 2) := by decide +kernel
theorem dX10_init_7 : decode cX10_init 7 = .ok (.newarray .int, 2) := by decide +kernel
theorem dX10_init_9 : decode cX10_init 9 = .ok (.putfield 7, 3) := by decide +kernel
theorem dX10_init_12 : decode cX10_init 12 = .ok (.aload_n 0, 1) := by decide +kernel
theorem dX10_init_13 : decode cX10_init 13 = .ok (.bipush 40, 2) := by decide +kernel
theorem dX10_init_15 : decode cX10_init 15 = .ok (.newarray .int, 2) := by decide +kernel
theorem dX10_init_17 : decode cX10_init 17 = .ok (.putfield 13, 3) := by decide +kernel
theorem dX10_init_20 : decode cX10_init 20 = .ok (.aload_n 0, 1) := by decide +kernel
theorem dX10_init_21 : decode cX10_init 21 = .ok (.bipush 40, 2) := by decide +kernel
theorem dX10_init_23 : decode cX10_init 23 = .ok (.newarray .int, 2) := by decide +kernel
theorem dX10_init_25 : decode cX10_init 25 = .ok (.putfield 16, 3) := by decide +kernel
theorem dX10_init_28 : decode cX10_init 28 = .ok (.aload_n 0, 1) := by decide +kernel
theorem dX10_init_29 : decode cX10_init 29 = .ok (.bipush 40, 2) := by decide +kernel
theorem dX10_init_31 : decode cX10_init 31 = .ok (.newarray .int, 2) := by decide +kernel
theorem dX10_init_33 : decode cX10_init 33 = .ok (.putfield 19, 3) := by decide +kernel
theorem dX10_init_36 : decode cX10_init 36 = .ok (.aload_n 0, 1) := by decide +kernel
theorem dX10_init_37 : decode cX10_init 37 = .ok (.bipush 40, 2) := by decide +kernel
theorem dX10_init_39 : decode cX10_init 39 = .ok (.newarray .int, 2) := by decide +kernel
theorem dX10_init_41 : decode cX10_init 41 = .ok (.putfield 22, 3) := by decide +kernel
theorem dX10_init_44 : decode cX10_init 44 = .ok (.aload_n 0, 1) := by decide +kernel
theorem dX10_init_45 : decode cX10_init 45 = .ok (.bipush 40, 2) := by decide +kernel
theorem dX10_init_47 : decode cX10_init 47 = .ok (.newarray .int, 2) := by decide +kernel
theorem dX10_init_49 : decode cX10_init 49 = .ok (.putfield 25, 3) := by decide +kernel
theorem dX10_init_52 : decode cX10_init 52 = .ok (.aload_n 0, 1) := by decide +kernel
theorem dX10_init_53 : decode cX10_init 53 = .ok (.sipush 1500, 3) := by decide +kernel
theorem dX10_init_56 : decode cX10_init 56 = .ok (.newarray .int, 2) := by decide +kernel
theorem dX10_init_58 : decode cX10_init 58 = .ok (.putfield 28, 3) := by decide +kernel
theorem dX10_init_61 : decode cX10_init 61 = .ok (.aload_n 0, 1) := by decide +kernel
theorem dX10_init_62 : decode cX10_init 62 = .ok (.sipush 1500, 3) := by decide +kernel
theorem dX10_init_65 : decode cX10_init 65 = .ok (.newarray .int, 2) := by decide +kernel
theorem dX10_init_67 : decode cX10_init 67 = .ok (.putfield 31, 3) := by decide +kernel
theorem dX10_init_70 : decode cX10_init 70 = .ok (.aload_n 0, 1) := by decide +kernel
theorem dX10_init_71 : decode cX10_init 71 = .ok (.sipush 1500, 3) := by decide +kernel
theorem dX10_init_74 : decode cX10_init 74 = .ok (.newarray .int, 2) := by decide +kernel
theorem dX10_init_76 : decode cX10_init 76 = .ok (.putfield 34, 3) := by decide +kernel
theorem dX10_init_79 : decode cX10_init 79 = .ok (.aload_n 0, 1) := by decide +kernel
theorem dX10_init_80 : decode cX10_init 80 = .ok (.sipush 1500, 3) := by decide +kernel
theorem dX10_init_83 : decode cX10_init 83 = .ok (.newarray .int, 2) := by decide +kernel
theorem dX10_init_85 : decode cX10_init 85 = .ok (.putfield 37, 3) := by decide +kernel
theorem dX10_init_88 : decode cX10_init 88 = .ok (.aload_n 0, 1) := by decide +kernel
theorem dX10_init_89 : decode cX10_init 89 = .ok (.sipush 1501, 3) := by decide +kernel
theorem dX10_init_92 : decode cX10_init 92 = .ok (.newarray .int, 2) := by decide +kernel
theorem dX10_init_94 : decode cX10_init 94 = .ok (.putfield 40, 3) := by decide +kernel
theorem dX10_init_97 : decode cX10_init 97 = .ok (.aload_n 0, 1) := by decide +kernel
theorem dX10_init_98 : decode cX10_init 98 = .ok (.sipush 1501, 3) := by decide +kernel
theorem dX10_init_101 : decode cX10_init 101 = .ok (.newarray .int, 2) := by decide +kernel
theorem dX10_init_103 : decode cX10_init 103 = .ok (.putfield 43, 3) := by decide +kernel
theorem dX10_init_106 : decode cX10_init 106 = .ok (.aload_n 0, 1) := by decide +kernel
theorem dX10_init_107 : decode cX10_init 107 = .ok (.sipush 1501, 3) := by decide +kernel
theorem dX10_init_110 : decode cX10_init 110 = .ok (.newarray .int, 2) := by decide +kernel
theorem dX10_init_112 : decode cX10_init 112 = .ok (.putfield 46, 3) := by decide +kernel
theorem dX10_init_115 : decode cX10_init 115 = .ok (.aload_n 0, 1) := by decide +kernel
theorem dX10_init_116 : decode cX10_init 116 = .ok (.sipush 1501, 3) := by decide +kernel
theorem dX10_init_119 : decode cX10_init 119 = .ok (.newarray .int, 2) := by decide +kernel
theorem dX10_init_121 : decode cX10_init 121 = .ok (.putfield 49, 3) := by decide +kernel
theorem dX10_init_124 : decode cX10_init 124 = .ok (.aload_n 0, 1) := by decide +kernel
theorem dX10_init_125 : decode cX10_init 125 = .ok (.sipush 1501, 3) := by decide +kernel
theorem dX10_init_128 : decode cX10_init 128 = .ok (.newarray .int, 2) := by decide +kernel
theorem dX10_init_130 : decode cX10_init 130 = .ok (.putfield 52, 3) := by decide +kernel
theorem dX10_init_133 : decode cX10_init 133 = .ok (.aload_n 0, 1) := by decide +kernel
theorem dX10_init_134 : decode cX10_init 134 = .ok (.sipush 1501, 3) := by decide +kernel
theorem dX10_init_137 : decode cX10_init 137 = .ok (.newarray .boolean, 2) := by decide +kernel
theorem dX10_init_139 : decode cX10_init 139 = .ok (.putfield 55, 3) := by decide +kernel
theorem dX10_init_142 : decode cX10_init 142 = .ok (.aload_n 0, 1) := by decide +kernel
theorem dX10_init_143 : decode cX10_init 143 = .ok (.bipush 30, 2) := by decide +kernel
theorem dX10_init_145 : decode cX10_init 145 = .ok (.newarray .int, 2) := by decide +kernel
theorem dX10_init_147 : decode cX10_init 147 = .ok (.putfield 59, 3) := by decide +kernel
theorem dX10_init_150 : decode cX10_init 150 = .ok (.aload_n 0, 1) := by decide +kernel
theorem dX10_init_151 : decode cX10_init 151 = .ok (.bipush 8, 2) := by decide +kernel
theorem dX10_init_153 : decode cX10_init 153 = .ok (.newarray .long, 2) := by decide +kernel
theorem dX10_init_155 : decode cX10_init 155 = .ok (.putfield 62, 3) := by decide +kernel
theorem dX10_init_158 : decode cX10_init 158 = .ok (.aload_n 0, 1) := by decide +kernel
theorem dX10_init_159 : decode cX10_init 159 = .ok (.sipush 384, 3) := by decide +kernel
theorem dX10_init_162 : decode cX10_init 162 = .ok (.newarray .int, 2) := by decide +kernel
theorem dX10_init_164 : decode cX10_init 164 = .ok (.putfield 66, 3) := by decide +kernel
theorem dX10_init_167 : decode cX10_init 167 = .ok (.aload_n 0, 1) := by decide +kernel
theorem dX10_init_168 : decode cX10_init 168 = .ok (.iconst 1, 1) := by decide +kernel
theorem dX10_init_169 : decode cX10_init 169 = .ok (.putfield 69, 3) := by decide +kernel
theorem dX10_init_172 : decode cX10_init 172 = .ok (.aload_n 0, 1) := by decide +kernel
theorem dX10_init_173 : decode cX10_init 173 = .ok (.bipush 8, 2) := by decide +kernel
theorem dX10_init_175 : decode cX10_init 175 = .ok (.newarray .long, 2) := by decide +kernel
theorem dX10_init_177 : decode cX10_init 177 = .ok (.putfield 73, 3) := by decide +kernel
theorem dX10_init_180 : decode cX10_init 180 = .ok (.aload_n 0, 1) := by decide +kernel
theorem dX10_init_181 : decode cX10_init 181 = .ok (.sipush 700, 3) := by decide +kernel
theorem dX10_init_184 : decode cX10_init 184 = .ok (.newarray .long, 2) := by decide +kernel
theorem dX10_init_186 : decode cX10_init 186 = .ok (.putfield 76, 3) := by decide +kernel
theorem dX10_init_189 : decode cX10_init 189 = .ok (.aload_n 0, 1) := by decide +kernel
theorem dX10_init_190 : decode cX10_init 190 = .ok (.bipush 31, 2) := by decide +kernel
theorem dX10_init_192 : decode cX10_init 192 = .ok (.newarray .int, 2) := by decide +kernel
theorem dX10_init_194 : decode cX10_init 194 = .ok (.putfield 79, 3) := by decide +kernel
theorem dX10_init_197 : decode cX10_init 197 = .ok (.aload_n 0, 1) := by decide +kernel
theorem dX10_init_198 : decode cX10_init 198 = .ok (.bipush 31, 2) := by decide +kernel
theorem dX10_init_200 : decode cX10_init 200 = .ok (.newarray .int, 2) := by decide +kernel
theorem dX10_init_202 : decode cX10_init 202 = .ok (.putfield 82, 3) := by decide +kernel
theorem dX10_init_205 : decode cX10_init 205 = .ok (.aload_n 0, 1) := by decide +kernel
theorem dX10_init_206 : decode cX10_init 206 = .ok (.bipush 31, 2) := by decide +kernel
theorem dX10_init_208 : decode cX10_init 208 = .ok (.newarray .int, 2) := by decide +kernel
theorem dX10_init_210 : decode cX10_init 210 = .ok (.putfield 85, 3) := by decide +kernel
theorem dX10_init_213 : decode cX10_init 213 = .ok (.aload_n 0, 1) := by decide +kernel
theorem dX10_init_214 : decode cX10_init 214 = .ok (.iconst 2, 1) := by decide +kernel
theorem dX10_init_215 : decode cX10_init 215 = .ok (.putfield 88, 3) := by decide +kernel
theorem dX10_init_218 : decode cX10_init 218 = .ok (.aload_n 0, 1) := by decide +kernel
theorem dX10_init_219 : decode cX10_init 219 = .ok (.iconst (-1), 1) := by decide +kernel
theorem dX10_init_220 : decode cX10_init 220 = .ok (.putfield 91, 3) := by decide +kernel
theorem dX10_init_223 : decode cX10_init 223 = .ok (.aload_n 0, 1) := by decide +kernel
theorem dX10_init_224 : decode cX10_init 224 = .ok (.bipush 40, 2) := by decide +kernel
theorem dX10_init_226 : decode cX10_init 226 = .ok (.newarray .int, 2) := by decide +kernel
theorem dX10_init_228 : decode cX10_init 228 = .ok (.putfield 94, 3) := by decide +kernel
theorem dX10_init_231 : decode cX10_init 231 = .ok (.aload_n 0, 1) := by decide +kernel
theorem dX10_init_232 : decode cX10_init 232 = .ok (.bipush 40, 2) := by decide +kernel
theorem dX10_init_234 : decode cX10_init 234 = .ok (.newarray .boolean, 2) := by decide +kernel
theorem dX10_init_236 : decode cX10_init 236 = .ok (.putfield 97, 3) := by decide +kernel
theorem dX10_init_239 : decode cX10_init 239 = .ok (.aload_n 0, 1) := by decide +kernel
theorem dX10_init_240 : decode cX10_init 240 = .ok (.bipush 8, 2) := by decide +kernel
theorem dX10_init_242 : decode cX10_init 242 = .ok (.newarray .long, 2) := by decide +kernel
theorem dX10_init_244 : decode cX10_init 244 = .ok (.putfield 100, 3) := by decide +kernel
theorem dX10_init_247 : decode cX10_init 247 = .ok (.iconst 0, 1) := by decide +kernel
theorem dX10_init_248 : decode cX10_init 248 = .ok (.istore_n 1, 1) := by decide +kernel
theorem dX10_init_249 : decode cX10_init 249 = .ok (.iload_n 1, 1) := by decide +kernel
theorem dX10_init_250 : decode cX10_init 250 = .ok (.bipush 30, 2) := by decide +kernel
theorem dX10_init_252 : decode cX10_init 252 = .ok (.if_icmp .ge 16, 3) := by decide +kernel
theorem dX10_init_255 : decode cX10_init 255 = .ok (.aload_n 0, 1) := by decide +kernel
theorem dX10_init_256 : decode cX10_init 256 = .ok (.getfield 59, 3) := by decide +kernel
theorem dX10_init_259 : decode cX10_init 259 = .ok (.iload_n 1, 1) := by decide +kernel
theorem dX10_init_260 : decode cX10_init 260 = .ok (.iconst (-1), 1) := by decide +kernel
theorem dX10_init_261 : decode cX10_init 261 = .ok (.iastore, 1) := by decide +kernel
theorem dX10_init_262 : decode cX10_init 262 = .ok (.iinc 1 1, 3) := by decide +kernel
theorem dX10_init_265 : decode cX10_init 265 = .ok (.goto (-16), 3) := by decide +kernel
theorem dX10_init_268 : decode cX10_init 268 = .ok (.return_, 1) := by decide +kernel
theorem dX10_within_0 : decode cX10_within 0 = .ok (.iload_n 0, 1) := by decide +kernel
theorem dX10_within_1 : decode cX10_within 1 = .ok (.ifCond .lt 12, 3) := by decide +kernel
theorem dX10_within_4 : decode cX10_within 4 = .ok (.iload_n 0, 1) := by decide +kernel
theorem dX10_within_5 : decode cX10_within 5 = .ok (.iload_n 1, 1) := by decide +kernel
theorem dX10_within_6 : decode cX10_within 6 = .ok (.if_icmp .gt 7, 3) := by decide +kernel
theorem dX10_within_9 : decode cX10_within 9 = .ok (.iconst 1, 1) := by decide +kernel
theorem dX10_within_10 : decode cX10_within 10 = .ok (.goto 4, 3) := by decide +kernel
theorem dX10_within_13 : decode cX10_within 13 = .ok (.iconst 0, 1) := by decide +kernel
theorem dX10_within_14 : decode cX10_within 14 = .ok (.ireturn, 1) := by decide +kernel
theorem dX10_function_0 : decode cX10_function 0 = .ok (.aload_n 0, 1) := by decide +kernel
theorem dX10_function_1 : decode cX10_function 1 = .ok (.getfield 103, 3) := by decide +kernel
theorem dX10_function_4 : decode cX10_function 4 = .ok (.ifCond .ne 39, 3) := by decide +kernel
theorem dX10_function_7 : decode cX10_function 7 = .ok (.aload_n 0, 1) := by decide +kernel
theorem dX10_function_8 : decode cX10_function 8 = .ok (.getfield 107, 3) := by decide +kernel
theorem dX10_function_11 : decode cX10_function 11 = .ok (.bipush 40, 2) := by decide +kernel
theorem dX10_function_13 : decode cX10_function 13 = .ok (.if_icmp .eq 30, 3) := by decide +kernel
theorem dX10_function_16 : decode cX10_function 16 = .ok (.iload_n 1, 1) := by decide +kernel
theorem dX10_function_17 : decode cX10_function 17 = .ok (.bipush 8, 2) := by decide +kernel
theorem dX10_function_19 : decode cX10_function 19 = .ok (.invokestatic 110, 3) := by decide +kernel
theorem dX10_function_22 : decode cX10_function 22 = .ok (.ifCond .eq 21, 3) := by decide +kernel
theorem dX10_function_25 : decode cX10_function 25 = .ok (.iload_n 2, 1) := by decide +kernel
theorem dX10_function_26 : decode cX10_function 26 = .ok (.bipush 8, 2) := by decide +kernel
theorem dX10_function_28 : decode cX10_function 28 = .ok (.invokestatic 110, 3) := by decide +kernel
theorem dX10_function_31 : decode cX10_function 31 = .ok (.ifCond .eq 12, 3) := by decide +kernel
theorem dX10_function_34 : decode cX10_function 34 = .ok (.iload_n 3, 1) := by decide +kernel
theorem dX10_function_35 : decode cX10_function 35 = .ok (.bipush 8, 2) := by decide +kernel
theorem dX10_function_37 : decode cX10_function 37 = .ok (.invokestatic 110, 3) := by decide +kernel
theorem dX10_function_40 : decode cX10_function 40 = .ok (.ifCond .ne 5, 3) := by decide +kernel
theorem dX10_function_43 : decode cX10_function 43 = .ok (.iconst (-1), 1) := by decide +kernel
theorem dX10_function_44 : decode cX10_function 44 = .ok (.ireturn, 1) := by decide +kernel
theorem dX10_function_45 : decode cX10_function 45 = .ok (.aload_n 0, 1) := by decide +kernel
theorem dX10_function_46 : decode cX10_function 46 = .ok (.getfield 7, 3) := by decide +kernel
theorem dX10_function_49 : decode cX10_function 49 = .ok (.aload_n 0, 1) := by decide +kernel
theorem dX10_function_50 : decode cX10_function 50 = .ok (.getfield 107, 3) := by decide +kernel
theorem dX10_function_53 : decode cX10_function 53 = .ok (.aload_n 0, 1) := by decide +kernel
theorem dX10_function_54 : decode cX10_function 54 = .ok (.getfield 114, 3) := by decide +kernel
theorem dX10_function_57 : decode cX10_function 57 = .ok (.iastore, 1) := by decide +kernel
theorem dX10_function_58 : decode cX10_function 58 = .ok (.aload_n 0, 1) := by decide +kernel
theorem dX10_function_59 : decode cX10_function 59 = .ok (.getfield 13, 3) := by decide +kernel
theorem dX10_function_62 : decode cX10_function 62 = .ok (.aload_n 0, 1) := by decide +kernel
theorem dX10_function_63 : decode cX10_function 63 = .ok (.getfield 107, 3) := by decide +kernel
theorem dX10_function_66 : decode cX10_function 66 = .ok (.iconst 0, 1) := by decide +kernel
theorem dX10_function_67 : decode cX10_function 67 = .ok (.iastore, 1) := by decide +kernel
theorem dX10_function_68 : decode cX10_function 68 = .ok (.aload_n 0, 1) := by decide +kernel
theorem dX10_function_69 : decode cX10_function 69 = .ok (.getfield 16, 3) := by decide +kernel
theorem dX10_function_72 : decode cX10_function 72 = .ok (.aload_n 0, 1) := by decide +kernel
theorem dX10_function_73 : decode cX10_function 73 = .ok (.getfield 107, 3) := by decide +kernel
theorem dX10_function_76 : decode cX10_function 76 = .ok (.iload_n 1, 1) := by decide +kernel
theorem dX10_function_77 : decode cX10_function 77 = .ok (.iastore, 1) := by decide +kernel
theorem dX10_function_78 : decode cX10_function 78 = .ok (.aload_n 0, 1) := by decide +kernel
theorem dX10_function_79 : decode cX10_function 79 = .ok (.getfield 19, 3) := by decide +kernel
theorem dX10_function_82 : decode cX10_function 82 = .ok (.aload_n 0, 1) := by decide +kernel
theorem dX10_function_83 : decode cX10_function 83 = .ok (.getfield 107, 3) := by decide +kernel
theorem dX10_function_86 : decode cX10_function 86 = .ok (.iload_n 2, 1) := by decide +kernel
theorem dX10_function_87 : decode cX10_function 87 = .ok (.iastore, 1) := by decide +kernel
theorem dX10_function_88 : decode cX10_function 88 = .ok (.aload_n 0, 1) := by decide +kernel
theorem dX10_function_89 : decode cX10_function 89 = .ok (.getfield 22, 3) := by decide +kernel
theorem dX10_function_92 : decode cX10_function 92 = .ok (.aload_n 0, 1) := by decide +kernel
theorem dX10_function_93 : decode cX10_function 93 = .ok (.getfield 107, 3) := by decide +kernel
theorem dX10_function_96 : decode cX10_function 96 = .ok (.iload_n 3, 1) := by decide +kernel
theorem dX10_function_97 : decode cX10_function 97 = .ok (.iastore, 1) := by decide +kernel
theorem dX10_function_98 : decode cX10_function 98 = .ok (.aload_n 0, 1) := by decide +kernel
theorem dX10_function_99 : decode cX10_function 99 = .ok (.getfield 25, 3) := by decide +kernel
theorem dX10_function_102 : decode cX10_function 102 = .ok (.aload_n 0, 1) := by decide +kernel
theorem dX10_function_103 : decode cX10_function 103 = .ok (.getfield 107, 3) := by decide +kernel
theorem dX10_function_106 : decode cX10_function 106 = .ok (.iconst 0, 1) := by decide +kernel
theorem dX10_function_107 : decode cX10_function 107 = .ok (.iastore, 1) := by decide +kernel
theorem dX10_function_108 : decode cX10_function 108 = .ok (.aload_n 0, 1) := by decide +kernel
theorem dX10_function_109 : decode cX10_function 109 = .ok (.getfield 94, 3) := by decide +kernel
theorem dX10_function_112 : decode cX10_function 112 = .ok (.aload_n 0, 1) := by decide +kernel
theorem dX10_function_113 : decode cX10_function 113 = .ok (.getfield 107, 3) := by decide +kernel
theorem dX10_function_116 : decode cX10_function 116 = .ok (.iconst 0, 1) := by decide +kernel
theorem dX10_function_117 : decode cX10_function 117 = .ok (.iastore, 1) := by decide +kernel
theorem dX10_function_118 : decode cX10_function 118 = .ok (.aload_n 0, 1) := by decide +kernel
theorem dX10_function_119 : decode cX10_function 119 = .ok (.getfield 97, 3) := by decide +kernel
theorem dX10_function_122 : decode cX10_function 122 = .ok (.aload_n 0, 1) := by decide +kernel
theorem dX10_function_123 : decode cX10_function 123 = .ok (.getfield 107, 3) := by decide +kernel
theorem dX10_function_126 : decode cX10_function 126 = .ok (.iconst 0, 1) := by decide +kernel
theorem dX10_function_127 : decode cX10_function 127 = .ok (.bastore, 1) := by decide +kernel
theorem dX10_function_128 : decode cX10_function 128 = .ok (.aload_n 0, 1) := by decide +kernel
theorem dX10_function_129 : decode cX10_function 129 = .ok (.dup, 1) := by decide +kernel
theorem dX10_function_130 : decode cX10_function 130 = .ok (.getfield 107, 3) := by decide +kernel
theorem dX10_function_133 : decode cX10_function 133 = .ok (.iconst 1, 1) := by decide +kernel
theorem dX10_function_134 : decode cX10_function 134 = .ok (.iadd, 1) := by decide +kernel
theorem dX10_function_135 : decode cX10_function 135 = .ok (.putfield 107, 3) := by decide +kernel
theorem dX10_function_138 : decode cX10_function 138 = .ok (.aload_n 0, 1) := by decide +kernel
theorem dX10_function_139 : decode cX10_function 139 = .ok (.iconst 1, 1) := by decide +kernel
theorem dX10_function_140 : decode cX10_function 140 = .ok (.putfield 103, 3) := by decide +kernel
theorem dX10_function_143 : decode cX10_function 143 = .ok (.aload_n 0, 1) := by decide +kernel
theorem dX10_function_144 : decode cX10_function 144 = .ok (.iconst 0, 1) := by decide +kernel
theorem dX10_function_145 : decode cX10_function 145 = .ok (.putfield 117, 3) := by decide +kernel
theorem dX10_function_148 : decode cX10_function 148 = .ok (.aload_n 0, 1) := by decide +kernel
theorem dX10_function_149 : decode cX10_function 149 = .ok (.iconst 0, 1) := by decide +kernel
theorem dX10_function_150 : decode cX10_function 150 = .ok (.putfield 120, 3) := by decide +kernel
theorem dX10_function_153 : decode cX10_function 153 = .ok (.aload_n 0, 1) := by decide +kernel
theorem dX10_function_154 : decode cX10_function 154 = .ok (.iconst 0, 1) := by decide +kernel
theorem dX10_function_155 : decode cX10_function 155 = .ok (.iconst 0, 1) := by decide +kernel
theorem dX10_function_156 : decode cX10_function 156 = .ok (.iload_n 2, 1) := by decide +kernel
theorem dX10_function_157 : decode cX10_function 157 = .ok (.invokevirtual 123, 3) := by decide +kernel
theorem dX10_function_160 : decode cX10_function 160 = .ok (.aload_n 0, 1) := by decide +kernel
theorem dX10_function_161 : decode cX10_function 161 = .ok (.getfield 107, 3) := by decide +kernel
theorem dX10_function_164 : decode cX10_function 164 = .ok (.iconst 1, 1) := by decide +kernel
theorem dX10_function_165 : decode cX10_function 165 = .ok (.isub, 1) := by decide +kernel
theorem dX10_function_166 : decode cX10_function 166 = .ok (.ireturn, 1) := by decide +kernel
theorem dX10_begin_0 : decode cX10_begin 0 = .ok (.aload_n 0, 1) := by decide +kernel
theorem dX10_begin_1 : decode cX10_begin 1 = .ok (.getfield 117, 3) := by decide +kernel
theorem dX10_begin_4 : decode cX10_begin 4 = .ok (.ifCond .ne 7, 3) := by decide +kernel
theorem dX10_begin_7 : decode cX10_begin 7 = .ok (.iconst 0, 1) := by decide +kernel
theorem dX10_begin_8 : decode cX10_begin 8 = .ok (.goto 26, 3) := by decide +kernel
theorem dX10_begin_11 : decode cX10_begin 11 = .ok (.aload_n 0, 1) := by decide +kernel
theorem dX10_begin_12 : decode cX10_begin 12 = .ok (.getfield 49, 3) := by decide +kernel
theorem dX10_begin_15 : decode cX10_begin 15 = .ok (.aload_n 0, 1) := by decide +kernel
theorem dX10_begin_16 : decode cX10_begin 16 = .ok (.getfield 117, 3) := by decide +kernel
theorem dX10_begin_19 : decode cX10_begin 19 = .ok (.iconst 1, 1) := by decide +kernel
theorem dX10_begin_20 : decode cX10_begin 20 = .ok (.isub, 1) := by decide +kernel
theorem dX10_begin_21 : decode cX10_begin 21 = .ok (.iaload, 1) := by decide +kernel
theorem dX10_begin_22 : decode cX10_begin 22 = .ok (.aload_n 0, 1) := by decide +kernel
theorem dX10_begin_23 : decode cX10_begin 23 = .ok (.getfield 52, 3) := by decide +kernel
theorem dX10_begin_26 : decode cX10_begin 26 = .ok (.aload_n 0, 1) := by decide +kernel
theorem dX10_begin_27 : decode cX10_begin 27 = .ok (.getfield 117, 3) := by decide +kernel
theorem dX10_begin_30 : decode cX10_begin 30 = .ok (.iconst 1, 1) := by decide +kernel
theorem dX10_begin_31 : decode cX10_begin 31 = .ok (.isub, 1) := by decide +kernel
theorem dX10_begin_32 : decode cX10_begin 32 = .ok (.iaload, 1) := by decide +kernel
theorem dX10_begin_33 : decode cX10_begin 33 = .ok (.iadd, 1) := by decide +kernel
theorem dX10_begin_34 : decode cX10_begin 34 = .ok (.istore 4, 2) := by decide +kernel
theorem dX10_begin_36 : decode cX10_begin 36 = .ok (.aload_n 0, 1) := by decide +kernel
theorem dX10_begin_37 : decode cX10_begin 37 = .ok (.getfield 40, 3) := by decide +kernel
theorem dX10_begin_40 : decode cX10_begin 40 = .ok (.aload_n 0, 1) := by decide +kernel
theorem dX10_begin_41 : decode cX10_begin 41 = .ok (.getfield 117, 3) := by decide +kernel
theorem dX10_begin_44 : decode cX10_begin 44 = .ok (.iload_n 1, 1) := by decide +kernel
theorem dX10_begin_45 : decode cX10_begin 45 = .ok (.iastore, 1) := by decide +kernel
theorem dX10_begin_46 : decode cX10_begin 46 = .ok (.aload_n 0, 1) := by decide +kernel
theorem dX10_begin_47 : decode cX10_begin 47 = .ok (.getfield 43, 3) := by decide +kernel
theorem dX10_begin_50 : decode cX10_begin 50 = .ok (.aload_n 0, 1) := by decide +kernel
theorem dX10_begin_51 : decode cX10_begin 51 = .ok (.getfield 117, 3) := by decide +kernel
theorem dX10_begin_54 : decode cX10_begin 54 = .ok (.iload_n 2, 1) := by decide +kernel
theorem dX10_begin_55 : decode cX10_begin 55 = .ok (.iastore, 1) := by decide +kernel
theorem dX10_begin_56 : decode cX10_begin 56 = .ok (.aload_n 0, 1) := by decide +kernel
theorem dX10_begin_57 : decode cX10_begin 57 = .ok (.getfield 46, 3) := by decide +kernel
theorem dX10_begin_60 : decode cX10_begin 60 = .ok (.aload_n 0, 1) := by decide +kernel
theorem dX10_begin_61 : decode cX10_begin 61 = .ok (.getfield 117, 3) := by decide +kernel
theorem dX10_begin_64 : decode cX10_begin 64 = .ok (.iload_n 3, 1) := by decide +kernel
theorem dX10_begin_65 : decode cX10_begin 65 = .ok (.iastore, 1) := by decide +kernel
theorem dX10_begin_66 : decode cX10_begin 66 = .ok (.aload_n 0, 1) := by decide +kernel
theorem dX10_begin_67 : decode cX10_begin 67 = .ok (.getfield 49, 3) := by decide +kernel
theorem dX10_begin_70 : decode cX10_begin 70 = .ok (.aload_n 0, 1) := by decide +kernel
theorem dX10_begin_71 : decode cX10_begin 71 = .ok (.getfield 117, 3) := by decide +kernel
theorem dX10_begin_74 : decode cX10_begin 74 = .ok (.iload 4, 2) := by decide +kernel
theorem dX10_begin_76 : decode cX10_begin 76 = .ok (.iastore, 1) := by decide +kernel
theorem dX10_begin_77 : decode cX10_begin 77 = .ok (.aload_n 0, 1) := by decide +kernel
theorem dX10_begin_78 : decode cX10_begin 78 = .ok (.getfield 52, 3) := by decide +kernel
theorem dX10_begin_81 : decode cX10_begin 81 = .ok (.aload_n 0, 1) := by decide +kernel
theorem dX10_begin_82 : decode cX10_begin 82 = .ok (.getfield 117, 3) := by decide +kernel
theorem dX10_begin_85 : decode cX10_begin 85 = .ok (.iload_n 2, 1) := by decide +kernel
theorem dX10_begin_86 : decode cX10_begin 86 = .ok (.iastore, 1) := by decide +kernel
theorem dX10_begin_87 : decode cX10_begin 87 = .ok (.aload_n 0, 1) := by decide +kernel
theorem dX10_begin_88 : decode cX10_begin 88 = .ok (.getfield 55, 3) := by decide +kernel
theorem dX10_begin_91 : decode cX10_begin 91 = .ok (.aload_n 0, 1) := by decide +kernel
theorem dX10_begin_92 : decode cX10_begin 92 = .ok (.getfield 117, 3) := by decide +kernel
theorem dX10_begin_95 : decode cX10_begin 95 = .ok (.iconst 0, 1) := by decide +kernel
theorem dX10_begin_96 : decode cX10_begin 96 = .ok (.bastore, 1) := by decide +kernel
theorem dX10_begin_97 : decode cX10_begin 97 = .ok (.aload_n 0, 1) := by decide +kernel
theorem dX10_begin_98 : decode cX10_begin 98 = .ok (.dup, 1) := by decide +kernel
theorem dX10_begin_99 : decode cX10_begin 99 = .ok (.getfield 117, 3) := by decide +kernel
theorem dX10_begin_102 : decode cX10_begin 102 = .ok (.iconst 1, 1) := by decide +kernel
theorem dX10_begin_103 : decode cX10_begin 103 = .ok (.iadd, 1) := by decide +kernel
theorem dX10_begin_104 : decode cX10_begin 104 = .ok (.putfield 117, 3) := by decide +kernel
theorem dX10_begin_107 : decode cX10_begin 107 = .ok (.return_, 1) := by decide +kernel
theorem dX10_inner_0 : decode cX10_inner 0 = .ok (.aload_n 0, 1) := by decide +kernel
theorem dX10_inner_1 : decode cX10_inner 1 = .ok (.getfield 117, 3) := by decide +kernel
theorem dX10_inner_4 : decode cX10_inner 4 = .ok (.iconst 1, 1) := by decide +kernel
theorem dX10_inner_5 : decode cX10_inner 5 = .ok (.isub, 1) := by decide +kernel
theorem dX10_inner_6 : decode cX10_inner 6 = .ok (.ireturn, 1) := by decide +kernel
theorem dX10_has_0 : decode cX10_has 0 = .ok (.aload_n 0, 1) := by decide +kernel
theorem dX10_has_1 : decode cX10_has 1 = .ok (.getfield 52, 3) := by decide +kernel
theorem dX10_has_4 : decode cX10_has 4 = .ok (.aload_n 0, 1) := by decide +kernel
theorem dX10_has_5 : decode cX10_has 5 = .ok (.invokevirtual 127, 3) := by decide +kernel
theorem dX10_has_8 : decode cX10_has 8 = .ok (.iaload, 1) := by decide +kernel
theorem dX10_has_9 : decode cX10_has 9 = .ok (.iload_n 1, 1) := by decide +kernel
theorem dX10_has_10 : decode cX10_has 10 = .ok (.if_icmp .ge 15, 3) := by decide +kernel
theorem dX10_has_13 : decode cX10_has 13 = .ok (.aload_n 0, 1) := by decide +kernel
theorem dX10_has_14 : decode cX10_has 14 = .ok (.getfield 55, 3) := by decide +kernel
theorem dX10_has_17 : decode cX10_has 17 = .ok (.aload_n 0, 1) := by decide +kernel
theorem dX10_has_18 : decode cX10_has 18 = .ok (.invokevirtual 127, 3) := by decide +kernel
theorem dX10_has_21 : decode cX10_has 21 = .ok (.baload, 1) := by decide +kernel
theorem dX10_has_22 : decode cX10_has 22 = .ok (.ifCond .eq 7, 3) := by decide +kernel
theorem dX10_has_25 : decode cX10_has 25 = .ok (.iconst 1, 1) := by decide +kernel
theorem dX10_has_26 : decode cX10_has 26 = .ok (.goto 4, 3) := by decide +kernel
theorem dX10_has_29 : decode cX10_has 29 = .ok (.iconst 0, 1) := by decide +kernel
theorem dX10_has_30 : decode cX10_has 30 = .ok (.ireturn, 1) := by decide +kernel
theorem dX10_take_0 : decode cX10_take 0 = .ok (.aload_n 0, 1) := by decide +kernel
theorem dX10_take_1 : decode cX10_take 1 = .ok (.getfield 52, 3) := by decide +kernel
theorem dX10_take_4 : decode cX10_take 4 = .ok (.aload_n 0, 1) := by decide +kernel
theorem dX10_take_5 : decode cX10_take 5 = .ok (.invokevirtual 127, 3) := by decide +kernel
theorem dX10_take_8 : decode cX10_take 8 = .ok (.aload_n 0, 1) := by decide +kernel
theorem dX10_take_9 : decode cX10_take 9 = .ok (.getfield 52, 3) := by decide +kernel
theorem dX10_take_12 : decode cX10_take 12 = .ok (.aload_n 0, 1) := by decide +kernel
theorem dX10_take_13 : decode cX10_take 13 = .ok (.invokevirtual 127, 3) := by decide +kernel
theorem dX10_take_16 : decode cX10_take 16 = .ok (.iaload, 1) := by decide +kernel
theorem dX10_take_17 : decode cX10_take 17 = .ok (.iload_n 1, 1) := by decide +kernel
theorem dX10_take_18 : decode cX10_take 18 = .ok (.if_icmp .le 17, 3) := by decide +kernel
theorem dX10_take_21 : decode cX10_take 21 = .ok (.aload_n 0, 1) := by decide +kernel
theorem dX10_take_22 : decode cX10_take 22 = .ok (.getfield 52, 3) := by decide +kernel
theorem dX10_take_25 : decode cX10_take 25 = .ok (.aload_n 0, 1) := by decide +kernel
theorem dX10_take_26 : decode cX10_take 26 = .ok (.invokevirtual 127, 3) := by decide +kernel
theorem dX10_take_29 : decode cX10_take 29 = .ok (.iaload, 1) := by decide +kernel
theorem dX10_take_30 : decode cX10_take 30 = .ok (.iload_n 1, 1) := by decide +kernel
theorem dX10_take_31 : decode cX10_take 31 = .ok (.isub, 1) := by decide +kernel
theorem dX10_take_32 : decode cX10_take 32 = .ok (.goto 4, 3) := by decide +kernel
theorem dX10_take_35 : decode cX10_take 35 = .ok (.iconst 0, 1) := by decide +kernel
theorem dX10_take_36 : decode cX10_take 36 = .ok (.iastore, 1) := by decide +kernel
theorem dX10_take_37 : decode cX10_take 37 = .ok (.return_, 1) := by decide +kernel
theorem dX10_turn_0 : decode cX10_turn 0 = .ok (.aload_n 0, 1) := by decide +kernel
theorem dX10_turn_1 : decode cX10_turn 1 = .ok (.iload_n 1, 1) := by decide +kernel
theorem dX10_turn_2 : decode cX10_turn 2 = .ok (.invokevirtual 131, 3) := by decide +kernel
theorem dX10_turn_5 : decode cX10_turn 5 = .ok (.ifCond .ne 5, 3) := by decide +kernel
theorem dX10_turn_8 : decode cX10_turn 8 = .ok (.iconst 0, 1) := by decide +kernel
theorem dX10_turn_9 : decode cX10_turn 9 = .ok (.ireturn, 1) := by decide +kernel
theorem dX10_turn_10 : decode cX10_turn 10 = .ok (.aload_n 0, 1) := by decide +kernel
theorem dX10_turn_11 : decode cX10_turn 11 = .ok (.iload_n 1, 1) := by decide +kernel
theorem dX10_turn_12 : decode cX10_turn 12 = .ok (.invokevirtual 135, 3) := by decide +kernel
theorem dX10_turn_15 : decode cX10_turn 15 = .ok (.aload_n 0, 1) := by decide +kernel
theorem dX10_turn_16 : decode cX10_turn 16 = .ok (.getfield 52, 3) := by decide +kernel
theorem dX10_turn_19 : decode cX10_turn 19 = .ok (.aload_n 0, 1) := by decide +kernel
theorem dX10_turn_20 : decode cX10_turn 20 = .ok (.invokevirtual 127, 3) := by decide +kernel
theorem dX10_turn_23 : decode cX10_turn 23 = .ok (.dup2, 1) := by decide +kernel
theorem dX10_turn_24 : decode cX10_turn 24 = .ok (.iaload, 1) := by decide +kernel
theorem dX10_turn_25 : decode cX10_turn 25 = .ok (.iload_n 2, 1) := by decide +kernel
theorem dX10_turn_26 : decode cX10_turn 26 = .ok (.iadd, 1) := by decide +kernel
theorem dX10_turn_27 : decode cX10_turn 27 = .ok (.iastore, 1) := by decide +kernel
theorem dX10_turn_28 : decode cX10_turn 28 = .ok (.iconst 1, 1) := by decide +kernel
theorem dX10_turn_29 : decode cX10_turn 29 = .ok (.ireturn, 1) := by decide +kernel
theorem dX10_die_0 : decode cX10_die 0 = .ok (.aload_n 0, 1) := by decide +kernel
theorem dX10_die_1 : decode cX10_die 1 = .ok (.getfield 52, 3) := by decide +kernel
theorem dX10_die_4 : decode cX10_die 4 = .ok (.aload_n 0, 1) := by decide +kernel
theorem dX10_die_5 : decode cX10_die 5 = .ok (.invokevirtual 127, 3) := by decide +kernel
theorem dX10_die_8 : decode cX10_die 8 = .ok (.iconst 0, 1) := by decide +kernel
theorem dX10_die_9 : decode cX10_die 9 = .ok (.iastore, 1) := by decide +kernel
theorem dX10_die_10 : decode cX10_die 10 = .ok (.aload_n 0, 1) := by decide +kernel
theorem dX10_die_11 : decode cX10_die 11 = .ok (.getfield 55, 3) := by decide +kernel
theorem dX10_die_14 : decode cX10_die 14 = .ok (.aload_n 0, 1) := by decide +kernel
theorem dX10_die_15 : decode cX10_die 15 = .ok (.invokevirtual 127, 3) := by decide +kernel
theorem dX10_die_18 : decode cX10_die 18 = .ok (.iconst 1, 1) := by decide +kernel
theorem dX10_die_19 : decode cX10_die 19 = .ok (.bastore, 1) := by decide +kernel
theorem dX10_die_20 : decode cX10_die 20 = .ok (.return_, 1) := by decide +kernel
theorem dX10_ends_0 : decode cX10_ends 0 = .ok (.aload_n 0, 1) := by decide +kernel
theorem dX10_ends_1 : decode cX10_ends 1 = .ok (.iload_n 1, 1) := by decide +kernel
theorem dX10_ends_2 : decode cX10_ends 2 = .ok (.invokevirtual 131, 3) := by decide +kernel
theorem dX10_ends_5 : decode cX10_ends 5 = .ok (.ifCond .ne 5, 3) := by decide +kernel
theorem dX10_ends_8 : decode cX10_ends 8 = .ok (.iconst 0, 1) := by decide +kernel
theorem dX10_ends_9 : decode cX10_ends 9 = .ok (.ireturn, 1) := by decide +kernel
theorem dX10_ends_10 : decode cX10_ends 10 = .ok (.aload_n 0, 1) := by decide +kernel
theorem dX10_ends_11 : decode cX10_ends 11 = .ok (.invokevirtual 139, 3) := by decide +kernel
theorem dX10_ends_14 : decode cX10_ends 14 = .ok (.iconst 1, 1) := by decide +kernel
theorem dX10_ends_15 : decode cX10_ends 15 = .ok (.ireturn, 1) := by decide +kernel
theorem dX10_isLabel_0 : decode cX10_isLabel 0 = .ok (.iload_n 1, 1) := by decide +kernel
theorem dX10_isLabel_1 : decode cX10_isLabel 1 = .ok (.aload_n 0, 1) := by decide +kernel
theorem dX10_isLabel_2 : decode cX10_isLabel 2 = .ok (.getfield 117, 3) := by decide +kernel
theorem dX10_isLabel_5 : decode cX10_isLabel 5 = .ok (.iconst 1, 1) := by decide +kernel
theorem dX10_isLabel_6 : decode cX10_isLabel 6 = .ok (.isub, 1) := by decide +kernel
theorem dX10_isLabel_7 : decode cX10_isLabel 7 = .ok (.invokestatic 110, 3) := by decide +kernel
theorem dX10_isLabel_10 : decode cX10_isLabel 10 = .ok (.ireturn, 1) := by decide +kernel
theorem dX10_wants_0 : decode cX10_wants 0 = .ok (.aload_n 0, 1) := by decide +kernel
theorem dX10_wants_1 : decode cX10_wants 1 = .ok (.getfield 40, 3) := by decide +kernel
theorem dX10_wants_4 : decode cX10_wants 4 = .ok (.aload_n 0, 1) := by decide +kernel
theorem dX10_wants_5 : decode cX10_wants 5 = .ok (.invokevirtual 127, 3) := by decide +kernel
theorem dX10_wants_8 : decode cX10_wants 8 = .ok (.iload_n 1, 1) := by decide +kernel
theorem dX10_wants_9 : decode cX10_wants 9 = .ok (.isub, 1) := by decide +kernel
theorem dX10_wants_10 : decode cX10_wants 10 = .ok (.iaload, 1) := by decide +kernel
theorem dX10_wants_11 : decode cX10_wants 11 = .ok (.iconst 3, 1) := by decide +kernel
theorem dX10_wants_12 : decode cX10_wants 12 = .ok (.if_icmp .ne 17, 3) := by decide +kernel
theorem dX10_wants_15 : decode cX10_wants 15 = .ok (.aload_n 0, 1) := by decide +kernel
theorem dX10_wants_16 : decode cX10_wants 16 = .ok (.getfield 43, 3) := by decide +kernel
theorem dX10_wants_19 : decode cX10_wants 19 = .ok (.aload_n 0, 1) := by decide +kernel
theorem dX10_wants_20 : decode cX10_wants 20 = .ok (.invokevirtual 127, 3) := by decide +kernel
theorem dX10_wants_23 : decode cX10_wants 23 = .ok (.iload_n 1, 1) := by decide +kernel
theorem dX10_wants_24 : decode cX10_wants 24 = .ok (.isub, 1) := by decide +kernel
theorem dX10_wants_25 : decode cX10_wants 25 = .ok (.iaload, 1) := by decide +kernel
theorem dX10_wants_26 : decode cX10_wants 26 = .ok (.goto 14, 3) := by decide +kernel
theorem dX10_wants_29 : decode cX10_wants 29 = .ok (.aload_n 0, 1) := by decide +kernel
theorem dX10_wants_30 : decode cX10_wants 30 = .ok (.getfield 46, 3) := by decide +kernel
theorem dX10_wants_33 : decode cX10_wants 33 = .ok (.aload_n 0, 1) := by decide +kernel
theorem dX10_wants_34 : decode cX10_wants 34 = .ok (.invokevirtual 127, 3) := by decide +kernel
theorem dX10_wants_37 : decode cX10_wants 37 = .ok (.iload_n 1, 1) := by decide +kernel
theorem dX10_wants_38 : decode cX10_wants 38 = .ok (.isub, 1) := by decide +kernel
theorem dX10_wants_39 : decode cX10_wants 39 = .ok (.iaload, 1) := by decide +kernel
theorem dX10_wants_40 : decode cX10_wants 40 = .ok (.ireturn, 1) := by decide +kernel
theorem dX10_isDone_0 : decode cX10_isDone 0 = .ok (.aload_n 0, 1) := by decide +kernel
theorem dX10_isDone_1 : decode cX10_isDone 1 = .ok (.getfield 52, 3) := by decide +kernel
theorem dX10_isDone_4 : decode cX10_isDone 4 = .ok (.aload_n 0, 1) := by decide +kernel
theorem dX10_isDone_5 : decode cX10_isDone 5 = .ok (.invokevirtual 127, 3) := by decide +kernel
theorem dX10_isDone_8 : decode cX10_isDone 8 = .ok (.iaload, 1) := by decide +kernel
theorem dX10_isDone_9 : decode cX10_isDone 9 = .ok (.aload_n 0, 1) := by decide +kernel
theorem dX10_isDone_10 : decode cX10_isDone 10 = .ok (.getfield 46, 3) := by decide +kernel
theorem dX10_isDone_13 : decode cX10_isDone 13 = .ok (.aload_n 0, 1) := by decide +kernel
theorem dX10_isDone_14 : decode cX10_isDone 14 = .ok (.invokevirtual 127, 3) := by decide +kernel
theorem dX10_isDone_17 : decode cX10_isDone 17 = .ok (.iaload, 1) := by decide +kernel
theorem dX10_isDone_18 : decode cX10_isDone 18 = .ok (.if_icmp .eq 36, 3) := by decide +kernel
theorem dX10_isDone_21 : decode cX10_isDone 21 = .ok (.aload_n 0, 1) := by decide +kernel
theorem dX10_isDone_22 : decode cX10_isDone 22 = .ok (.getfield 55, 3) := by decide +kernel
theorem dX10_isDone_25 : decode cX10_isDone 25 = .ok (.aload_n 0, 1) := by decide +kernel
theorem dX10_isDone_26 : decode cX10_isDone 26 = .ok (.invokevirtual 127, 3) := by decide +kernel
theorem dX10_isDone_29 : decode cX10_isDone 29 = .ok (.baload, 1) := by decide +kernel
theorem dX10_isDone_30 : decode cX10_isDone 30 = .ok (.ifCond .eq 28, 3) := by decide +kernel
theorem dX10_isDone_33 : decode cX10_isDone 33 = .ok (.aload_n 0, 1) := by decide +kernel
theorem dX10_isDone_34 : decode cX10_isDone 34 = .ok (.getfield 52, 3) := by decide +kernel
theorem dX10_isDone_37 : decode cX10_isDone 37 = .ok (.aload_n 0, 1) := by decide +kernel
theorem dX10_isDone_38 : decode cX10_isDone 38 = .ok (.invokevirtual 127, 3) := by decide +kernel
theorem dX10_isDone_41 : decode cX10_isDone 41 = .ok (.iaload, 1) := by decide +kernel
theorem dX10_isDone_42 : decode cX10_isDone 42 = .ok (.aload_n 0, 1) := by decide +kernel
theorem dX10_isDone_43 : decode cX10_isDone 43 = .ok (.getfield 46, 3) := by decide +kernel
theorem dX10_isDone_46 : decode cX10_isDone 46 = .ok (.aload_n 0, 1) := by decide +kernel
theorem dX10_isDone_47 : decode cX10_isDone 47 = .ok (.invokevirtual 127, 3) := by decide +kernel
theorem dX10_isDone_50 : decode cX10_isDone 50 = .ok (.iaload, 1) := by decide +kernel
theorem dX10_isDone_51 : decode cX10_isDone 51 = .ok (.if_icmp .ge 7, 3) := by decide +kernel
theorem dX10_isDone_54 : decode cX10_isDone 54 = .ok (.iconst 1, 1) := by decide +kernel
theorem dX10_isDone_55 : decode cX10_isDone 55 = .ok (.goto 4, 3) := by decide +kernel
theorem dX10_isDone_58 : decode cX10_isDone 58 = .ok (.iconst 0, 1) := by decide +kernel
theorem dX10_isDone_59 : decode cX10_isDone 59 = .ok (.ireturn, 1) := by decide +kernel
theorem dX10_block_0 : decode cX10_block 0 = .ok (.iload_n 1, 1) := by decide +kernel
theorem dX10_block_1 : decode cX10_block 1 = .ok (.iconst 4, 1) := by decide +kernel
theorem dX10_block_2 : decode cX10_block 2 = .ok (.if_icmp .ne 9, 3) := by decide +kernel
theorem dX10_block_5 : decode cX10_block 5 = .ok (.iconst 1, 1) := by decide +kernel
theorem dX10_block_6 : decode cX10_block 6 = .ok (.iload_n 2, 1) := by decide +kernel
theorem dX10_block_7 : decode cX10_block 7 = .ok (.iadd, 1) := by decide +kernel
theorem dX10_block_8 : decode cX10_block 8 = .ok (.goto 4, 3) := by decide +kernel
theorem dX10_block_11 : decode cX10_block 11 = .ok (.iload_n 2, 1) := by decide +kernel
theorem dX10_block_12 : decode cX10_block 12 = .ok (.istore 4, 2) := by decide +kernel
theorem dX10_block_14 : decode cX10_block 14 = .ok (.iload_n 2, 1) := by decide +kernel
theorem dX10_block_15 : decode cX10_block 15 = .ok (.iconst 4, 1) := by decide +kernel
theorem dX10_block_16 : decode cX10_block 16 = .ok (.invokestatic 110, 3) := by decide +kernel
theorem dX10_block_19 : decode cX10_block 19 = .ok (.ifCond .eq 20, 3) := by decide +kernel
theorem dX10_block_22 : decode cX10_block 22 = .ok (.iload_n 3, 1) := by decide +kernel
theorem dX10_block_23 : decode cX10_block 23 = .ok (.iconst 4, 1) := by decide +kernel
theorem dX10_block_24 : decode cX10_block 24 = .ok (.invokestatic 110, 3) := by decide +kernel
theorem dX10_block_27 : decode cX10_block 27 = .ok (.ifCond .eq 12, 3) := by decide +kernel
theorem dX10_block_30 : decode cX10_block 30 = .ok (.aload_n 0, 1) := by decide +kernel
theorem dX10_block_31 : decode cX10_block 31 = .ok (.iload 4, 2) := by decide +kernel
theorem dX10_block_33 : decode cX10_block 33 = .ok (.invokevirtual 131, 3) := by decide +kernel
theorem dX10_block_36 : decode cX10_block 36 = .ok (.ifCond .ne 5, 3) := by decide +kernel
theorem dX10_block_39 : decode cX10_block 39 = .ok (.iconst 0, 1) := by decide +kernel
theorem dX10_block_40 : decode cX10_block 40 = .ok (.ireturn, 1) := by decide +kernel
theorem dX10_block_41 : decode cX10_block 41 = .ok (.aload_n 0, 1) := by decide +kernel
theorem dX10_block_42 : decode cX10_block 42 = .ok (.iload 4, 2) := by decide +kernel
theorem dX10_block_44 : decode cX10_block 44 = .ok (.invokevirtual 135, 3) := by decide +kernel
theorem dX10_block_47 : decode cX10_block 47 = .ok (.aload_n 0, 1) := by decide +kernel
theorem dX10_block_48 : decode cX10_block 48 = .ok (.iload_n 1, 1) := by decide +kernel
theorem dX10_block_49 : decode cX10_block 49 = .ok (.iload_n 2, 1) := by decide +kernel
theorem dX10_block_50 : decode cX10_block 50 = .ok (.iload_n 3, 1) := by decide +kernel
theorem dX10_block_51 : decode cX10_block 51 = .ok (.invokevirtual 123, 3) := by decide +kernel
theorem dX10_block_54 : decode cX10_block 54 = .ok (.aload_n 0, 1) := by decide +kernel
theorem dX10_block_55 : decode cX10_block 55 = .ok (.getfield 37, 3) := by decide +kernel
theorem dX10_block_58 : decode cX10_block 58 = .ok (.aload_n 0, 1) := by decide +kernel
theorem dX10_block_59 : decode cX10_block 59 = .ok (.getfield 114, 3) := by decide +kernel
theorem dX10_block_62 : decode cX10_block 62 = .ok (.aload_n 0, 1) := by decide +kernel
theorem dX10_block_63 : decode cX10_block 63 = .ok (.getfield 49, 3) := by decide +kernel
theorem dX10_block_66 : decode cX10_block 66 = .ok (.aload_n 0, 1) := by decide +kernel
theorem dX10_block_67 : decode cX10_block 67 = .ok (.invokevirtual 127, 3) := by decide +kernel
theorem dX10_block_70 : decode cX10_block 70 = .ok (.iaload, 1) := by decide +kernel
theorem dX10_block_71 : decode cX10_block 71 = .ok (.iastore, 1) := by decide +kernel
theorem dX10_block_72 : decode cX10_block 72 = .ok (.iconst 1, 1) := by decide +kernel
theorem dX10_block_73 : decode cX10_block 73 = .ok (.ireturn, 1) := by decide +kernel
theorem dX10_otherwise_0 : decode cX10_otherwise 0 = .ok (.aload_n 0, 1) := by decide +kernel
theorem dX10_otherwise_1 : decode cX10_otherwise 1 = .ok (.getfield 40, 3) := by decide +kernel
theorem dX10_otherwise_4 : decode cX10_otherwise 4 = .ok (.aload_n 0, 1) := by decide +kernel
theorem dX10_otherwise_5 : decode cX10_otherwise 5 = .ok (.invokevirtual 127, 3) := by decide +kernel
theorem dX10_otherwise_8 : decode cX10_otherwise 8 = .ok (.iaload, 1) := by decide +kernel
theorem dX10_otherwise_9 : decode cX10_otherwise 9 = .ok (.iconst 4, 1) := by decide +kernel
theorem dX10_otherwise_10 : decode cX10_otherwise 10 = .ok (.if_icmp .ne 10, 3) := by decide +kernel
theorem dX10_otherwise_13 : decode cX10_otherwise 13 = .ok (.aload_n 0, 1) := by decide +kernel
