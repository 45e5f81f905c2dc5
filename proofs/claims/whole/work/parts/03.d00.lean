theorem dX0_init_0 : decode cX0_init 0 = .ok (.aload_n 0, 1) := by decide +kernel
theorem dX0_init_1 : decode cX0_init 1 = .ok (.invokespecial 3, 3) := by decide +kernel
theorem dX0_init_4 : decode cX0_init 4 = .ok (.aload_n 0, 1) := by decide +kernel
theorem dX0_init_5 : decode cX0_init 5 = .ok (.bipush 30, 2) := by decide +kernel
theorem dX0_init_7 : decode cX0_init 7 = .ok (.newarray .int, 2) := by decide +kernel
theorem dX0_init_9 : decode cX0_init 9 = .ok (.putfield 9, 3) := by decide +kernel
theorem dX0_init_12 : decode cX0_init 12 = .ok (.aload_n 0, 1) := by decide +kernel
theorem dX0_init_13 : decode cX0_init 13 = .ok (.bipush 30, 2) := by decide +kernel
theorem dX0_init_15 : decode cX0_init 15 = .ok (.newarray .int, 2) := by decide +kernel
theorem dX0_init_17 : decode cX0_init 17 = .ok (.putfield 15, 3) := by decide +kernel
theorem dX0_init_20 : decode cX0_init 20 = .ok (.aload_n 0, 1) := by decide +kernel
theorem dX0_init_21 : decode cX0_init 21 = .ok (.bipush 30, 2) := by decide +kernel
theorem dX0_init_23 : decode cX0_init 23 = .ok (.newarray .int, 2) := by decide +kernel
theorem dX0_init_25 : decode cX0_init 25 = .ok (.putfield 18, 3) := by decide +kernel
theorem dX0_init_28 : decode cX0_init 28 = .ok (.aload_n 0, 1) := by decide +kernel
theorem dX0_init_29 : decode cX0_init 29 = .ok (.bipush 30, 2) := by decide +kernel
theorem dX0_init_31 : decode cX0_init 31 = .ok (.newarray .int, 2) := by decide +kernel
theorem dX0_init_33 : decode cX0_init 33 = .ok (.putfield 21, 3) := by decide +kernel
theorem dX0_init_36 : decode cX0_init 36 = .ok (.aload_n 0, 1) := by decide +kernel
theorem dX0_init_37 : decode cX0_init 37 = .ok (.bipush 30, 2) := by decide +kernel
theorem dX0_init_39 : decode cX0_init 39 = .ok (.newarray .boolean, 2) := by decide +kernel
theorem dX0_init_41 : decode cX0_init 41 = .ok (.putfield 24, 3) := by decide +kernel
theorem dX0_init_44 : decode cX0_init 44 = .ok (.aload_n 0, 1) := by decide +kernel
theorem dX0_init_45 : decode cX0_init 45 = .ok (.sipush 220, 3) := by decide +kernel
theorem dX0_init_48 : decode cX0_init 48 = .ok (.newarray .long, 2) := by decide +kernel
theorem dX0_init_50 : decode cX0_init 50 = .ok (.putfield 28, 3) := by decide +kernel
theorem dX0_init_53 : decode cX0_init 53 = .ok (.aload_n 0, 1) := by decide +kernel
theorem dX0_init_54 : decode cX0_init 54 = .ok (.bipush 8, 2) := by decide +kernel
theorem dX0_init_56 : decode cX0_init 56 = .ok (.newarray .long, 2) := by decide +kernel
theorem dX0_init_58 : decode cX0_init 58 = .ok (.putfield 32, 3) := by decide +kernel
theorem dX0_init_61 : decode cX0_init 61 = .ok (.aload_n 0, 1) := by decide +kernel
theorem dX0_init_62 : decode cX0_init 62 = .ok (.iconst 0, 1) := by decide +kernel
theorem dX0_init_63 : decode cX0_init 63 = .ok (.putfield 35, 3) := by decide +kernel
theorem dX0_init_66 : decode cX0_init 66 = .ok (.aload_n 0, 1) := by decide +kernel
theorem dX0_init_67 : decode cX0_init 67 = .ok (.iconst 0, 1) := by decide +kernel
theorem dX0_init_68 : decode cX0_init 68 = .ok (.putfield 39, 3) := by decide +kernel
theorem dX0_init_71 : decode cX0_init 71 = .ok (.aload_n 0, 1) := by decide +kernel
theorem dX0_init_72 : decode cX0_init 72 = .ok (.iconst 0, 1) := by decide +kernel
theorem dX0_init_73 : decode cX0_init 73 = .ok (.putfield 42, 3) := by decide +kernel
theorem dX0_init_76 : decode cX0_init 76 = .ok (.aload_n 0, 1) := by decide +kernel
theorem dX0_init_77 : decode cX0_init 77 = .ok (.iconst 0, 1) := by decide +kernel
theorem dX0_init_78 : decode cX0_init 78 = .ok (.putfield 45, 3) := by decide +kernel
theorem dX0_init_81 : decode cX0_init 81 = .ok (.aload_n 0, 1) := by decide +kernel
theorem dX0_init_82 : decode cX0_init 82 = .ok (.iconst 0, 1) := by decide +kernel
theorem dX0_init_83 : decode cX0_init 83 = .ok (.putfield 48, 3) := by decide +kernel
theorem dX0_init_86 : decode cX0_init 86 = .ok (.aload_n 0, 1) := by decide +kernel
theorem dX0_init_87 : decode cX0_init 87 = .ok (.iconst (-1), 1) := by decide +kernel
theorem dX0_init_88 : decode cX0_init 88 = .ok (.putfield 51, 3) := by decide +kernel
theorem dX0_init_91 : decode cX0_init 91 = .ok (.aload_n 0, 1) := by decide +kernel
theorem dX0_init_92 : decode cX0_init 92 = .ok (.iconst 0, 1) := by decide +kernel
theorem dX0_init_93 : decode cX0_init 93 = .ok (.putfield 54, 3) := by decide +kernel
theorem dX0_init_96 : decode cX0_init 96 = .ok (.aload_n 0, 1) := by decide +kernel
theorem dX0_init_97 : decode cX0_init 97 = .ok (.iconst 0, 1) := by decide +kernel
theorem dX0_init_98 : decode cX0_init 98 = .ok (.putfield 58, 3) := by decide +kernel
theorem dX0_init_101 : decode cX0_init 101 = .ok (.aload_n 0, 1) := by decide +kernel
theorem dX0_init_102 : decode cX0_init 102 = .ok (.iconst 0, 1) := by decide +kernel
theorem dX0_init_103 : decode cX0_init 103 = .ok (.putfield 61, 3) := by decide +kernel
theorem dX0_init_106 : decode cX0_init 106 = .ok (.aload_n 0, 1) := by decide +kernel
theorem dX0_init_107 : decode cX0_init 107 = .ok (.aload_n 1, 1) := by decide +kernel
theorem dX0_init_108 : decode cX0_init 108 = .ok (.putfield 64, 3) := by decide +kernel
theorem dX0_init_111 : decode cX0_init 111 = .ok (.return_, 1) := by decide +kernel
theorem dX0_restart_0 : decode cX0_restart 0 = .ok (.aload_n 0, 1) := by decide +kernel
theorem dX0_restart_1 : decode cX0_restart 1 = .ok (.iload_n 1, 1) := by decide +kernel
theorem dX0_restart_2 : decode cX0_restart 2 = .ok (.putfield 51, 3) := by decide +kernel
theorem dX0_restart_5 : decode cX0_restart 5 = .ok (.aload_n 0, 1) := by decide +kernel
theorem dX0_restart_6 : decode cX0_restart 6 = .ok (.iconst 1, 1) := by decide +kernel
theorem dX0_restart_7 : decode cX0_restart 7 = .ok (.putfield 39, 3) := by decide +kernel
theorem dX0_restart_10 : decode cX0_restart 10 = .ok (.aload_n 0, 1) := by decide +kernel
theorem dX0_restart_11 : decode cX0_restart 11 = .ok (.iconst 0, 1) := by decide +kernel
theorem dX0_restart_12 : decode cX0_restart 12 = .ok (.putfield 45, 3) := by decide +kernel
theorem dX0_restart_15 : decode cX0_restart 15 = .ok (.aload_n 0, 1) := by decide +kernel
theorem dX0_restart_16 : decode cX0_restart 16 = .ok (.iconst 0, 1) := by decide +kernel
theorem dX0_restart_17 : decode cX0_restart 17 = .ok (.putfield 48, 3) := by decide +kernel
theorem dX0_restart_20 : decode cX0_restart 20 = .ok (.aload_n 0, 1) := by decide +kernel
theorem dX0_restart_21 : decode cX0_restart 21 = .ok (.iconst 0, 1) := by decide +kernel
theorem dX0_restart_22 : decode cX0_restart 22 = .ok (.putfield 61, 3) := by decide +kernel
theorem dX0_restart_25 : decode cX0_restart 25 = .ok (.aload_n 0, 1) := by decide +kernel
theorem dX0_restart_26 : decode cX0_restart 26 = .ok (.iconst 0, 1) := by decide +kernel
theorem dX0_restart_27 : decode cX0_restart 27 = .ok (.putfield 58, 3) := by decide +kernel
theorem dX0_restart_30 : decode cX0_restart 30 = .ok (.aload_n 0, 1) := by decide +kernel
theorem dX0_restart_31 : decode cX0_restart 31 = .ok (.iconst 0, 1) := by decide +kernel
theorem dX0_restart_32 : decode cX0_restart 32 = .ok (.putfield 35, 3) := by decide +kernel
theorem dX0_restart_35 : decode cX0_restart 35 = .ok (.aload_n 0, 1) := by decide +kernel
theorem dX0_restart_36 : decode cX0_restart 36 = .ok (.iconst 0, 1) := by decide +kernel
theorem dX0_restart_37 : decode cX0_restart 37 = .ok (.putfield 54, 3) := by decide +kernel
theorem dX0_restart_40 : decode cX0_restart 40 = .ok (.aload_n 0, 1) := by decide +kernel
theorem dX0_restart_41 : decode cX0_restart 41 = .ok (.iload_n 1, 1) := by decide +kernel
theorem dX0_restart_42 : decode cX0_restart 42 = .ok (.aload_n 2, 1) := by decide +kernel
theorem dX0_restart_43 : decode cX0_restart 43 = .ok (.iconst 0, 1) := by decide +kernel
theorem dX0_restart_44 : decode cX0_restart 44 = .ok (.invokevirtual 68, 3) := by decide +kernel
theorem dX0_restart_47 : decode cX0_restart 47 = .ok (.return_, 1) := by decide +kernel
theorem dX0_enter_0 : decode cX0_enter 0 = .ok (.aload_n 0, 1) := by decide +kernel
theorem dX0_enter_1 : decode cX0_enter 1 = .ok (.getfield 64, 3) := by decide +kernel
theorem dX0_enter_4 : decode cX0_enter 4 = .ok (.iload_n 1, 1) := by decide +kernel
theorem dX0_enter_5 : decode cX0_enter 5 = .ok (.invokevirtual 72, 3) := by decide +kernel
theorem dX0_enter_8 : decode cX0_enter 8 = .ok (.istore 4, 2) := by decide +kernel
theorem dX0_enter_10 : decode cX0_enter 10 = .ok (.aload_n 0, 1) := by decide +kernel
theorem dX0_enter_11 : decode cX0_enter 11 = .ok (.getfield 64, 3) := by decide +kernel
theorem dX0_enter_14 : decode cX0_enter 14 = .ok (.getfield 78, 3) := by decide +kernel
theorem dX0_enter_17 : decode cX0_enter 17 = .ok (.iload_n 1, 1) := by decide +kernel
theorem dX0_enter_18 : decode cX0_enter 18 = .ok (.iaload, 1) := by decide +kernel
theorem dX0_enter_19 : decode cX0_enter 19 = .ok (.istore 5, 2) := by decide +kernel
theorem dX0_enter_21 : decode cX0_enter 21 = .ok (.iload 4, 2) := by decide +kernel
theorem dX0_enter_23 : decode cX0_enter 23 = .ok (.aload_n 0, 1) := by decide +kernel
theorem dX0_enter_24 : decode cX0_enter 24 = .ok (.getfield 64, 3) := by decide +kernel
theorem dX0_enter_27 : decode cX0_enter 27 = .ok (.getfield 81, 3) := by decide +kernel
theorem dX0_enter_30 : decode cX0_enter 30 = .ok (.iload_n 1, 1) := by decide +kernel
theorem dX0_enter_31 : decode cX0_enter 31 = .ok (.iaload, 1) := by decide +kernel
theorem dX0_enter_32 : decode cX0_enter 32 = .ok (.iadd, 1) := by decide +kernel
theorem dX0_enter_33 : decode cX0_enter 33 = .ok (.istore 6, 2) := by decide +kernel
theorem dX0_enter_35 : decode cX0_enter 35 = .ok (.aload_n 0, 1) := by decide +kernel
theorem dX0_enter_36 : decode cX0_enter 36 = .ok (.getfield 48, 3) := by decide +kernel
theorem dX0_enter_39 : decode cX0_enter 39 = .ok (.bipush 30, 2) := by decide +kernel
theorem dX0_enter_41 : decode cX0_enter 41 = .ok (.if_icmp .ge 16, 3) := by decide +kernel
theorem dX0_enter_44 : decode cX0_enter 44 = .ok (.iload 6, 2) := by decide +kernel
theorem dX0_enter_46 : decode cX0_enter 46 = .ok (.sipush 220, 3) := by decide +kernel
theorem dX0_enter_49 : decode cX0_enter 49 = .ok (.aload_n 0, 1) := by decide +kernel
theorem dX0_enter_50 : decode cX0_enter 50 = .ok (.getfield 61, 3) := by decide +kernel
theorem dX0_enter_53 : decode cX0_enter 53 = .ok (.isub, 1) := by decide +kernel
theorem dX0_enter_54 : decode cX0_enter 54 = .ok (.if_icmp .le 9, 3) := by decide +kernel
theorem dX0_enter_57 : decode cX0_enter 57 = .ok (.aload_n 0, 1) := by decide +kernel
theorem dX0_enter_58 : decode cX0_enter 58 = .ok (.iconst 4, 1) := by decide +kernel
theorem dX0_enter_59 : decode cX0_enter 59 = .ok (.putfield 39, 3) := by decide +kernel
theorem dX0_enter_62 : decode cX0_enter 62 = .ok (.return_, 1) := by decide +kernel
theorem dX0_enter_63 : decode cX0_enter 63 = .ok (.aload_n 0, 1) := by decide +kernel
theorem dX0_enter_64 : decode cX0_enter 64 = .ok (.getfield 48, 3) := by decide +kernel
theorem dX0_enter_67 : decode cX0_enter 67 = .ok (.ifCond .le 15, 3) := by decide +kernel
theorem dX0_enter_70 : decode cX0_enter 70 = .ok (.aload_n 0, 1) := by decide +kernel
theorem dX0_enter_71 : decode cX0_enter 71 = .ok (.getfield 21, 3) := by decide +kernel
theorem dX0_enter_74 : decode cX0_enter 74 = .ok (.aload_n 0, 1) := by decide +kernel
theorem dX0_enter_75 : decode cX0_enter 75 = .ok (.getfield 48, 3) := by decide +kernel
theorem dX0_enter_78 : decode cX0_enter 78 = .ok (.iconst 1, 1) := by decide +kernel
theorem dX0_enter_79 : decode cX0_enter 79 = .ok (.isub, 1) := by decide +kernel
theorem dX0_enter_80 : decode cX0_enter 80 = .ok (.iload_n 3, 1) := by decide +kernel
theorem dX0_enter_81 : decode cX0_enter 81 = .ok (.iastore, 1) := by decide +kernel
theorem dX0_enter_82 : decode cX0_enter 82 = .ok (.iconst 0, 1) := by decide +kernel
theorem dX0_enter_83 : decode cX0_enter 83 = .ok (.istore 7, 2) := by decide +kernel
theorem dX0_enter_85 : decode cX0_enter 85 = .ok (.iload 7, 2) := by decide +kernel
theorem dX0_enter_87 : decode cX0_enter 87 = .ok (.iload 4, 2) := by decide +kernel
theorem dX0_enter_89 : decode cX0_enter 89 = .ok (.if_icmp .ge 66, 3) := by decide +kernel
theorem dX0_enter_92 : decode cX0_enter 92 = .ok (.iload 7, 2) := by decide +kernel
theorem dX0_enter_94 : decode cX0_enter 94 = .ok (.iload 5, 2) := by decide +kernel
theorem dX0_enter_96 : decode cX0_enter 96 = .ok (.if_icmp .ge 23, 3) := by decide +kernel
theorem dX0_enter_99 : decode cX0_enter 99 = .ok (.iload_n 3, 1) := by decide +kernel
theorem dX0_enter_100 : decode cX0_enter 100 = .ok (.iload 7, 2) := by decide +kernel
theorem dX0_enter_102 : decode cX0_enter 102 = .ok (.iadd, 1) := by decide +kernel
theorem dX0_enter_103 : decode cX0_enter 103 = .ok (.ifCond .lt 16, 3) := by decide +kernel
theorem dX0_enter_106 : decode cX0_enter 106 = .ok (.iload_n 3, 1) := by decide +kernel
theorem dX0_enter_107 : decode cX0_enter 107 = .ok (.iload 7, 2) := by decide +kernel
theorem dX0_enter_109 : decode cX0_enter 109 = .ok (.iadd, 1) := by decide +kernel
theorem dX0_enter_110 : decode cX0_enter 110 = .ok (.aload_n 2, 1) := by decide +kernel
theorem dX0_enter_111 : decode cX0_enter 111 = .ok (.arraylength, 1) := by decide +kernel
theorem dX0_enter_112 : decode cX0_enter 112 = .ok (.if_icmp .ge 7, 3) := by decide +kernel
theorem dX0_enter_115 : decode cX0_enter 115 = .ok (.iconst 1, 1) := by decide +kernel
theorem dX0_enter_116 : decode cX0_enter 116 = .ok (.goto 4, 3) := by decide +kernel
theorem dX0_enter_119 : decode cX0_enter 119 = .ok (.iconst 0, 1) := by decide +kernel
theorem dX0_enter_120 : decode cX0_enter 120 = .ok (.istore 8, 2) := by decide +kernel
theorem dX0_enter_122 : decode cX0_enter 122 = .ok (.aload_n 0, 1) := by decide +kernel
theorem dX0_enter_123 : decode cX0_enter 123 = .ok (.getfield 28, 3) := by decide +kernel
theorem dX0_enter_126 : decode cX0_enter 126 = .ok (.aload_n 0, 1) := by decide +kernel
theorem dX0_enter_127 : decode cX0_enter 127 = .ok (.getfield 61, 3) := by decide +kernel
theorem dX0_enter_130 : decode cX0_enter 130 = .ok (.iload 7, 2) := by decide +kernel
theorem dX0_enter_132 : decode cX0_enter 132 = .ok (.iadd, 1) := by decide +kernel
theorem dX0_enter_133 : decode cX0_enter 133 = .ok (.iload 8, 2) := by decide +kernel
theorem dX0_enter_135 : decode cX0_enter 135 = .ok (.ifCond .eq 12, 3) := by decide +kernel
theorem dX0_enter_138 : decode cX0_enter 138 = .ok (.aload_n 2, 1) := by decide +kernel
theorem dX0_enter_139 : decode cX0_enter 139 = .ok (.iload_n 3, 1) := by decide +kernel
theorem dX0_enter_140 : decode cX0_enter 140 = .ok (.iload 7, 2) := by decide +kernel
theorem dX0_enter_142 : decode cX0_enter 142 = .ok (.iadd, 1) := by decide +kernel
theorem dX0_enter_143 : decode cX0_enter 143 = .ok (.laload, 1) := by decide +kernel
theorem dX0_enter_144 : decode cX0_enter 144 = .ok (.goto 4, 3) := by decide +kernel
theorem dX0_enter_147 : decode cX0_enter 147 = .ok (.lconst 0, 1) := by decide +kernel
theorem dX0_enter_148 : decode cX0_enter 148 = .ok (.lastore, 1) := by decide +kernel
theorem dX0_enter_149 : decode cX0_enter 149 = .ok (.iinc 7 1, 3) := by decide +kernel
theorem dX0_enter_152 : decode cX0_enter 152 = .ok (.goto (-67), 3) := by decide +kernel
theorem dX0_enter_155 : decode cX0_enter 155 = .ok (.aload_n 0, 1) := by decide +kernel
theorem dX0_enter_156 : decode cX0_enter 156 = .ok (.getfield 9, 3) := by decide +kernel
theorem dX0_enter_159 : decode cX0_enter 159 = .ok (.aload_n 0, 1) := by decide +kernel
theorem dX0_enter_160 : decode cX0_enter 160 = .ok (.getfield 48, 3) := by decide +kernel
theorem dX0_enter_163 : decode cX0_enter 163 = .ok (.iload_n 1, 1) := by decide +kernel
theorem dX0_enter_164 : decode cX0_enter 164 = .ok (.iastore, 1) := by decide +kernel
theorem dX0_enter_165 : decode cX0_enter 165 = .ok (.aload_n 0, 1) := by decide +kernel
theorem dX0_enter_166 : decode cX0_enter 166 = .ok (.getfield 15, 3) := by decide +kernel
theorem dX0_enter_169 : decode cX0_enter 169 = .ok (.aload_n 0, 1) := by decide +kernel
theorem dX0_enter_170 : decode cX0_enter 170 = .ok (.getfield 48, 3) := by decide +kernel
theorem dX0_enter_173 : decode cX0_enter 173 = .ok (.aload_n 0, 1) := by decide +kernel
theorem dX0_enter_174 : decode cX0_enter 174 = .ok (.getfield 64, 3) := by decide +kernel
theorem dX0_enter_177 : decode cX0_enter 177 = .ok (.getfield 84, 3) := by decide +kernel
theorem dX0_enter_180 : decode cX0_enter 180 = .ok (.iload_n 1, 1) := by decide +kernel
theorem dX0_enter_181 : decode cX0_enter 181 = .ok (.iaload, 1) := by decide +kernel
theorem dX0_enter_182 : decode cX0_enter 182 = .ok (.iastore, 1) := by decide +kernel
theorem dX0_enter_183 : decode cX0_enter 183 = .ok (.aload_n 0, 1) := by decide +kernel
theorem dX0_enter_184 : decode cX0_enter 184 = .ok (.getfield 18, 3) := by decide +kernel
theorem dX0_enter_187 : decode cX0_enter 187 = .ok (.aload_n 0, 1) := by decide +kernel
theorem dX0_enter_188 : decode cX0_enter 188 = .ok (.getfield 48, 3) := by decide +kernel
theorem dX0_enter_191 : decode cX0_enter 191 = .ok (.aload_n 0, 1) := by decide +kernel
theorem dX0_enter_192 : decode cX0_enter 192 = .ok (.getfield 61, 3) := by decide +kernel
theorem dX0_enter_195 : decode cX0_enter 195 = .ok (.iastore, 1) := by decide +kernel
theorem dX0_enter_196 : decode cX0_enter 196 = .ok (.aload_n 0, 1) := by decide +kernel
theorem dX0_enter_197 : decode cX0_enter 197 = .ok (.getfield 21, 3) := by decide +kernel
theorem dX0_enter_200 : decode cX0_enter 200 = .ok (.aload_n 0, 1) := by decide +kernel
theorem dX0_enter_201 : decode cX0_enter 201 = .ok (.getfield 48, 3) := by decide +kernel
theorem dX0_enter_204 : decode cX0_enter 204 = .ok (.aload_n 0, 1) := by decide +kernel
theorem dX0_enter_205 : decode cX0_enter 205 = .ok (.getfield 61, 3) := by decide +kernel
theorem dX0_enter_208 : decode cX0_enter 208 = .ok (.iload 4, 2) := by decide +kernel
theorem dX0_enter_210 : decode cX0_enter 210 = .ok (.iadd, 1) := by decide +kernel
theorem dX0_enter_211 : decode cX0_enter 211 = .ok (.iastore, 1) := by decide +kernel
theorem dX0_enter_212 : decode cX0_enter 212 = .ok (.aload_n 0, 1) := by decide +kernel
theorem dX0_enter_213 : decode cX0_enter 213 = .ok (.getfield 24, 3) := by decide +kernel
theorem dX0_enter_216 : decode cX0_enter 216 = .ok (.aload_n 0, 1) := by decide +kernel
theorem dX0_enter_217 : decode cX0_enter 217 = .ok (.getfield 48, 3) := by decide +kernel
theorem dX0_enter_220 : decode cX0_enter 220 = .ok (.iconst 0, 1) := by decide +kernel
theorem dX0_enter_221 : decode cX0_enter 221 = .ok (.bastore, 1) := by decide +kernel
theorem dX0_enter_222 : decode cX0_enter 222 = .ok (.aload_n 0, 1) := by decide +kernel
theorem dX0_enter_223 : decode cX0_enter 223 = .ok (.dup, 1) := by decide +kernel
theorem dX0_enter_224 : decode cX0_enter 224 = .ok (.getfield 48, 3) := by decide +kernel
theorem dX0_enter_227 : decode cX0_enter 227 = .ok (.iconst 1, 1) := by decide +kernel
theorem dX0_enter_228 : decode cX0_enter 228 = .ok (.iadd, 1) := by decide +kernel
theorem dX0_enter_229 : decode cX0_enter 229 = .ok (.putfield 48, 3) := by decide +kernel
theorem dX0_enter_232 : decode cX0_enter 232 = .ok (.aload_n 0, 1) := by decide +kernel
theorem dX0_enter_233 : decode cX0_enter 233 = .ok (.dup, 1) := by decide +kernel
theorem dX0_enter_234 : decode cX0_enter 234 = .ok (.getfield 61, 3) := by decide +kernel
theorem dX0_enter_237 : decode cX0_enter 237 = .ok (.iload 6, 2) := by decide +kernel
theorem dX0_enter_239 : decode cX0_enter 239 = .ok (.iadd, 1) := by decide +kernel
theorem dX0_enter_240 : decode cX0_enter 240 = .ok (.putfield 61, 3) := by decide +kernel
theorem dX0_enter_243 : decode cX0_enter 243 = .ok (.aload_n 0, 1) := by decide +kernel
theorem dX0_enter_244 : decode cX0_enter 244 = .ok (.iconst 1, 1) := by decide +kernel
theorem dX0_enter_245 : decode cX0_enter 245 = .ok (.putfield 54, 3) := by decide +kernel
theorem dX0_enter_248 : decode cX0_enter 248 = .ok (.return_, 1) := by decide +kernel
theorem dX0_leave_0 : decode cX0_leave 0 = .ok (.aload_n 0, 1) := by decide +kernel
theorem dX0_leave_1 : decode cX0_leave 1 = .ok (.getfield 48, 3) := by decide +kernel
theorem dX0_leave_4 : decode cX0_leave 4 = .ok (.ifCond .gt 4, 3) := by decide +kernel
theorem dX0_leave_7 : decode cX0_leave 7 = .ok (.return_, 1) := by decide +kernel
theorem dX0_leave_8 : decode cX0_leave 8 = .ok (.aload_n 0, 1) := by decide +kernel
theorem dX0_leave_9 : decode cX0_leave 9 = .ok (.dup, 1) := by decide +kernel
theorem dX0_leave_10 : decode cX0_leave 10 = .ok (.getfield 48, 3) := by decide +kernel
theorem dX0_leave_13 : decode cX0_leave 13 = .ok (.iconst 1, 1) := by decide +kernel
theorem dX0_leave_14 : decode cX0_leave 14 = .ok (.isub, 1) := by decide +kernel
theorem dX0_leave_15 : decode cX0_leave 15 = .ok (.putfield 48, 3) := by decide +kernel
theorem dX0_leave_18 : decode cX0_leave 18 = .ok (.aload_n 0, 1) := by decide +kernel
theorem dX0_leave_19 : decode cX0_leave 19 = .ok (.aload_n 0, 1) := by decide +kernel
theorem dX0_leave_20 : decode cX0_leave 20 = .ok (.getfield 18, 3) := by decide +kernel
theorem dX0_leave_23 : decode cX0_leave 23 = .ok (.aload_n 0, 1) := by decide +kernel
theorem dX0_leave_24 : decode cX0_leave 24 = .ok (.getfield 48, 3) := by decide +kernel
theorem dX0_leave_27 : decode cX0_leave 27 = .ok (.iaload, 1) := by decide +kernel
theorem dX0_leave_28 : decode cX0_leave 28 = .ok (.putfield 61, 3) := by decide +kernel
theorem dX0_leave_31 : decode cX0_leave 31 = .ok (.aload_n 0, 1) := by decide +kernel
theorem dX0_leave_32 : decode cX0_leave 32 = .ok (.getfield 64, 3) := by decide +kernel
theorem dX0_leave_35 : decode cX0_leave 35 = .ok (.getfield 87, 3) := by decide +kernel
theorem dX0_leave_38 : decode cX0_leave 38 = .ok (.aload_n 0, 1) := by decide +kernel
theorem dX0_leave_39 : decode cX0_leave 39 = .ok (.getfield 9, 3) := by decide +kernel
theorem dX0_leave_42 : decode cX0_leave 42 = .ok (.aload_n 0, 1) := by decide +kernel
theorem dX0_leave_43 : decode cX0_leave 43 = .ok (.getfield 48, 3) := by decide +kernel
theorem dX0_leave_46 : decode cX0_leave 46 = .ok (.iaload, 1) := by decide +kernel
theorem dX0_leave_47 : decode cX0_leave 47 = .ok (.iaload, 1) := by decide +kernel
theorem dX0_leave_48 : decode cX0_leave 48 = .ok (.istore_n 2, 1) := by decide +kernel
theorem dX0_leave_49 : decode cX0_leave 49 = .ok (.aload_n 0, 1) := by decide +kernel
theorem dX0_leave_50 : decode cX0_leave 50 = .ok (.getfield 48, 3) := by decide +kernel
theorem dX0_leave_53 : decode cX0_leave 53 = .ok (.ifCond .ne 40, 3) := by decide +kernel
theorem dX0_leave_56 : decode cX0_leave 56 = .ok (.iconst 0, 1) := by decide +kernel
theorem dX0_leave_57 : decode cX0_leave 57 = .ok (.istore_n 3, 1) := by decide +kernel
theorem dX0_leave_58 : decode cX0_leave 58 = .ok (.iload_n 3, 1) := by decide +kernel
theorem dX0_leave_59 : decode cX0_leave 59 = .ok (.iload_n 2, 1) := by decide +kernel
theorem dX0_leave_60 : decode cX0_leave 60 = .ok (.if_icmp .ge 22, 3) := by decide +kernel
theorem dX0_leave_63 : decode cX0_leave 63 = .ok (.aload_n 0, 1) := by decide +kernel
theorem dX0_leave_64 : decode cX0_leave 64 = .ok (.getfield 32, 3) := by decide +kernel
theorem dX0_leave_67 : decode cX0_leave 67 = .ok (.iload_n 3, 1) := by decide +kernel
theorem dX0_leave_68 : decode cX0_leave 68 = .ok (.aload_n 0, 1) := by decide +kernel
theorem dX0_leave_69 : decode cX0_leave 69 = .ok (.iload_n 1, 1) := by decide +kernel
theorem dX0_leave_70 : decode cX0_leave 70 = .ok (.iload_n 3, 1) := by decide +kernel
theorem dX0_leave_71 : decode cX0_leave 71 = .ok (.iadd, 1) := by decide +kernel
theorem dX0_leave_72 : decode cX0_leave 72 = .ok (.invokevirtual 89, 3) := by decide +kernel
theorem dX0_leave_75 : decode cX0_leave 75 = .ok (.lastore, 1) := by decide +kernel
theorem dX0_leave_76 : decode cX0_leave 76 = .ok (.iinc 3 1, 3) := by decide +kernel
theorem dX0_leave_79 : decode cX0_leave 79 = .ok (.goto (-21), 3) := by decide +kernel
theorem dX0_leave_82 : decode cX0_leave 82 = .ok (.aload_n 0, 1) := by decide +kernel
theorem dX0_leave_83 : decode cX0_leave 83 = .ok (.iload_n 2, 1) := by decide +kernel
theorem dX0_leave_84 : decode cX0_leave 84 = .ok (.putfield 35, 3) := by decide +kernel
theorem dX0_leave_87 : decode cX0_leave 87 = .ok (.aload_n 0, 1) := by decide +kernel
theorem dX0_leave_88 : decode cX0_leave 88 = .ok (.iconst 2, 1) := by decide +kernel
theorem dX0_leave_89 : decode cX0_leave 89 = .ok (.putfield 39, 3) := by decide +kernel
theorem dX0_leave_92 : decode cX0_leave 92 = .ok (.return_, 1) := by decide +kernel
theorem dX0_leave_93 : decode cX0_leave 93 = .ok (.aload_n 0, 1) := by decide +kernel
theorem dX0_leave_94 : decode cX0_leave 94 = .ok (.iload_n 1, 1) := by decide +kernel
theorem dX0_leave_95 : decode cX0_leave 95 = .ok (.aload_n 0, 1) := by decide +kernel
theorem dX0_leave_96 : decode cX0_leave 96 = .ok (.getfield 21, 3) := by decide +kernel
theorem dX0_leave_99 : decode cX0_leave 99 = .ok (.aload_n 0, 1) := by decide +kernel
theorem dX0_leave_100 : decode cX0_leave 100 = .ok (.getfield 48, 3) := by decide +kernel
theorem dX0_leave_103 : decode cX0_leave 103 = .ok (.iconst 1, 1) := by decide +kernel
theorem dX0_leave_104 : decode cX0_leave 104 = .ok (.isub, 1) := by decide +kernel
theorem dX0_leave_105 : decode cX0_leave 105 = .ok (.iaload, 1) := by decide +kernel
theorem dX0_leave_106 : decode cX0_leave 106 = .ok (.iload_n 2, 1) := by decide +kernel
theorem dX0_leave_107 : decode cX0_leave 107 = .ok (.invokevirtual 93, 3) := by decide +kernel
theorem dX0_leave_110 : decode cX0_leave 110 = .ok (.aload_n 0, 1) := by decide +kernel
theorem dX0_leave_111 : decode cX0_leave 111 = .ok (.getfield 21, 3) := by decide +kernel
theorem dX0_leave_114 : decode cX0_leave 114 = .ok (.aload_n 0, 1) := by decide +kernel
theorem dX0_leave_115 : decode cX0_leave 115 = .ok (.getfield 48, 3) := by decide +kernel
theorem dX0_leave_118 : decode cX0_leave 118 = .ok (.iconst 1, 1) := by decide +kernel
theorem dX0_leave_119 : decode cX0_leave 119 = .ok (.isub, 1) := by decide +kernel
theorem dX0_leave_120 : decode cX0_leave 120 = .ok (.dup2, 1) := by decide +kernel
theorem dX0_leave_121 : decode cX0_leave 121 = .ok (.iaload, 1) := by decide +kernel
theorem dX0_leave_122 : decode cX0_leave 122 = .ok (.iload_n 2, 1) := by decide +kernel
theorem dX0_leave_123 : decode cX0_leave 123 = .ok (.iadd, 1) := by decide +kernel
theorem dX0_leave_124 : decode cX0_leave 124 = .ok (.iastore, 1) := by decide +kernel
theorem dX0_leave_125 : decode cX0_leave 125 = .ok (.return_, 1) := by decide +kernel
theorem dX0_fail_0 : decode cX0_fail 0 = .ok (.aload_n 0, 1) := by decide +kernel
theorem dX0_fail_1 : decode cX0_fail 1 = .ok (.iload_n 1, 1) := by decide +kernel
theorem dX0_fail_2 : decode cX0_fail 2 = .ok (.putfield 42, 3) := by decide +kernel
theorem dX0_fail_5 : decode cX0_fail 5 = .ok (.aload_n 0, 1) := by decide +kernel
theorem dX0_fail_6 : decode cX0_fail 6 = .ok (.iconst 3, 1) := by decide +kernel
theorem dX0_fail_7 : decode cX0_fail 7 = .ok (.putfield 39, 3) := by decide +kernel
theorem dX0_fail_10 : decode cX0_fail 10 = .ok (.return_, 1) := by decide +kernel
theorem dX0_currentFunction_0 : decode cX0_currentFunction 0 = .ok (.aload_n 0, 1) := by decide +kernel
theorem dX0_currentFunction_1 : decode cX0_currentFunction 1 = .ok (.getfield 48, 3) := by decide +kernel
theorem dX0_currentFunction_4 : decode cX0_currentFunction 4 = .ok (.ifCond .le 17, 3) := by decide +kernel
theorem dX0_currentFunction_7 : decode cX0_currentFunction 7 = .ok (.aload_n 0, 1) := by decide +kernel
theorem dX0_currentFunction_8 : decode cX0_currentFunction 8 = .ok (.getfield 9, 3) := by decide +kernel
theorem dX0_currentFunction_11 : decode cX0_currentFunction 11 = .ok (.aload_n 0, 1) := by decide +kernel
theorem dX0_currentFunction_12 : decode cX0_currentFunction 12 = .ok (.getfield 48, 3) := by decide +kernel
theorem dX0_currentFunction_15 : decode cX0_currentFunction 15 = .ok (.iconst 1, 1) := by decide +kernel
theorem dX0_currentFunction_16 : decode cX0_currentFunction 16 = .ok (.isub, 1) := by decide +kernel
theorem dX0_currentFunction_17 : decode cX0_currentFunction 17 = .ok (.iaload, 1) := by decide +kernel
theorem dX0_currentFunction_18 : decode cX0_currentFunction 18 = .ok (.goto 4, 3) := by decide +kernel
theorem dX0_currentFunction_21 : decode cX0_currentFunction 21 = .ok (.iconst 0, 1) := by decide +kernel
theorem dX0_currentFunction_22 : decode cX0_currentFunction 22 = .ok (.ireturn, 1) := by decide +kernel
theorem dX0_nextWithin_0 : decode cX0_nextWithin 0 = .ok (.aload_n 0, 1) := by decide +kernel
theorem dX0_nextWithin_1 : decode cX0_nextWithin 1 = .ok (.getfield 48, 3) := by decide +kernel
theorem dX0_nextWithin_4 : decode cX0_nextWithin 4 = .ok (.ifCond .le 46, 3) := by decide +kernel
theorem dX0_nextWithin_7 : decode cX0_nextWithin 7 = .ok (.aload_n 0, 1) := by decide +kernel
theorem dX0_nextWithin_8 : decode cX0_nextWithin 8 = .ok (.getfield 15, 3) := by decide +kernel
theorem dX0_nextWithin_11 : decode cX0_nextWithin 11 = .ok (.aload_n 0, 1) := by decide +kernel
theorem dX0_nextWithin_12 : decode cX0_nextWithin 12 = .ok (.getfield 48, 3) := by decide +kernel
theorem dX0_nextWithin_15 : decode cX0_nextWithin 15 = .ok (.iconst 1, 1) := by decide +kernel
theorem dX0_nextWithin_16 : decode cX0_nextWithin 16 = .ok (.isub, 1) := by decide +kernel
theorem dX0_nextWithin_17 : decode cX0_nextWithin 17 = .ok (.iaload, 1) := by decide +kernel
theorem dX0_nextWithin_18 : decode cX0_nextWithin 18 = .ok (.ifCond .lt 32, 3) := by decide +kernel
theorem dX0_nextWithin_21 : decode cX0_nextWithin 21 = .ok (.aload_n 0, 1) := by decide +kernel
theorem dX0_nextWithin_22 : decode cX0_nextWithin 22 = .ok (.getfield 15, 3) := by decide +kernel
theorem dX0_nextWithin_25 : decode cX0_nextWithin 25 = .ok (.aload_n 0, 1) := by decide +kernel
theorem dX0_nextWithin_26 : decode cX0_nextWithin 26 = .ok (.getfield 48, 3) := by decide +kernel
theorem dX0_nextWithin_29 : decode cX0_nextWithin 29 = .ok (.iconst 1, 1) := by decide +kernel
theorem dX0_nextWithin_30 : decode cX0_nextWithin 30 = .ok (.isub, 1) := by decide +kernel
theorem dX0_nextWithin_31 : decode cX0_nextWithin 31 = .ok (.iaload, 1) := by decide +kernel
theorem dX0_nextWithin_32 : decode cX0_nextWithin 32 = .ok (.iload_n 1, 1) := by decide +kernel
theorem dX0_nextWithin_33 : decode cX0_nextWithin 33 = .ok (.if_icmp .ge 17, 3) := by decide +kernel
theorem dX0_nextWithin_36 : decode cX0_nextWithin 36 = .ok (.aload_n 0, 1) := by decide +kernel
theorem dX0_nextWithin_37 : decode cX0_nextWithin 37 = .ok (.getfield 15, 3) := by decide +kernel
theorem dX0_nextWithin_40 : decode cX0_nextWithin 40 = .ok (.aload_n 0, 1) := by decide +kernel
theorem dX0_nextWithin_41 : decode cX0_nextWithin 41 = .ok (.getfield 48, 3) := by decide +kernel
theorem dX0_nextWithin_44 : decode cX0_nextWithin 44 = .ok (.iconst 1, 1) := by decide +kernel
theorem dX0_nextWithin_45 : decode cX0_nextWithin 45 = .ok (.isub, 1) := by decide +kernel
theorem dX0_nextWithin_46 : decode cX0_nextWithin 46 = .ok (.iaload, 1) := by decide +kernel
theorem dX0_nextWithin_47 : decode cX0_nextWithin 47 = .ok (.goto 4, 3) := by decide +kernel
theorem dX0_nextWithin_50 : decode cX0_nextWithin 50 = .ok (.iconst (-1), 1) := by decide +kernel
theorem dX0_nextWithin_51 : decode cX0_nextWithin 51 = .ok (.ireturn, 1) := by decide +kernel
theorem dX0_isInRegisters_0 : decode cX0_isInRegisters 0 = .ok (.aload_n 0, 1) := by decide +kernel
theorem dX0_isInRegisters_1 : decode cX0_isInRegisters 1 = .ok (.getfield 48, 3) := by decide +kernel
theorem dX0_isInRegisters_4 : decode cX0_isInRegisters 4 = .ok (.ifCond .le 21, 3) := by decide +kernel
theorem dX0_isInRegisters_7 : decode cX0_isInRegisters 7 = .ok (.aload_n 0, 1) := by decide +kernel
theorem dX0_isInRegisters_8 : decode cX0_isInRegisters 8 = .ok (.getfield 24, 3) := by decide +kernel
theorem dX0_isInRegisters_11 : decode cX0_isInRegisters 11 = .ok (.aload_n 0, 1) := by decide +kernel
theorem dX0_isInRegisters_12 : decode cX0_isInRegisters 12 = .ok (.getfield 48, 3) := by decide +kernel
theorem dX0_isInRegisters_15 : decode cX0_isInRegisters 15 = .ok (.iconst 1, 1) := by decide +kernel
theorem dX0_isInRegisters_16 : decode cX0_isInRegisters 16 = .ok (.isub, 1) := by decide +kernel
theorem dX0_isInRegisters_17 : decode cX0_isInRegisters 17 = .ok (.baload, 1) := by decide +kernel
theorem dX0_isInRegisters_18 : decode cX0_isInRegisters 18 = .ok (.ifCond .eq 7, 3) := by decide +kernel
theorem dX0_isInRegisters_21 : decode cX0_isInRegisters 21 = .ok (.iconst 1, 1) := by decide +kernel
theorem dX0_isInRegisters_22 : decode cX0_isInRegisters 22 = .ok (.goto 4, 3) := by decide +kernel
theorem dX0_isInRegisters_25 : decode cX0_isInRegisters 25 = .ok (.iconst 0, 1) := by decide +kernel
theorem dX0_isInRegisters_26 : decode cX0_isInRegisters 26 = .ok (.ireturn, 1) := by decide +kernel
theorem dX0_settleFrame_0 : decode cX0_settleFrame 0 = .ok (.aload_n 0, 1) := by decide +kernel
theorem dX0_settleFrame_1 : decode cX0_settleFrame 1 = .ok (.iconst 0, 1) := by decide +kernel
theorem dX0_settleFrame_2 : decode cX0_settleFrame 2 = .ok (.putfield 54, 3) := by decide +kernel
theorem dX0_settleFrame_5 : decode cX0_settleFrame 5 = .ok (.aload_n 0, 1) := by decide +kernel
theorem dX0_settleFrame_6 : decode cX0_settleFrame 6 = .ok (.getfield 48, 3) := by decide +kernel
theorem dX0_settleFrame_9 : decode cX0_settleFrame 9 = .ok (.ifCond .le 32, 3) := by decide +kernel
theorem dX0_settleFrame_12 : decode cX0_settleFrame 12 = .ok (.iload_n 1, 1) := by decide +kernel
theorem dX0_settleFrame_13 : decode cX0_settleFrame 13 = .ok (.iconst (-1), 1) := by decide +kernel
theorem dX0_settleFrame_14 : decode cX0_settleFrame 14 = .ok (.if_icmp .eq 27, 3) := by decide +kernel
theorem dX0_settleFrame_17 : decode cX0_settleFrame 17 = .ok (.aload_n 0, 1) := by decide +kernel
theorem dX0_settleFrame_18 : decode cX0_settleFrame 18 = .ok (.getfield 24, 3) := by decide +kernel
theorem dX0_settleFrame_21 : decode cX0_settleFrame 21 = .ok (.aload_n 0, 1) := by decide +kernel
theorem dX0_settleFrame_22 : decode cX0_settleFrame 22 = .ok (.getfield 48, 3) := by decide +kernel
theorem dX0_settleFrame_25 : decode cX0_settleFrame 25 = .ok (.iconst 1, 1) := by decide +kernel
theorem dX0_settleFrame_26 : decode cX0_settleFrame 26 = .ok (.isub, 1) := by decide +kernel
theorem dX0_settleFrame_27 : decode cX0_settleFrame 27 = .ok (.iconst 1, 1) := by decide +kernel
theorem dX0_settleFrame_28 : decode cX0_settleFrame 28 = .ok (.bastore, 1) := by decide +kernel
theorem dX0_settleFrame_29 : decode cX0_settleFrame 29 = .ok (.aload_n 0, 1) := by decide +kernel
theorem dX0_settleFrame_30 : decode cX0_settleFrame 30 = .ok (.getfield 15, 3) := by decide +kernel
theorem dX0_settleFrame_33 : decode cX0_settleFrame 33 = .ok (.aload_n 0, 1) := by decide +kernel
theorem dX0_settleFrame_34 : decode cX0_settleFrame 34 = .ok (.getfield 48, 3) := by decide +kernel
theorem dX0_settleFrame_37 : decode cX0_settleFrame 37 = .ok (.iconst 1, 1) := by decide +kernel
theorem dX0_settleFrame_38 : decode cX0_settleFrame 38 = .ok (.isub, 1) := by decide +kernel
theorem dX0_settleFrame_39 : decode cX0_settleFrame 39 = .ok (.iload_n 1, 1) := by decide +kernel
theorem dX0_settleFrame_40 : decode cX0_settleFrame 40 = .ok (.iastore, 1) := by decide +kernel
theorem dX0_settleFrame_41 : decode cX0_settleFrame 41 = .ok (.return_, 1) := by decide +kernel
theorem dX0_value_0 : decode cX0_value 0 = .ok (.iload_n 1, 1) := by decide +kernel
theorem dX0_value_1 : decode cX0_value 1 = .ok (.ifCond .lt 19, 3) := by decide +kernel
theorem dX0_value_4 : decode cX0_value 4 = .ok (.iload_n 1, 1) := by decide +kernel
theorem dX0_value_5 : decode cX0_value 5 = .ok (.sipush 220, 3) := by decide +kernel
theorem dX0_value_8 : decode cX0_value 8 = .ok (.if_icmp .ge 12, 3) := by decide +kernel
theorem dX0_value_11 : decode cX0_value 11 = .ok (.aload_n 0, 1) := by decide +kernel
theorem dX0_value_12 : decode cX0_value 12 = .ok (.getfield 28, 3) := by decide +kernel
theorem dX0_value_15 : decode cX0_value 15 = .ok (.iload_n 1, 1) := by decide +kernel
theorem dX0_value_16 : decode cX0_value 16 = .ok (.laload, 1) := by decide +kernel
theorem dX0_value_17 : decode cX0_value 17 = .ok (.goto 4, 3) := by decide +kernel
theorem dX0_value_20 : decode cX0_value 20 = .ok (.lconst 0, 1) := by decide +kernel
theorem dX0_value_21 : decode cX0_value 21 = .ok (.lreturn, 1) := by decide +kernel
theorem dX0_setValue_0 : decode cX0_setValue 0 = .ok (.iload_n 1, 1) := by decide +kernel
theorem dX0_setValue_1 : decode cX0_setValue 1 = .ok (.ifCond .lt 17, 3) := by decide +kernel
theorem dX0_setValue_4 : decode cX0_setValue 4 = .ok (.iload_n 1, 1) := by decide +kernel
theorem dX0_setValue_5 : decode cX0_setValue 5 = .ok (.sipush 220, 3) := by decide +kernel
theorem dX0_setValue_8 : decode cX0_setValue 8 = .ok (.if_icmp .ge 10, 3) := by decide +kernel
theorem dX0_setValue_11 : decode cX0_setValue 11 = .ok (.aload_n 0, 1) := by decide +kernel
theorem dX0_setValue_12 : decode cX0_setValue 12 = .ok (.getfield 28, 3) := by decide +kernel
theorem dX0_setValue_15 : decode cX0_setValue 15 = .ok (.iload_n 1, 1) := by decide +kernel
theorem dX0_setValue_16 : decode cX0_setValue 16 = .ok (.lload_n 2, 1) := by decide +kernel
theorem dX0_setValue_17 : decode cX0_setValue 17 = .ok (.lastore, 1) := by decide +kernel
theorem dX0_setValue_18 : decode cX0_setValue 18 = .ok (.return_, 1) := by decide +kernel
theorem dX0_move_0 : decode cX0_move 0 = .ok (.iload_n 2, 1) := by decide +kernel
theorem dX0_move_1 : decode cX0_move 1 = .ok (.ifCond .lt 17, 3) := by decide +kernel
theorem dX0_move_4 : decode cX0_move 4 = .ok (.iload_n 1, 1) := by decide +kernel
theorem dX0_move_5 : decode cX0_move 5 = .ok (.iload_n 2, 1) := by decide +kernel
theorem dX0_move_6 : decode cX0_move 6 = .ok (.if_icmp .lt 12, 3) := by decide +kernel
theorem dX0_move_9 : decode cX0_move 9 = .ok (.iload_n 1, 1) := by decide +kernel
theorem dX0_move_10 : decode cX0_move 10 = .ok (.iload_n 3, 1) := by decide +kernel
theorem dX0_move_11 : decode cX0_move 11 = .ok (.iadd, 1) := by decide +kernel
theorem dX0_move_12 : decode cX0_move 12 = .ok (.sipush 220, 3) := by decide +kernel
theorem dX0_move_15 : decode cX0_move 15 = .ok (.if_icmp .le 4, 3) := by decide +kernel
theorem dX0_move_18 : decode cX0_move 18 = .ok (.return_, 1) := by decide +kernel
theorem dX0_move_19 : decode cX0_move 19 = .ok (.iconst 0, 1) := by decide +kernel
theorem dX0_move_20 : decode cX0_move 20 = .ok (.istore 4, 2) := by decide +kernel
theorem dX0_move_22 : decode cX0_move 22 = .ok (.iload 4, 2) := by decide +kernel
theorem dX0_move_24 : decode cX0_move 24 = .ok (.iload_n 3, 1) := by decide +kernel
theorem dX0_move_25 : decode cX0_move 25 = .ok (.if_icmp .ge 27, 3) := by decide +kernel
theorem dX0_move_28 : decode cX0_move 28 = .ok (.aload_n 0, 1) := by decide +kernel
theorem dX0_move_29 : decode cX0_move 29 = .ok (.getfield 28, 3) := by decide +kernel
theorem dX0_move_32 : decode cX0_move 32 = .ok (.iload_n 2, 1) := by decide +kernel
theorem dX0_move_33 : decode cX0_move 33 = .ok (.iload 4, 2) := by decide +kernel
theorem dX0_move_35 : decode cX0_move 35 = .ok (.iadd, 1) := by decide +kernel
theorem dX0_move_36 : decode cX0_move 36 = .ok (.aload_n 0, 1) := by decide +kernel
theorem dX0_move_37 : decode cX0_move 37 = .ok (.getfield 28, 3) := by decide +kernel
theorem dX0_move_40 : decode cX0_move 40 = .ok (.iload_n 1, 1) := by decide +kernel
theorem dX0_move_41 : decode cX0_move 41 = .ok (.iload 4, 2) := by decide +kernel
theorem dX0_move_43 : decode cX0_move 43 = .ok (.iadd, 1) := by decide +kernel
theorem dX0_move_44 : decode cX0_move 44 = .ok (.laload, 1) := by decide +kernel
theorem dX0_move_45 : decode cX0_move 45 = .ok (.lastore, 1) := by decide +kernel
theorem dX0_move_46 : decode cX0_move 46 = .ok (.iinc 4 1, 3) := by decide +kernel
theorem dX0_move_49 : decode cX0_move 49 = .ok (.goto (-27), 3) := by decide +kernel
theorem dX0_move_52 : decode cX0_move 52 = .ok (.return_, 1) := by decide +kernel
theorem dX1_init_0 : decode cX1_init 0 = .ok (.aload_n 0, 1) := by decide +kernel
theorem dX1_init_1 : decode cX1_init 1 = .ok (.invokespecial 3, 3) := by decide +kernel
theorem dX1_init_4 : decode cX1_init 4 = .ok (.aload_n 0, 1) := by decide +kernel
theorem dX1_init_5 : decode cX1_init 5 = .ok (.sipush 220, 3) := by decide +kernel
theorem dX1_init_8 : decode cX1_init 8 = .ok (.newarray .int, 2) := by decide +kernel
theorem dX1_init_10 : decode cX1_init 10 = .ok (.putfield 9, 3) := by decide +kernel
theorem dX1_init_13 : decode cX1_init 13 = .ok (.aload_n 0, 1) := by decide +kernel
theorem dX1_init_14 : decode cX1_init 14 = .ok (.bipush 32, 2) := by decide +kernel
theorem dX1_init_16 : decode cX1_init 16 = .ok (.newarray .int, 2) := by decide +kernel
theorem dX1_init_18 : decode cX1_init 18 = .ok (.putfield 15, 3) := by decide +kernel
theorem dX1_init_21 : decode cX1_init 21 = .ok (.aload_n 0, 1) := by decide +kernel
theorem dX1_init_22 : decode cX1_init 22 = .ok (.iconst 0, 1) := by decide +kernel
theorem dX1_init_23 : decode cX1_init 23 = .ok (.putfield 18, 3) := by decide +kernel
theorem dX1_init_26 : decode cX1_init 26 = .ok (.aload_n 0, 1) := by decide +kernel
theorem dX1_init_27 : decode cX1_init 27 = .ok (.iconst 0, 1) := by decide +kernel
theorem dX1_init_28 : decode cX1_init 28 = .ok (.putfield 22, 3) := by decide +kernel
theorem dX1_init_31 : decode cX1_init 31 = .ok (.aload_n 0, 1) := by decide +kernel
theorem dX1_init_32 : decode cX1_init 32 = .ok (.iconst 0, 1) := by decide +kernel
theorem dX1_init_33 : decode cX1_init 33 = .ok (.putfield 25, 3) := by decide +kernel
theorem dX1_init_36 : decode cX1_init 36 = .ok (.aload_n 0, 1) := by decide +kernel
theorem dX1_init_37 : decode cX1_init 37 = .ok (.iconst 0, 1) := by decide +kernel
theorem dX1_init_38 : decode cX1_init 38 = .ok (.putfield 28, 3) := by decide +kernel
theorem dX1_init_41 : decode cX1_init 41 = .ok (.aload_n 0, 1) := by decide +kernel
theorem dX1_init_42 : decode cX1_init 42 = .ok (.iconst 1, 1) := by decide +kernel
theorem dX1_init_43 : decode cX1_init 43 = .ok (.putfield 31, 3) := by decide +kernel
theorem dX1_init_46 : decode cX1_init 46 = .ok (.aload_n 0, 1) := by decide +kernel
theorem dX1_init_47 : decode cX1_init 47 = .ok (.iconst 0, 1) := by decide +kernel
theorem dX1_init_48 : decode cX1_init 48 = .ok (.putfield 35, 3) := by decide +kernel
theorem dX1_init_51 : decode cX1_init 51 = .ok (.aload_n 0, 1) := by decide +kernel
theorem dX1_init_52 : decode cX1_init 52 = .ok (.aload_n 1, 1) := by decide +kernel
theorem dX1_init_53 : decode cX1_init 53 = .ok (.putfield 38, 3) := by decide +kernel
theorem dX1_init_56 : decode cX1_init 56 = .ok (.aload_n 0, 1) := by decide +kernel
theorem dX1_init_57 : decode cX1_init 57 = .ok (.aload_n 2, 1) := by decide +kernel
theorem dX1_init_58 : decode cX1_init 58 = .ok (.putfield 42, 3) := by decide +kernel
theorem dX1_init_61 : decode cX1_init 61 = .ok (.return_, 1) := by decide +kernel
theorem dX1_compile_0 : decode cX1_compile 0 = .ok (.aload_n 0, 1) := by decide +kernel
theorem dX1_compile_1 : decode cX1_compile 1 = .ok (.getfield 42, 3) := by decide +kernel
theorem dX1_compile_4 : decode cX1_compile 4 = .ok (.getfield 46, 3) := by decide +kernel
theorem dX1_compile_7 : decode cX1_compile 7 = .ok (.istore_n 2, 1) := by decide +kernel
theorem dX1_compile_8 : decode cX1_compile 8 = .ok (.aload_n 0, 1) := by decide +kernel
theorem dX1_compile_9 : decode cX1_compile 9 = .ok (.iload_n 1, 1) := by decide +kernel
theorem dX1_compile_10 : decode cX1_compile 10 = .ok (.putfield 18, 3) := by decide +kernel
theorem dX1_compile_13 : decode cX1_compile 13 = .ok (.aload_n 0, 1) := by decide +kernel
theorem dX1_compile_14 : decode cX1_compile 14 = .ok (.aload_n 0, 1) := by decide +kernel
theorem dX1_compile_15 : decode cX1_compile 15 = .ok (.getfield 38, 3) := by decide +kernel
theorem dX1_compile_18 : decode cX1_compile 18 = .ok (.iload_n 1, 1) := by decide +kernel
theorem dX1_compile_19 : decode cX1_compile 19 = .ok (.invokevirtual 51, 3) := by decide +kernel
theorem dX1_compile_22 : decode cX1_compile 22 = .ok (.putfield 22, 3) := by decide +kernel
theorem dX1_compile_25 : decode cX1_compile 25 = .ok (.aload_n 0, 1) := by decide +kernel
theorem dX1_compile_26 : decode cX1_compile 26 = .ok (.iconst 0, 1) := by decide +kernel
theorem dX1_compile_27 : decode cX1_compile 27 = .ok (.putfield 25, 3) := by decide +kernel
theorem dX1_compile_30 : decode cX1_compile 30 = .ok (.aload_n 0, 1) := by decide +kernel
theorem dX1_compile_31 : decode cX1_compile 31 = .ok (.iconst 0, 1) := by decide +kernel
theorem dX1_compile_32 : decode cX1_compile 32 = .ok (.putfield 28, 3) := by decide +kernel
theorem dX1_compile_35 : decode cX1_compile 35 = .ok (.aload_n 0, 1) := by decide +kernel
theorem dX1_compile_36 : decode cX1_compile 36 = .ok (.iconst 1, 1) := by decide +kernel
theorem dX1_compile_37 : decode cX1_compile 37 = .ok (.putfield 31, 3) := by decide +kernel
theorem dX1_compile_40 : decode cX1_compile 40 = .ok (.aload_n 0, 1) := by decide +kernel
theorem dX1_compile_41 : decode cX1_compile 41 = .ok (.iconst 0, 1) := by decide +kernel
theorem dX1_compile_42 : decode cX1_compile 42 = .ok (.putfield 35, 3) := by decide +kernel
theorem dX1_compile_45 : decode cX1_compile 45 = .ok (.aload_n 0, 1) := by decide +kernel
theorem dX1_compile_46 : decode cX1_compile 46 = .ok (.invokevirtual 57, 3) := by decide +kernel
theorem dX1_compile_49 : decode cX1_compile 49 = .ok (.aload_n 0, 1) := by decide +kernel
theorem dX1_compile_50 : decode cX1_compile 50 = .ok (.getfield 38, 3) := by decide +kernel
theorem dX1_compile_53 : decode cX1_compile 53 = .ok (.getfield 60, 3) := by decide +kernel
theorem dX1_compile_56 : decode cX1_compile 56 = .ok (.iload_n 1, 1) := by decide +kernel
theorem dX1_compile_57 : decode cX1_compile 57 = .ok (.iaload, 1) := by decide +kernel
theorem dX1_compile_58 : decode cX1_compile 58 = .ok (.istore_n 3, 1) := by decide +kernel
theorem dX1_compile_59 : decode cX1_compile 59 = .ok (.iload_n 3, 1) := by decide +kernel
theorem dX1_compile_60 : decode cX1_compile 60 = .ok (.aload_n 0, 1) := by decide +kernel
theorem dX1_compile_61 : decode cX1_compile 61 = .ok (.getfield 38, 3) := by decide +kernel
theorem dX1_compile_64 : decode cX1_compile 64 = .ok (.getfield 63, 3) := by decide +kernel
theorem dX1_compile_67 : decode cX1_compile 67 = .ok (.iload_n 1, 1) := by decide +kernel
theorem dX1_compile_68 : decode cX1_compile 68 = .ok (.iaload, 1) := by decide +kernel
theorem dX1_compile_69 : decode cX1_compile 69 = .ok (.if_icmp .gt 14, 3) := by decide +kernel
theorem dX1_compile_72 : decode cX1_compile 72 = .ok (.aload_n 0, 1) := by decide +kernel
theorem dX1_compile_73 : decode cX1_compile 73 = .ok (.iload_n 3, 1) := by decide +kernel
theorem dX1_compile_74 : decode cX1_compile 74 = .ok (.invokevirtual 66, 3) := by decide +kernel
theorem dX1_compile_77 : decode cX1_compile 77 = .ok (.iinc 3 1, 3) := by decide +kernel
theorem dX1_compile_80 : decode cX1_compile 80 = .ok (.goto (-21), 3) := by decide +kernel
theorem dX1_compile_83 : decode cX1_compile 83 = .ok (.iload_n 2, 1) := by decide +kernel
theorem dX1_compile_84 : decode cX1_compile 84 = .ok (.istore_n 3, 1) := by decide +kernel
theorem dX1_compile_85 : decode cX1_compile 85 = .ok (.iload_n 3, 1) := by decide +kernel
theorem dX1_compile_86 : decode cX1_compile 86 = .ok (.aload_n 0, 1) := by decide +kernel
theorem dX1_compile_87 : decode cX1_compile 87 = .ok (.getfield 42, 3) := by decide +kernel
theorem dX1_compile_90 : decode cX1_compile 90 = .ok (.getfield 46, 3) := by decide +kernel
theorem dX1_compile_93 : decode cX1_compile 93 = .ok (.if_icmp .ge 59, 3) := by decide +kernel
theorem dX1_compile_96 : decode cX1_compile 96 = .ok (.aload_n 0, 1) := by decide +kernel
theorem dX1_compile_97 : decode cX1_compile 97 = .ok (.getfield 42, 3) := by decide +kernel
theorem dX1_compile_100 : decode cX1_compile 100 = .ok (.getfield 70, 3) := by decide +kernel
theorem dX1_compile_103 : decode cX1_compile 103 = .ok (.iload_n 3, 1) := by decide +kernel
theorem dX1_compile_104 : decode cX1_compile 104 = .ok (.iaload, 1) := by decide +kernel
theorem dX1_compile_105 : decode cX1_compile 105 = .ok (.bipush 12, 2) := by decide +kernel
theorem dX1_compile_107 : decode cX1_compile 107 = .ok (.if_icmp .eq 16, 3) := by decide +kernel
theorem dX1_compile_110 : decode cX1_compile 110 = .ok (.aload_n 0, 1) := by decide +kernel
theorem dX1_compile_111 : decode cX1_compile 111 = .ok (.getfield 42, 3) := by decide +kernel
theorem dX1_compile_114 : decode cX1_compile 114 = .ok (.getfield 70, 3) := by decide +kernel
theorem dX1_compile_117 : decode cX1_compile 117 = .ok (.iload_n 3, 1) := by decide +kernel
theorem dX1_compile_118 : decode cX1_compile 118 = .ok (.iaload, 1) := by decide +kernel
theorem dX1_compile_119 : decode cX1_compile 119 = .ok (.iconst 4, 1) := by decide +kernel
theorem dX1_compile_120 : decode cX1_compile 120 = .ok (.if_icmp .ne 26, 3) := by decide +kernel
theorem dX1_compile_123 : decode cX1_compile 123 = .ok (.aload_n 0, 1) := by decide +kernel
theorem dX1_compile_124 : decode cX1_compile 124 = .ok (.getfield 42, 3) := by decide +kernel
theorem dX1_compile_127 : decode cX1_compile 127 = .ok (.getfield 73, 3) := by decide +kernel
theorem dX1_compile_130 : decode cX1_compile 130 = .ok (.iload_n 3, 1) := by decide +kernel
theorem dX1_compile_131 : decode cX1_compile 131 = .ok (.aload_n 0, 1) := by decide +kernel
theorem dX1_compile_132 : decode cX1_compile 132 = .ok (.getfield 15, 3) := by decide +kernel
theorem dX1_compile_135 : decode cX1_compile 135 = .ok (.aload_n 0, 1) := by decide +kernel
theorem dX1_compile_136 : decode cX1_compile 136 = .ok (.getfield 42, 3) := by decide +kernel
theorem dX1_compile_139 : decode cX1_compile 139 = .ok (.getfield 73, 3) := by decide +kernel
theorem dX1_compile_142 : decode cX1_compile 142 = .ok (.iload_n 3, 1) := by decide +kernel
theorem dX1_compile_143 : decode cX1_compile 143 = .ok (.iaload, 1) := by decide +kernel
theorem dX1_compile_144 : decode cX1_compile 144 = .ok (.iaload, 1) := by decide +kernel
theorem dX1_compile_145 : decode cX1_compile 145 = .ok (.iastore, 1) := by decide +kernel
theorem dX1_compile_146 : decode cX1_compile 146 = .ok (.iinc 3 1, 3) := by decide +kernel
theorem dX1_compile_149 : decode cX1_compile 149 = .ok (.goto (-64), 3) := by decide +kernel
theorem dX1_compile_152 : decode cX1_compile 152 = .ok (.aload_n 0, 1) := by decide +kernel
theorem dX1_compile_153 : decode cX1_compile 153 = .ok (.getfield 42, 3) := by decide +kernel
theorem dX1_compile_156 : decode cX1_compile 156 = .ok (.getfield 76, 3) := by decide +kernel
theorem dX1_compile_159 : decode cX1_compile 159 = .ok (.iload_n 1, 1) := by decide +kernel
theorem dX1_compile_160 : decode cX1_compile 160 = .ok (.iload_n 2, 1) := by decide +kernel
theorem dX1_compile_161 : decode cX1_compile 161 = .ok (.iastore, 1) := by decide +kernel
theorem dX1_compile_162 : decode cX1_compile 162 = .ok (.aload_n 0, 1) := by decide +kernel
theorem dX1_compile_163 : decode cX1_compile 163 = .ok (.getfield 42, 3) := by decide +kernel
theorem dX1_compile_166 : decode cX1_compile 166 = .ok (.dup, 1) := by decide +kernel
theorem dX1_compile_167 : decode cX1_compile 167 = .ok (.getfield 79, 3) := by decide +kernel
theorem dX1_compile_170 : decode cX1_compile 170 = .ok (.iconst 1, 1) := by decide +kernel
theorem dX1_compile_171 : decode cX1_compile 171 = .ok (.iadd, 1) := by decide +kernel
theorem dX1_compile_172 : decode cX1_compile 172 = .ok (.putfield 79, 3) := by decide +kernel
theorem dX1_compile_175 : decode cX1_compile 175 = .ok (.return_, 1) := by decide +kernel
theorem dX1_makeRoom_0 : decode cX1_makeRoom 0 = .ok (.aload_n 0, 1) := by decide +kernel
theorem dX1_makeRoom_1 : decode cX1_makeRoom 1 = .ok (.getfield 42, 3) := by decide +kernel
theorem dX1_makeRoom_4 : decode cX1_makeRoom 4 = .ok (.aload_n 0, 1) := by decide +kernel
theorem dX1_makeRoom_5 : decode cX1_makeRoom 5 = .ok (.getfield 38, 3) := by decide +kernel
theorem dX1_makeRoom_8 : decode cX1_makeRoom 8 = .ok (.getfield 63, 3) := by decide +kernel
theorem dX1_makeRoom_11 : decode cX1_makeRoom 11 = .ok (.aload_n 0, 1) := by decide +kernel
theorem dX1_makeRoom_12 : decode cX1_makeRoom 12 = .ok (.getfield 18, 3) := by decide +kernel
theorem dX1_makeRoom_15 : decode cX1_makeRoom 15 = .ok (.iaload, 1) := by decide +kernel
theorem dX1_makeRoom_16 : decode cX1_makeRoom 16 = .ok (.aload_n 0, 1) := by decide +kernel
theorem dX1_makeRoom_17 : decode cX1_makeRoom 17 = .ok (.getfield 38, 3) := by decide +kernel
theorem dX1_makeRoom_20 : decode cX1_makeRoom 20 = .ok (.getfield 60, 3) := by decide +kernel
theorem dX1_makeRoom_23 : decode cX1_makeRoom 23 = .ok (.aload_n 0, 1) := by decide +kernel
theorem dX1_makeRoom_24 : decode cX1_makeRoom 24 = .ok (.getfield 18, 3) := by decide +kernel
theorem dX1_makeRoom_27 : decode cX1_makeRoom 27 = .ok (.iaload, 1) := by decide +kernel
theorem dX1_makeRoom_28 : decode cX1_makeRoom 28 = .ok (.isub, 1) := by decide +kernel
theorem dX1_makeRoom_29 : decode cX1_makeRoom 29 = .ok (.iconst 1, 1) := by decide +kernel
theorem dX1_makeRoom_30 : decode cX1_makeRoom 30 = .ok (.iadd, 1) := by decide +kernel
theorem dX1_makeRoom_31 : decode cX1_makeRoom 31 = .ok (.invokevirtual 82, 3) := by decide +kernel
theorem dX1_makeRoom_34 : decode cX1_makeRoom 34 = .ok (.aload_n 0, 1) := by decide +kernel
theorem dX1_makeRoom_35 : decode cX1_makeRoom 35 = .ok (.getfield 15, 3) := by decide +kernel
theorem dX1_makeRoom_38 : decode cX1_makeRoom 38 = .ok (.arraylength, 1) := by decide +kernel
theorem dX1_makeRoom_39 : decode cX1_makeRoom 39 = .ok (.aload_n 0, 1) := by decide +kernel
theorem dX1_makeRoom_40 : decode cX1_makeRoom 40 = .ok (.getfield 38, 3) := by decide +kernel
theorem dX1_makeRoom_43 : decode cX1_makeRoom 43 = .ok (.getfield 84, 3) := by decide +kernel
theorem dX1_makeRoom_46 : decode cX1_makeRoom 46 = .ok (.arraylength, 1) := by decide +kernel
theorem dX1_makeRoom_47 : decode cX1_makeRoom 47 = .ok (.if_icmp .ge 17, 3) := by decide +kernel
theorem dX1_makeRoom_50 : decode cX1_makeRoom 50 = .ok (.aload_n 0, 1) := by decide +kernel
theorem dX1_makeRoom_51 : decode cX1_makeRoom 51 = .ok (.aload_n 0, 1) := by decide +kernel
theorem dX1_makeRoom_52 : decode cX1_makeRoom 52 = .ok (.getfield 38, 3) := by decide +kernel
theorem dX1_makeRoom_55 : decode cX1_makeRoom 55 = .ok (.getfield 84, 3) := by decide +kernel
theorem dX1_makeRoom_58 : decode cX1_makeRoom 58 = .ok (.arraylength, 1) := by decide +kernel
theorem dX1_makeRoom_59 : decode cX1_makeRoom 59 = .ok (.newarray .int, 2) := by decide +kernel
theorem dX1_makeRoom_61 : decode cX1_makeRoom 61 = .ok (.putfield 15, 3) := by decide +kernel
theorem dX1_makeRoom_64 : decode cX1_makeRoom 64 = .ok (.return_, 1) := by decide +kernel
theorem dX1_translate_0 : decode cX1_translate 0 = .ok (.aload_n 0, 1) := by decide +kernel
theorem dX1_translate_1 : decode cX1_translate 1 = .ok (.getfield 38, 3) := by decide +kernel
theorem dX1_translate_4 : decode cX1_translate 4 = .ok (.getfield 84, 3) := by decide +kernel
theorem dX1_translate_7 : decode cX1_translate 7 = .ok (.iload_n 1, 1) := by decide +kernel
theorem dX1_translate_8 : decode cX1_translate 8 = .ok (.iaload, 1) := by decide +kernel
theorem dX1_translate_9 : decode cX1_translate 9 = .ok (.istore_n 2, 1) := by decide +kernel
theorem dX1_translate_10 : decode cX1_translate 10 = .ok (.iload_n 2, 1) := by decide +kernel
theorem dX1_translate_11 : decode cX1_translate 11 = .ok (.iconst 2, 1) := by decide +kernel
theorem dX1_translate_12 : decode cX1_translate 12 = .ok (.if_icmp .lt 16, 3) := by decide +kernel
theorem dX1_translate_15 : decode cX1_translate 15 = .ok (.iload_n 2, 1) := by decide +kernel
theorem dX1_translate_16 : decode cX1_translate 16 = .ok (.bipush 11, 2) := by decide +kernel
theorem dX1_translate_18 : decode cX1_translate 18 = .ok (.if_icmp .gt 10, 3) := by decide +kernel
theorem dX1_translate_21 : decode cX1_translate 21 = .ok (.aload_n 0, 1) := by decide +kernel
theorem dX1_translate_22 : decode cX1_translate 22 = .ok (.iload_n 2, 1) := by decide +kernel
theorem dX1_translate_23 : decode cX1_translate 23 = .ok (.iload_n 1, 1) := by decide +kernel
theorem dX1_translate_24 : decode cX1_translate 24 = .ok (.invokevirtual 85, 3) := by decide +kernel
theorem dX1_translate_27 : decode cX1_translate 27 = .ok (.return_, 1) := by decide +kernel
theorem dX1_translate_28 : decode cX1_translate 28 = .ok (.aload_n 0, 1) := by decide +kernel
theorem dX1_translate_29 : decode cX1_translate 29 = .ok (.getfield 31, 3) := by decide +kernel
theorem dX1_translate_32 : decode cX1_translate 32 = .ok (.ifCond .ne 4, 3) := by decide +kernel
theorem dX1_translate_35 : decode cX1_translate 35 = .ok (.return_, 1) := by decide +kernel
theorem dX1_translate_36 : decode cX1_translate 36 = .ok (.aload_n 0, 1) := by decide +kernel
theorem dX1_translate_37 : decode cX1_translate 37 = .ok (.dup, 1) := by decide +kernel
theorem dX1_translate_38 : decode cX1_translate 38 = .ok (.getfield 28, 3) := by decide +kernel
theorem dX1_translate_41 : decode cX1_translate 41 = .ok (.iconst 1, 1) := by decide +kernel
theorem dX1_translate_42 : decode cX1_translate 42 = .ok (.iadd, 1) := by decide +kernel
theorem dX1_translate_43 : decode cX1_translate 43 = .ok (.putfield 28, 3) := by decide +kernel
theorem dX1_translate_46 : decode cX1_translate 46 = .ok (.iload_n 2, 1) := by decide +kernel
theorem dX1_translate_47 : decode cX1_translate 47 = .ok (.bipush 69, 2) := by decide +kernel
theorem dX1_translate_49 : decode cX1_translate 49 = .ok (.if_icmp .lt 11, 3) := by decide +kernel
theorem dX1_translate_52 : decode cX1_translate 52 = .ok (.aload_n 0, 1) := by decide +kernel
theorem dX1_translate_53 : decode cX1_translate 53 = .ok (.iload_n 2, 1) := by decide +kernel
theorem dX1_translate_54 : decode cX1_translate 54 = .ok (.invokevirtual 89, 3) := by decide +kernel
theorem dX1_translate_57 : decode cX1_translate 57 = .ok (.goto 71, 3) := by decide +kernel
theorem dX1_translate_60 : decode cX1_translate 60 = .ok (.iload_n 2, 1) := by decide +kernel
theorem dX1_translate_61 : decode cX1_translate 61 = .ok (.bipush 65, 2) := by decide +kernel
theorem dX1_translate_63 : decode cX1_translate 63 = .ok (.if_icmp .lt 13, 3) := by decide +kernel
theorem dX1_translate_66 : decode cX1_translate 66 = .ok (.aload_n 0, 1) := by decide +kernel
theorem dX1_translate_67 : decode cX1_translate 67 = .ok (.iload_n 1, 1) := by decide +kernel
theorem dX1_translate_68 : decode cX1_translate 68 = .ok (.iconst (-1), 1) := by decide +kernel
theorem dX1_translate_69 : decode cX1_translate 69 = .ok (.ixor, 1) := by decide +kernel
theorem dX1_translate_70 : decode cX1_translate 70 = .ok (.invokevirtual 92, 3) := by decide +kernel
theorem dX1_translate_73 : decode cX1_translate 73 = .ok (.goto 55, 3) := by decide +kernel
theorem dX1_translate_76 : decode cX1_translate 76 = .ok (.iload_n 2, 1) := by decide +kernel
theorem dX1_translate_77 : decode cX1_translate 77 = .ok (.bipush 40, 2) := by decide +kernel
theorem dX1_translate_79 : decode cX1_translate 79 = .ok (.if_icmp .lt 20, 3) := by decide +kernel
theorem dX1_translate_82 : decode cX1_translate 82 = .ok (.aload_n 0, 1) := by decide +kernel
theorem dX1_translate_83 : decode cX1_translate 83 = .ok (.iload_n 2, 1) := by decide +kernel
theorem dX1_translate_84 : decode cX1_translate 84 = .ok (.aload_n 0, 1) := by decide +kernel
theorem dX1_translate_85 : decode cX1_translate 85 = .ok (.getfield 38, 3) := by decide +kernel
theorem dX1_translate_88 : decode cX1_translate 88 = .ok (.getfield 95, 3) := by decide +kernel
theorem dX1_translate_91 : decode cX1_translate 91 = .ok (.iload_n 1, 1) := by decide +kernel
theorem dX1_translate_92 : decode cX1_translate 92 = .ok (.iaload, 1) := by decide +kernel
theorem dX1_translate_93 : decode cX1_translate 93 = .ok (.invokevirtual 98, 3) := by decide +kernel
theorem dX1_translate_96 : decode cX1_translate 96 = .ok (.goto 32, 3) := by decide +kernel
theorem dX1_translate_99 : decode cX1_translate 99 = .ok (.iload_n 2, 1) := by decide +kernel
theorem dX1_translate_100 : decode cX1_translate 100 = .ok (.bipush 26, 2) := by decide +kernel
theorem dX1_translate_102 : decode cX1_translate 102 = .ok (.if_icmp .lt 20, 3) := by decide +kernel
theorem dX1_translate_105 : decode cX1_translate 105 = .ok (.aload_n 0, 1) := by decide +kernel
theorem dX1_translate_106 : decode cX1_translate 106 = .ok (.iload_n 2, 1) := by decide +kernel
theorem dX1_translate_107 : decode cX1_translate 107 = .ok (.aload_n 0, 1) := by decide +kernel
theorem dX1_translate_108 : decode cX1_translate 108 = .ok (.getfield 38, 3) := by decide +kernel
theorem dX1_translate_111 : decode cX1_translate 111 = .ok (.getfield 95, 3) := by decide +kernel
theorem dX1_translate_114 : decode cX1_translate 114 = .ok (.iload_n 1, 1) := by decide +kernel
theorem dX1_translate_115 : decode cX1_translate 115 = .ok (.iaload, 1) := by decide +kernel
theorem dX1_translate_116 : decode cX1_translate 116 = .ok (.invokevirtual 101, 3) := by decide +kernel
theorem dX1_translate_119 : decode cX1_translate 119 = .ok (.goto 9, 3) := by decide +kernel
theorem dX1_translate_122 : decode cX1_translate 122 = .ok (.aload_n 0, 1) := by decide +kernel
theorem dX1_translate_123 : decode cX1_translate 123 = .ok (.iload_n 2, 1) := by decide +kernel
theorem dX1_translate_124 : decode cX1_translate 124 = .ok (.iload_n 1, 1) := by decide +kernel
theorem dX1_translate_125 : decode cX1_translate 125 = .ok (.invokevirtual 104, 3) := by decide +kernel
theorem dX1_translate_128 : decode cX1_translate 128 = .ok (.return_, 1) := by decide +kernel
theorem dX1_structure_0 : decode cX1_structure 0 = .ok (.iload_n 1, 1) := by decide +kernel
theorem dX1_structure_1 : decode cX1_structure 1 = .ok (.tableswitch 80 2 11 #[55, 55, 55, 64, 80, 80, 80, 80, 80, 72], 55) := by decide +kernel
theorem dX1_structure_56 : decode cX1_structure 56 = .ok (.aload_n 0, 1) := by decide +kernel
theorem dX1_structure_57 : decode cX1_structure 57 = .ok (.iload_n 1, 1) := by decide +kernel
theorem dX1_structure_58 : decode cX1_structure 58 = .ok (.iload_n 2, 1) := by decide +kernel
theorem dX1_structure_59 : decode cX1_structure 59 = .ok (.invokevirtual 107, 3) := by decide +kernel
theorem dX1_structure_62 : decode cX1_structure 62 = .ok (.goto 19, 3) := by decide +kernel
theorem dX1_structure_65 : decode cX1_structure 65 = .ok (.aload_n 0, 1) := by decide +kernel
theorem dX1_structure_66 : decode cX1_structure 66 = .ok (.iload_n 2, 1) := by decide +kernel
theorem dX1_structure_67 : decode cX1_structure 67 = .ok (.invokevirtual 110, 3) := by decide +kernel
theorem dX1_structure_70 : decode cX1_structure 70 = .ok (.goto 11, 3) := by decide +kernel
theorem dX1_structure_73 : decode cX1_structure 73 = .ok (.aload_n 0, 1) := by decide +kernel
theorem dX1_structure_74 : decode cX1_structure 74 = .ok (.iload_n 2, 1) := by decide +kernel
theorem dX1_structure_75 : decode cX1_structure 75 = .ok (.invokevirtual 113, 3) := by decide +kernel
theorem dX1_structure_78 : decode cX1_structure 78 = .ok (.goto 3, 3) := by decide +kernel
theorem dX1_structure_81 : decode cX1_structure 81 = .ok (.return_, 1) := by decide +kernel
theorem dX1_begin_0 : decode cX1_begin 0 = .ok (.aload_n 0, 1) := by decide +kernel
theorem dX1_begin_1 : decode cX1_begin 1 = .ok (.getfield 31, 3) := by decide +kernel
theorem dX1_begin_4 : decode cX1_begin 4 = .ok (.ifCond .ne 14, 3) := by decide +kernel
theorem dX1_begin_7 : decode cX1_begin 7 = .ok (.aload_n 0, 1) := by decide +kernel
theorem dX1_begin_8 : decode cX1_begin 8 = .ok (.dup, 1) := by decide +kernel
theorem dX1_begin_9 : decode cX1_begin 9 = .ok (.getfield 35, 3) := by decide +kernel
theorem dX1_begin_12 : decode cX1_begin 12 = .ok (.iconst 1, 1) := by decide +kernel
theorem dX1_begin_13 : decode cX1_begin 13 = .ok (.iadd, 1) := by decide +kernel
theorem dX1_begin_14 : decode cX1_begin 14 = .ok (.putfield 35, 3) := by decide +kernel
theorem dX1_begin_17 : decode cX1_begin 17 = .ok (.return_, 1) := by decide +kernel
theorem dX1_begin_18 : decode cX1_begin 18 = .ok (.iload_n 1, 1) := by decide +kernel
theorem dX1_begin_19 : decode cX1_begin 19 = .ok (.iconst 4, 1) := by decide +kernel
theorem dX1_begin_20 : decode cX1_begin 20 = .ok (.if_icmp .ne 66, 3) := by decide +kernel
theorem dX1_begin_23 : decode cX1_begin 23 = .ok (.aload_n 0, 1) := by decide +kernel
theorem dX1_begin_24 : decode cX1_begin 24 = .ok (.dup, 1) := by decide +kernel
theorem dX1_begin_25 : decode cX1_begin 25 = .ok (.getfield 28, 3) := by decide +kernel
theorem dX1_begin_28 : decode cX1_begin 28 = .ok (.iconst 1, 1) := by decide +kernel
theorem dX1_begin_29 : decode cX1_begin 29 = .ok (.iadd, 1) := by decide +kernel
theorem dX1_begin_30 : decode cX1_begin 30 = .ok (.putfield 28, 3) := by decide +kernel
theorem dX1_begin_33 : decode cX1_begin 33 = .ok (.aload_n 0, 1) := by decide +kernel
theorem dX1_begin_34 : decode cX1_begin 34 = .ok (.invokevirtual 116, 3) := by decide +kernel
theorem dX1_begin_37 : decode cX1_begin 37 = .ok (.istore_n 3, 1) := by decide +kernel
theorem dX1_begin_38 : decode cX1_begin 38 = .ok (.aload_n 0, 1) := by decide +kernel
theorem dX1_begin_39 : decode cX1_begin 39 = .ok (.iconst 0, 1) := by decide +kernel
theorem dX1_begin_40 : decode cX1_begin 40 = .ok (.invokevirtual 120, 3) := by decide +kernel
theorem dX1_begin_43 : decode cX1_begin 43 = .ok (.aload_n 0, 1) := by decide +kernel
theorem dX1_begin_44 : decode cX1_begin 44 = .ok (.iconst 4, 1) := by decide +kernel
theorem dX1_begin_45 : decode cX1_begin 45 = .ok (.iconst 0, 1) := by decide +kernel
theorem dX1_begin_46 : decode cX1_begin 46 = .ok (.iload_n 3, 1) := by decide +kernel
theorem dX1_begin_47 : decode cX1_begin 47 = .ok (.iconst 0, 1) := by decide +kernel
theorem dX1_begin_48 : decode cX1_begin 48 = .ok (.aload_n 0, 1) := by decide +kernel
theorem dX1_begin_49 : decode cX1_begin 49 = .ok (.getfield 38, 3) := by decide +kernel
theorem dX1_begin_52 : decode cX1_begin 52 = .ok (.getfield 123, 3) := by decide +kernel
theorem dX1_begin_55 : decode cX1_begin 55 = .ok (.iload_n 2, 1) := by decide +kernel
theorem dX1_begin_56 : decode cX1_begin 56 = .ok (.iaload, 1) := by decide +kernel
theorem dX1_begin_57 : decode cX1_begin 57 = .ok (.iconst (-1), 1) := by decide +kernel
theorem dX1_begin_58 : decode cX1_begin 58 = .ok (.if_icmp .ne 15, 3) := by decide +kernel
theorem dX1_begin_61 : decode cX1_begin 61 = .ok (.aload_n 0, 1) := by decide +kernel
theorem dX1_begin_62 : decode cX1_begin 62 = .ok (.getfield 38, 3) := by decide +kernel
theorem dX1_begin_65 : decode cX1_begin 65 = .ok (.getfield 126, 3) := by decide +kernel
theorem dX1_begin_68 : decode cX1_begin 68 = .ok (.iload_n 2, 1) := by decide +kernel
theorem dX1_begin_69 : decode cX1_begin 69 = .ok (.iaload, 1) := by decide +kernel
theorem dX1_begin_70 : decode cX1_begin 70 = .ok (.goto 12, 3) := by decide +kernel
theorem dX1_begin_73 : decode cX1_begin 73 = .ok (.aload_n 0, 1) := by decide +kernel
theorem dX1_begin_74 : decode cX1_begin 74 = .ok (.getfield 38, 3) := by decide +kernel
theorem dX1_begin_77 : decode cX1_begin 77 = .ok (.getfield 123, 3) := by decide +kernel
theorem dX1_begin_80 : decode cX1_begin 80 = .ok (.iload_n 2, 1) := by decide +kernel
theorem dX1_begin_81 : decode cX1_begin 81 = .ok (.iaload, 1) := by decide +kernel
theorem dX1_begin_82 : decode cX1_begin 82 = .ok (.invokevirtual 129, 3) := by decide +kernel
theorem dX1_begin_85 : decode cX1_begin 85 = .ok (.return_, 1) := by decide +kernel
theorem dX1_begin_86 : decode cX1_begin 86 = .ok (.aload_n 0, 1) := by decide +kernel
theorem dX1_begin_87 : decode cX1_begin 87 = .ok (.iconst 0, 1) := by decide +kernel
theorem dX1_begin_88 : decode cX1_begin 88 = .ok (.invokevirtual 120, 3) := by decide +kernel
theorem dX1_begin_91 : decode cX1_begin 91 = .ok (.iload_n 1, 1) := by decide +kernel
theorem dX1_begin_92 : decode cX1_begin 92 = .ok (.iconst 3, 1) := by decide +kernel
theorem dX1_begin_93 : decode cX1_begin 93 = .ok (.if_icmp .ne 20, 3) := by decide +kernel
theorem dX1_begin_96 : decode cX1_begin 96 = .ok (.aload_n 0, 1) := by decide +kernel
theorem dX1_begin_97 : decode cX1_begin 97 = .ok (.invokevirtual 133, 3) := by decide +kernel
theorem dX1_begin_100 : decode cX1_begin 100 = .ok (.aload_n 0, 1) := by decide +kernel
theorem dX1_begin_101 : decode cX1_begin 101 = .ok (.getfield 15, 3) := by decide +kernel
theorem dX1_begin_104 : decode cX1_begin 104 = .ok (.iload_n 2, 1) := by decide +kernel
theorem dX1_begin_105 : decode cX1_begin 105 = .ok (.aload_n 0, 1) := by decide +kernel
theorem dX1_begin_106 : decode cX1_begin 106 = .ok (.getfield 42, 3) := by decide +kernel
theorem dX1_begin_109 : decode cX1_begin 109 = .ok (.getfield 46, 3) := by decide +kernel
theorem dX1_begin_112 : decode cX1_begin 112 = .ok (.iastore, 1) := by decide +kernel
theorem dX1_begin_113 : decode cX1_begin 113 = .ok (.return_, 1) := by decide +kernel
theorem dX1_turn_0 : decode cX1_turn 0 = .ok (.aload_n 0, 1) := by decide +kernel
theorem dX1_turn_1 : decode cX1_turn 1 = .ok (.getfield 35, 3) := by decide +kernel
theorem dX1_turn_4 : decode cX1_turn 4 = .ok (.ifCond .le 4, 3) := by decide +kernel
theorem dX1_turn_7 : decode cX1_turn 7 = .ok (.return_, 1) := by decide +kernel
theorem dX1_turn_8 : decode cX1_turn 8 = .ok (.aload_n 0, 1) := by decide +kernel
theorem dX1_turn_9 : decode cX1_turn 9 = .ok (.getfield 38, 3) := by decide +kernel
theorem dX1_turn_12 : decode cX1_turn 12 = .ok (.getfield 123, 3) := by decide +kernel
theorem dX1_turn_15 : decode cX1_turn 15 = .ok (.iload_n 1, 1) := by decide +kernel
theorem dX1_turn_16 : decode cX1_turn 16 = .ok (.iaload, 1) := by decide +kernel
theorem dX1_turn_17 : decode cX1_turn 17 = .ok (.istore_n 2, 1) := by decide +kernel
theorem dX1_turn_18 : decode cX1_turn 18 = .ok (.aload_n 0, 1) := by decide +kernel
theorem dX1_turn_19 : decode cX1_turn 19 = .ok (.getfield 31, 3) := by decide +kernel
theorem dX1_turn_22 : decode cX1_turn 22 = .ok (.ifCond .eq 26, 3) := by decide +kernel
theorem dX1_turn_25 : decode cX1_turn 25 = .ok (.aload_n 0, 1) := by decide +kernel
theorem dX1_turn_26 : decode cX1_turn 26 = .ok (.iconst 0, 1) := by decide +kernel
theorem dX1_turn_27 : decode cX1_turn 27 = .ok (.invokevirtual 120, 3) := by decide +kernel
theorem dX1_turn_30 : decode cX1_turn 30 = .ok (.aload_n 0, 1) := by decide +kernel
theorem dX1_turn_31 : decode cX1_turn 31 = .ok (.bipush 12, 2) := by decide +kernel
theorem dX1_turn_33 : decode cX1_turn 33 = .ok (.iconst 0, 1) := by decide +kernel
theorem dX1_turn_34 : decode cX1_turn 34 = .ok (.iconst 0, 1) := by decide +kernel
theorem dX1_turn_35 : decode cX1_turn 35 = .ok (.iconst 0, 1) := by decide +kernel
theorem dX1_turn_36 : decode cX1_turn 36 = .ok (.aload_n 0, 1) := by decide +kernel
theorem dX1_turn_37 : decode cX1_turn 37 = .ok (.getfield 38, 3) := by decide +kernel
theorem dX1_turn_40 : decode cX1_turn 40 = .ok (.getfield 126, 3) := by decide +kernel
theorem dX1_turn_43 : decode cX1_turn 43 = .ok (.iload_n 1, 1) := by decide +kernel
theorem dX1_turn_44 : decode cX1_turn 44 = .ok (.iaload, 1) := by decide +kernel
theorem dX1_turn_45 : decode cX1_turn 45 = .ok (.invokevirtual 129, 3) := by decide +kernel
theorem dX1_turn_48 : decode cX1_turn 48 = .ok (.aload_n 0, 1) := by decide +kernel
theorem dX1_turn_49 : decode cX1_turn 49 = .ok (.iload_n 1, 1) := by decide +kernel
theorem dX1_turn_50 : decode cX1_turn 50 = .ok (.aload_n 0, 1) := by decide +kernel
theorem dX1_turn_51 : decode cX1_turn 51 = .ok (.getfield 38, 3) := by decide +kernel
theorem dX1_turn_54 : decode cX1_turn 54 = .ok (.getfield 136, 3) := by decide +kernel
