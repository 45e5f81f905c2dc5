theorem dX10_back_1 : decode cX10_back 1 = .ok (.getfield 79, 3) := by decide +kernel
theorem dX10_back_4 : decode cX10_back 4 = .ok (.aload_n 0, 1) := by decide +kernel
theorem dX10_back_5 : decode cX10_back 5 = .ok (.getfield 190, 3) := by decide +kernel
theorem dX10_back_8 : decode cX10_back 8 = .ok (.iconst 1, 1) := by decide +kernel
theorem dX10_back_9 : decode cX10_back 9 = .ok (.isub, 1) := by decide +kernel
theorem dX10_back_10 : decode cX10_back 10 = .ok (.iaload, 1) := by decide +kernel
theorem dX10_back_11 : decode cX10_back 11 = .ok (.istore_n 1, 1) := by decide +kernel
theorem dX10_back_12 : decode cX10_back 12 = .ok (.aload_n 0, 1) := by decide +kernel
theorem dX10_back_13 : decode cX10_back 13 = .ok (.aload_n 0, 1) := by decide +kernel
theorem dX10_back_14 : decode cX10_back 14 = .ok (.getfield 19, 3) := by decide +kernel
theorem dX10_back_17 : decode cX10_back 17 = .ok (.iload_n 1, 1) := by decide +kernel
theorem dX10_back_18 : decode cX10_back 18 = .ok (.iaload, 1) := by decide +kernel
theorem dX10_back_19 : decode cX10_back 19 = .ok (.aload_n 0, 1) := by decide +kernel
theorem dX10_back_20 : decode cX10_back 20 = .ok (.getfield 82, 3) := by decide +kernel
theorem dX10_back_23 : decode cX10_back 23 = .ok (.aload_n 0, 1) := by decide +kernel
theorem dX10_back_24 : decode cX10_back 24 = .ok (.getfield 190, 3) := by decide +kernel
theorem dX10_back_27 : decode cX10_back 27 = .ok (.iconst 1, 1) := by decide +kernel
theorem dX10_back_28 : decode cX10_back 28 = .ok (.isub, 1) := by decide +kernel
theorem dX10_back_29 : decode cX10_back 29 = .ok (.iaload, 1) := by decide +kernel
theorem dX10_back_30 : decode cX10_back 30 = .ok (.invokevirtual 202, 3) := by decide +kernel
theorem dX10_back_33 : decode cX10_back 33 = .ok (.aload_n 0, 1) := by decide +kernel
theorem dX10_back_34 : decode cX10_back 34 = .ok (.dup, 1) := by decide +kernel
theorem dX10_back_35 : decode cX10_back 35 = .ok (.getfield 190, 3) := by decide +kernel
theorem dX10_back_38 : decode cX10_back 38 = .ok (.iconst 1, 1) := by decide +kernel
theorem dX10_back_39 : decode cX10_back 39 = .ok (.isub, 1) := by decide +kernel
theorem dX10_back_40 : decode cX10_back 40 = .ok (.putfield 190, 3) := by decide +kernel
theorem dX10_back_43 : decode cX10_back 43 = .ok (.aload_n 0, 1) := by decide +kernel
theorem dX10_back_44 : decode cX10_back 44 = .ok (.dup, 1) := by decide +kernel
theorem dX10_back_45 : decode cX10_back 45 = .ok (.getfield 206, 3) := by decide +kernel
theorem dX10_back_48 : decode cX10_back 48 = .ok (.aload_n 0, 1) := by decide +kernel
theorem dX10_back_49 : decode cX10_back 49 = .ok (.iload_n 1, 1) := by decide +kernel
theorem dX10_back_50 : decode cX10_back 50 = .ok (.invokevirtual 209, 3) := by decide +kernel
theorem dX10_back_53 : decode cX10_back 53 = .ok (.isub, 1) := by decide +kernel
theorem dX10_back_54 : decode cX10_back 54 = .ok (.putfield 206, 3) := by decide +kernel
theorem dX10_back_57 : decode cX10_back 57 = .ok (.aload_n 0, 1) := by decide +kernel
theorem dX10_back_58 : decode cX10_back 58 = .ok (.aload_n 0, 1) := by decide +kernel
theorem dX10_back_59 : decode cX10_back 59 = .ok (.getfield 85, 3) := by decide +kernel
theorem dX10_back_62 : decode cX10_back 62 = .ok (.aload_n 0, 1) := by decide +kernel
theorem dX10_back_63 : decode cX10_back 63 = .ok (.getfield 190, 3) := by decide +kernel
theorem dX10_back_66 : decode cX10_back 66 = .ok (.iaload, 1) := by decide +kernel
theorem dX10_back_67 : decode cX10_back 67 = .ok (.putfield 212, 3) := by decide +kernel
theorem dX10_back_70 : decode cX10_back 70 = .ok (.aload_n 0, 1) := by decide +kernel
theorem dX10_back_71 : decode cX10_back 71 = .ok (.getfield 190, 3) := by decide +kernel
theorem dX10_back_74 : decode cX10_back 74 = .ok (.ifCond .le 4, 3) := by decide +kernel
theorem dX10_back_77 : decode cX10_back 77 = .ok (.return_, 1) := by decide +kernel
theorem dX10_back_78 : decode cX10_back 78 = .ok (.aload_n 0, 1) := by decide +kernel
theorem dX10_back_79 : decode cX10_back 79 = .ok (.iconst 2, 1) := by decide +kernel
theorem dX10_back_80 : decode cX10_back 80 = .ok (.putfield 215, 3) := by decide +kernel
theorem dX10_back_83 : decode cX10_back 83 = .ok (.aload_n 0, 1) := by decide +kernel
theorem dX10_back_84 : decode cX10_back 84 = .ok (.aload_n 0, 1) := by decide +kernel
theorem dX10_back_85 : decode cX10_back 85 = .ok (.getfield 19, 3) := by decide +kernel
theorem dX10_back_88 : decode cX10_back 88 = .ok (.iload_n 1, 1) := by decide +kernel
theorem dX10_back_89 : decode cX10_back 89 = .ok (.iaload, 1) := by decide +kernel
theorem dX10_back_90 : decode cX10_back 90 = .ok (.putfield 218, 3) := by decide +kernel
theorem dX10_back_93 : decode cX10_back 93 = .ok (.iconst 0, 1) := by decide +kernel
theorem dX10_back_94 : decode cX10_back 94 = .ok (.istore_n 2, 1) := by decide +kernel
theorem dX10_back_95 : decode cX10_back 95 = .ok (.iload_n 2, 1) := by decide +kernel
theorem dX10_back_96 : decode cX10_back 96 = .ok (.aload_n 0, 1) := by decide +kernel
theorem dX10_back_97 : decode cX10_back 97 = .ok (.getfield 218, 3) := by decide +kernel
theorem dX10_back_100 : decode cX10_back 100 = .ok (.if_icmp .ge 21, 3) := by decide +kernel
theorem dX10_back_103 : decode cX10_back 103 = .ok (.aload_n 0, 1) := by decide +kernel
theorem dX10_back_104 : decode cX10_back 104 = .ok (.getfield 100, 3) := by decide +kernel
theorem dX10_back_107 : decode cX10_back 107 = .ok (.iload_n 2, 1) := by decide +kernel
theorem dX10_back_108 : decode cX10_back 108 = .ok (.aload_n 0, 1) := by decide +kernel
theorem dX10_back_109 : decode cX10_back 109 = .ok (.getfield 76, 3) := by decide +kernel
theorem dX10_back_112 : decode cX10_back 112 = .ok (.iload_n 2, 1) := by decide +kernel
theorem dX10_back_113 : decode cX10_back 113 = .ok (.laload, 1) := by decide +kernel
theorem dX10_back_114 : decode cX10_back 114 = .ok (.lastore, 1) := by decide +kernel
theorem dX10_back_115 : decode cX10_back 115 = .ok (.iinc 2 1, 3) := by decide +kernel
theorem dX10_back_118 : decode cX10_back 118 = .ok (.goto (-23), 3) := by decide +kernel
theorem dX10_back_121 : decode cX10_back 121 = .ok (.return_, 1) := by decide +kernel
theorem dX10_enter_0 : decode cX10_enter 0 = .ok (.aload_n 0, 1) := by decide +kernel
theorem dX10_enter_1 : decode cX10_enter 1 = .ok (.getfield 190, 3) := by decide +kernel
theorem dX10_enter_4 : decode cX10_enter 4 = .ok (.bipush 30, 2) := by decide +kernel
theorem dX10_enter_6 : decode cX10_enter 6 = .ok (.if_icmp .eq 19, 3) := by decide +kernel
theorem dX10_enter_9 : decode cX10_enter 9 = .ok (.aload_n 0, 1) := by decide +kernel
theorem dX10_enter_10 : decode cX10_enter 10 = .ok (.getfield 206, 3) := by decide +kernel
theorem dX10_enter_13 : decode cX10_enter 13 = .ok (.aload_n 0, 1) := by decide +kernel
theorem dX10_enter_14 : decode cX10_enter 14 = .ok (.iload_n 1, 1) := by decide +kernel
theorem dX10_enter_15 : decode cX10_enter 15 = .ok (.invokevirtual 209, 3) := by decide +kernel
theorem dX10_enter_18 : decode cX10_enter 18 = .ok (.iadd, 1) := by decide +kernel
theorem dX10_enter_19 : decode cX10_enter 19 = .ok (.sipush 220, 3) := by decide +kernel
theorem dX10_enter_22 : decode cX10_enter 22 = .ok (.if_icmp .le 9, 3) := by decide +kernel
theorem dX10_enter_25 : decode cX10_enter 25 = .ok (.aload_n 0, 1) := by decide +kernel
theorem dX10_enter_26 : decode cX10_enter 26 = .ok (.iconst 4, 1) := by decide +kernel
theorem dX10_enter_27 : decode cX10_enter 27 = .ok (.putfield 215, 3) := by decide +kernel
theorem dX10_enter_30 : decode cX10_enter 30 = .ok (.return_, 1) := by decide +kernel
theorem dX10_enter_31 : decode cX10_enter 31 = .ok (.aload_n 0, 1) := by decide +kernel
theorem dX10_enter_32 : decode cX10_enter 32 = .ok (.dup, 1) := by decide +kernel
theorem dX10_enter_33 : decode cX10_enter 33 = .ok (.getfield 206, 3) := by decide +kernel
theorem dX10_enter_36 : decode cX10_enter 36 = .ok (.aload_n 0, 1) := by decide +kernel
theorem dX10_enter_37 : decode cX10_enter 37 = .ok (.iload_n 1, 1) := by decide +kernel
theorem dX10_enter_38 : decode cX10_enter 38 = .ok (.invokevirtual 209, 3) := by decide +kernel
theorem dX10_enter_41 : decode cX10_enter 41 = .ok (.iadd, 1) := by decide +kernel
theorem dX10_enter_42 : decode cX10_enter 42 = .ok (.putfield 206, 3) := by decide +kernel
theorem dX10_enter_45 : decode cX10_enter 45 = .ok (.aload_n 0, 1) := by decide +kernel
theorem dX10_enter_46 : decode cX10_enter 46 = .ok (.getfield 79, 3) := by decide +kernel
theorem dX10_enter_49 : decode cX10_enter 49 = .ok (.aload_n 0, 1) := by decide +kernel
theorem dX10_enter_50 : decode cX10_enter 50 = .ok (.getfield 190, 3) := by decide +kernel
theorem dX10_enter_53 : decode cX10_enter 53 = .ok (.iload_n 1, 1) := by decide +kernel
theorem dX10_enter_54 : decode cX10_enter 54 = .ok (.iastore, 1) := by decide +kernel
theorem dX10_enter_55 : decode cX10_enter 55 = .ok (.aload_n 0, 1) := by decide +kernel
theorem dX10_enter_56 : decode cX10_enter 56 = .ok (.getfield 82, 3) := by decide +kernel
theorem dX10_enter_59 : decode cX10_enter 59 = .ok (.aload_n 0, 1) := by decide +kernel
theorem dX10_enter_60 : decode cX10_enter 60 = .ok (.getfield 190, 3) := by decide +kernel
theorem dX10_enter_63 : decode cX10_enter 63 = .ok (.aload_n 0, 1) := by decide +kernel
theorem dX10_enter_64 : decode cX10_enter 64 = .ok (.getfield 199, 3) := by decide +kernel
theorem dX10_enter_67 : decode cX10_enter 67 = .ok (.aload_n 0, 1) := by decide +kernel
theorem dX10_enter_68 : decode cX10_enter 68 = .ok (.getfield 16, 3) := by decide +kernel
theorem dX10_enter_71 : decode cX10_enter 71 = .ok (.iload_n 1, 1) := by decide +kernel
theorem dX10_enter_72 : decode cX10_enter 72 = .ok (.iaload, 1) := by decide +kernel
theorem dX10_enter_73 : decode cX10_enter 73 = .ok (.isub, 1) := by decide +kernel
theorem dX10_enter_74 : decode cX10_enter 74 = .ok (.iastore, 1) := by decide +kernel
theorem dX10_enter_75 : decode cX10_enter 75 = .ok (.aload_n 0, 1) := by decide +kernel
theorem dX10_enter_76 : decode cX10_enter 76 = .ok (.getfield 85, 3) := by decide +kernel
theorem dX10_enter_79 : decode cX10_enter 79 = .ok (.aload_n 0, 1) := by decide +kernel
theorem dX10_enter_80 : decode cX10_enter 80 = .ok (.getfield 190, 3) := by decide +kernel
theorem dX10_enter_83 : decode cX10_enter 83 = .ok (.aload_n 0, 1) := by decide +kernel
theorem dX10_enter_84 : decode cX10_enter 84 = .ok (.getfield 212, 3) := by decide +kernel
theorem dX10_enter_87 : decode cX10_enter 87 = .ok (.iconst 1, 1) := by decide +kernel
theorem dX10_enter_88 : decode cX10_enter 88 = .ok (.iadd, 1) := by decide +kernel
theorem dX10_enter_89 : decode cX10_enter 89 = .ok (.iastore, 1) := by decide +kernel
theorem dX10_enter_90 : decode cX10_enter 90 = .ok (.aload_n 0, 1) := by decide +kernel
theorem dX10_enter_91 : decode cX10_enter 91 = .ok (.dup, 1) := by decide +kernel
theorem dX10_enter_92 : decode cX10_enter 92 = .ok (.getfield 190, 3) := by decide +kernel
theorem dX10_enter_95 : decode cX10_enter 95 = .ok (.iconst 1, 1) := by decide +kernel
theorem dX10_enter_96 : decode cX10_enter 96 = .ok (.iadd, 1) := by decide +kernel
theorem dX10_enter_97 : decode cX10_enter 97 = .ok (.putfield 190, 3) := by decide +kernel
theorem dX10_enter_100 : decode cX10_enter 100 = .ok (.aload_n 0, 1) := by decide +kernel
theorem dX10_enter_101 : decode cX10_enter 101 = .ok (.getfield 94, 3) := by decide +kernel
theorem dX10_enter_104 : decode cX10_enter 104 = .ok (.iload_n 1, 1) := by decide +kernel
theorem dX10_enter_105 : decode cX10_enter 105 = .ok (.dup2, 1) := by decide +kernel
theorem dX10_enter_106 : decode cX10_enter 106 = .ok (.iaload, 1) := by decide +kernel
theorem dX10_enter_107 : decode cX10_enter 107 = .ok (.iconst 1, 1) := by decide +kernel
theorem dX10_enter_108 : decode cX10_enter 108 = .ok (.iadd, 1) := by decide +kernel
theorem dX10_enter_109 : decode cX10_enter 109 = .ok (.iastore, 1) := by decide +kernel
theorem dX10_enter_110 : decode cX10_enter 110 = .ok (.aload_n 0, 1) := by decide +kernel
theorem dX10_enter_111 : decode cX10_enter 111 = .ok (.getfield 97, 3) := by decide +kernel
theorem dX10_enter_114 : decode cX10_enter 114 = .ok (.iload_n 1, 1) := by decide +kernel
theorem dX10_enter_115 : decode cX10_enter 115 = .ok (.aload_n 0, 1) := by decide +kernel
theorem dX10_enter_116 : decode cX10_enter 116 = .ok (.getfield 97, 3) := by decide +kernel
theorem dX10_enter_119 : decode cX10_enter 119 = .ok (.iload_n 1, 1) := by decide +kernel
theorem dX10_enter_120 : decode cX10_enter 120 = .ok (.baload, 1) := by decide +kernel
theorem dX10_enter_121 : decode cX10_enter 121 = .ok (.ifCond .ne 23, 3) := by decide +kernel
theorem dX10_enter_124 : decode cX10_enter 124 = .ok (.aload_n 0, 1) := by decide +kernel
theorem dX10_enter_125 : decode cX10_enter 125 = .ok (.getfield 88, 3) := by decide +kernel
theorem dX10_enter_128 : decode cX10_enter 128 = .ok (.ifCond .le 20, 3) := by decide +kernel
theorem dX10_enter_131 : decode cX10_enter 131 = .ok (.aload_n 0, 1) := by decide +kernel
theorem dX10_enter_132 : decode cX10_enter 132 = .ok (.getfield 94, 3) := by decide +kernel
theorem dX10_enter_135 : decode cX10_enter 135 = .ok (.iload_n 1, 1) := by decide +kernel
theorem dX10_enter_136 : decode cX10_enter 136 = .ok (.iaload, 1) := by decide +kernel
theorem dX10_enter_137 : decode cX10_enter 137 = .ok (.aload_n 0, 1) := by decide +kernel
theorem dX10_enter_138 : decode cX10_enter 138 = .ok (.getfield 88, 3) := by decide +kernel
theorem dX10_enter_141 : decode cX10_enter 141 = .ok (.if_icmp .lt 7, 3) := by decide +kernel
theorem dX10_enter_144 : decode cX10_enter 144 = .ok (.iconst 1, 1) := by decide +kernel
theorem dX10_enter_145 : decode cX10_enter 145 = .ok (.goto 4, 3) := by decide +kernel
theorem dX10_enter_148 : decode cX10_enter 148 = .ok (.iconst 0, 1) := by decide +kernel
theorem dX10_enter_149 : decode cX10_enter 149 = .ok (.bastore, 1) := by decide +kernel
theorem dX10_enter_150 : decode cX10_enter 150 = .ok (.iconst 0, 1) := by decide +kernel
theorem dX10_enter_151 : decode cX10_enter 151 = .ok (.istore_n 2, 1) := by decide +kernel
theorem dX10_enter_152 : decode cX10_enter 152 = .ok (.iload_n 2, 1) := by decide +kernel
theorem dX10_enter_153 : decode cX10_enter 153 = .ok (.aload_n 0, 1) := by decide +kernel
theorem dX10_enter_154 : decode cX10_enter 154 = .ok (.getfield 22, 3) := by decide +kernel
theorem dX10_enter_157 : decode cX10_enter 157 = .ok (.iload_n 1, 1) := by decide +kernel
theorem dX10_enter_158 : decode cX10_enter 158 = .ok (.iaload, 1) := by decide +kernel
theorem dX10_enter_159 : decode cX10_enter 159 = .ok (.if_icmp .ge 14, 3) := by decide +kernel
theorem dX10_enter_162 : decode cX10_enter 162 = .ok (.aload_n 0, 1) := by decide +kernel
theorem dX10_enter_163 : decode cX10_enter 163 = .ok (.lconst 0, 1) := by decide +kernel
theorem dX10_enter_164 : decode cX10_enter 164 = .ok (.invokevirtual 221, 3) := by decide +kernel
theorem dX10_enter_167 : decode cX10_enter 167 = .ok (.iinc 2 1, 3) := by decide +kernel
theorem dX10_enter_170 : decode cX10_enter 170 = .ok (.goto (-18), 3) := by decide +kernel
theorem dX10_enter_173 : decode cX10_enter 173 = .ok (.aload_n 0, 1) := by decide +kernel
theorem dX10_enter_174 : decode cX10_enter 174 = .ok (.aload_n 0, 1) := by decide +kernel
theorem dX10_enter_175 : decode cX10_enter 175 = .ok (.getfield 7, 3) := by decide +kernel
theorem dX10_enter_178 : decode cX10_enter 178 = .ok (.iload_n 1, 1) := by decide +kernel
theorem dX10_enter_179 : decode cX10_enter 179 = .ok (.iaload, 1) := by decide +kernel
theorem dX10_enter_180 : decode cX10_enter 180 = .ok (.putfield 212, 3) := by decide +kernel
theorem dX10_enter_183 : decode cX10_enter 183 = .ok (.return_, 1) := by decide +kernel
theorem dX10_pass_0 : decode cX10_pass 0 = .ok (.aload_n 0, 1) := by decide +kernel
theorem dX10_pass_1 : decode cX10_pass 1 = .ok (.getfield 215, 3) := by decide +kernel
theorem dX10_pass_4 : decode cX10_pass 4 = .ok (.iconst 1, 1) := by decide +kernel
theorem dX10_pass_5 : decode cX10_pass 5 = .ok (.if_icmp .ne 155, 3) := by decide +kernel
theorem dX10_pass_8 : decode cX10_pass 8 = .ok (.aload_n 0, 1) := by decide +kernel
theorem dX10_pass_9 : decode cX10_pass 9 = .ok (.getfield 28, 3) := by decide +kernel
theorem dX10_pass_12 : decode cX10_pass 12 = .ok (.aload_n 0, 1) := by decide +kernel
theorem dX10_pass_13 : decode cX10_pass 13 = .ok (.getfield 212, 3) := by decide +kernel
theorem dX10_pass_16 : decode cX10_pass 16 = .ok (.iaload, 1) := by decide +kernel
theorem dX10_pass_17 : decode cX10_pass 17 = .ok (.iconst 2, 1) := by decide +kernel
theorem dX10_pass_18 : decode cX10_pass 18 = .ok (.if_icmp .eq 43, 3) := by decide +kernel
theorem dX10_pass_21 : decode cX10_pass 21 = .ok (.aload_n 0, 1) := by decide +kernel
theorem dX10_pass_22 : decode cX10_pass 22 = .ok (.getfield 28, 3) := by decide +kernel
theorem dX10_pass_25 : decode cX10_pass 25 = .ok (.aload_n 0, 1) := by decide +kernel
theorem dX10_pass_26 : decode cX10_pass 26 = .ok (.getfield 212, 3) := by decide +kernel
theorem dX10_pass_29 : decode cX10_pass 29 = .ok (.iaload, 1) := by decide +kernel
theorem dX10_pass_30 : decode cX10_pass 30 = .ok (.iconst 3, 1) := by decide +kernel
theorem dX10_pass_31 : decode cX10_pass 31 = .ok (.if_icmp .eq 30, 3) := by decide +kernel
theorem dX10_pass_34 : decode cX10_pass 34 = .ok (.aload_n 0, 1) := by decide +kernel
theorem dX10_pass_35 : decode cX10_pass 35 = .ok (.getfield 28, 3) := by decide +kernel
theorem dX10_pass_38 : decode cX10_pass 38 = .ok (.aload_n 0, 1) := by decide +kernel
theorem dX10_pass_39 : decode cX10_pass 39 = .ok (.getfield 212, 3) := by decide +kernel
theorem dX10_pass_42 : decode cX10_pass 42 = .ok (.iaload, 1) := by decide +kernel
theorem dX10_pass_43 : decode cX10_pass 43 = .ok (.iconst 5, 1) := by decide +kernel
theorem dX10_pass_44 : decode cX10_pass 44 = .ok (.if_icmp .eq 17, 3) := by decide +kernel
theorem dX10_pass_47 : decode cX10_pass 47 = .ok (.aload_n 0, 1) := by decide +kernel
theorem dX10_pass_48 : decode cX10_pass 48 = .ok (.getfield 28, 3) := by decide +kernel
theorem dX10_pass_51 : decode cX10_pass 51 = .ok (.aload_n 0, 1) := by decide +kernel
theorem dX10_pass_52 : decode cX10_pass 52 = .ok (.getfield 212, 3) := by decide +kernel
theorem dX10_pass_55 : decode cX10_pass 55 = .ok (.iaload, 1) := by decide +kernel
theorem dX10_pass_56 : decode cX10_pass 56 = .ok (.bipush 11, 2) := by decide +kernel
theorem dX10_pass_58 : decode cX10_pass 58 = .ok (.if_icmp .ne 102, 3) := by decide +kernel
theorem dX10_pass_61 : decode cX10_pass 61 = .ok (.aload_n 0, 1) := by decide +kernel
theorem dX10_pass_62 : decode cX10_pass 62 = .ok (.getfield 79, 3) := by decide +kernel
theorem dX10_pass_65 : decode cX10_pass 65 = .ok (.aload_n 0, 1) := by decide +kernel
theorem dX10_pass_66 : decode cX10_pass 66 = .ok (.getfield 190, 3) := by decide +kernel
theorem dX10_pass_69 : decode cX10_pass 69 = .ok (.iconst 1, 1) := by decide +kernel
theorem dX10_pass_70 : decode cX10_pass 70 = .ok (.isub, 1) := by decide +kernel
theorem dX10_pass_71 : decode cX10_pass 71 = .ok (.iaload, 1) := by decide +kernel
theorem dX10_pass_72 : decode cX10_pass 72 = .ok (.istore_n 1, 1) := by decide +kernel
theorem dX10_pass_73 : decode cX10_pass 73 = .ok (.aload_n 0, 1) := by decide +kernel
theorem dX10_pass_74 : decode cX10_pass 74 = .ok (.getfield 28, 3) := by decide +kernel
theorem dX10_pass_77 : decode cX10_pass 77 = .ok (.aload_n 0, 1) := by decide +kernel
theorem dX10_pass_78 : decode cX10_pass 78 = .ok (.getfield 212, 3) := by decide +kernel
theorem dX10_pass_81 : decode cX10_pass 81 = .ok (.iaload, 1) := by decide +kernel
theorem dX10_pass_82 : decode cX10_pass 82 = .ok (.iconst 5, 1) := by decide +kernel
theorem dX10_pass_83 : decode cX10_pass 83 = .ok (.if_icmp .ne 21, 3) := by decide +kernel
theorem dX10_pass_86 : decode cX10_pass 86 = .ok (.aload_n 0, 1) := by decide +kernel
theorem dX10_pass_87 : decode cX10_pass 87 = .ok (.aload_n 0, 1) := by decide +kernel
theorem dX10_pass_88 : decode cX10_pass 88 = .ok (.aload_n 0, 1) := by decide +kernel
theorem dX10_pass_89 : decode cX10_pass 89 = .ok (.getfield 212, 3) := by decide +kernel
theorem dX10_pass_92 : decode cX10_pass 92 = .ok (.iconst 1, 1) := by decide +kernel
theorem dX10_pass_93 : decode cX10_pass 93 = .ok (.iadd, 1) := by decide +kernel
theorem dX10_pass_94 : decode cX10_pass 94 = .ok (.iconst 0, 1) := by decide +kernel
theorem dX10_pass_95 : decode cX10_pass 95 = .ok (.invokevirtual 225, 3) := by decide +kernel
theorem dX10_pass_98 : decode cX10_pass 98 = .ok (.putfield 212, 3) := by decide +kernel
theorem dX10_pass_101 : decode cX10_pass 101 = .ok (.goto 56, 3) := by decide +kernel
theorem dX10_pass_104 : decode cX10_pass 104 = .ok (.aload_n 0, 1) := by decide +kernel
theorem dX10_pass_105 : decode cX10_pass 105 = .ok (.getfield 28, 3) := by decide +kernel
theorem dX10_pass_108 : decode cX10_pass 108 = .ok (.aload_n 0, 1) := by decide +kernel
theorem dX10_pass_109 : decode cX10_pass 109 = .ok (.getfield 212, 3) := by decide +kernel
theorem dX10_pass_112 : decode cX10_pass 112 = .ok (.iaload, 1) := by decide +kernel
theorem dX10_pass_113 : decode cX10_pass 113 = .ok (.bipush 11, 2) := by decide +kernel
theorem dX10_pass_115 : decode cX10_pass 115 = .ok (.if_icmp .ne 32, 3) := by decide +kernel
theorem dX10_pass_118 : decode cX10_pass 118 = .ok (.aload_n 0, 1) := by decide +kernel
theorem dX10_pass_119 : decode cX10_pass 119 = .ok (.getfield 212, 3) := by decide +kernel
theorem dX10_pass_122 : decode cX10_pass 122 = .ok (.aload_n 0, 1) := by decide +kernel
theorem dX10_pass_123 : decode cX10_pass 123 = .ok (.getfield 7, 3) := by decide +kernel
theorem dX10_pass_126 : decode cX10_pass 126 = .ok (.iload_n 1, 1) := by decide +kernel
theorem dX10_pass_127 : decode cX10_pass 127 = .ok (.iaload, 1) := by decide +kernel
theorem dX10_pass_128 : decode cX10_pass 128 = .ok (.aload_n 0, 1) := by decide +kernel
theorem dX10_pass_129 : decode cX10_pass 129 = .ok (.getfield 13, 3) := by decide +kernel
theorem dX10_pass_132 : decode cX10_pass 132 = .ok (.iload_n 1, 1) := by decide +kernel
theorem dX10_pass_133 : decode cX10_pass 133 = .ok (.iaload, 1) := by decide +kernel
theorem dX10_pass_134 : decode cX10_pass 134 = .ok (.iadd, 1) := by decide +kernel
theorem dX10_pass_135 : decode cX10_pass 135 = .ok (.iconst 1, 1) := by decide +kernel
theorem dX10_pass_136 : decode cX10_pass 136 = .ok (.isub, 1) := by decide +kernel
theorem dX10_pass_137 : decode cX10_pass 137 = .ok (.if_icmp .ne 10, 3) := by decide +kernel
theorem dX10_pass_140 : decode cX10_pass 140 = .ok (.aload_n 0, 1) := by decide +kernel
theorem dX10_pass_141 : decode cX10_pass 141 = .ok (.invokevirtual 229, 3) := by decide +kernel
theorem dX10_pass_144 : decode cX10_pass 144 = .ok (.goto 13, 3) := by decide +kernel
theorem dX10_pass_147 : decode cX10_pass 147 = .ok (.aload_n 0, 1) := by decide +kernel
theorem dX10_pass_148 : decode cX10_pass 148 = .ok (.dup, 1) := by decide +kernel
theorem dX10_pass_149 : decode cX10_pass 149 = .ok (.getfield 212, 3) := by decide +kernel
theorem dX10_pass_152 : decode cX10_pass 152 = .ok (.iconst 1, 1) := by decide +kernel
theorem dX10_pass_153 : decode cX10_pass 153 = .ok (.iadd, 1) := by decide +kernel
theorem dX10_pass_154 : decode cX10_pass 154 = .ok (.putfield 212, 3) := by decide +kernel
theorem dX10_pass_157 : decode cX10_pass 157 = .ok (.goto (-157), 3) := by decide +kernel
theorem dX10_pass_160 : decode cX10_pass 160 = .ok (.return_, 1) := by decide +kernel
theorem dX10_branch_0 : decode cX10_branch 0 = .ok (.aload_n 0, 1) := by decide +kernel
theorem dX10_branch_1 : decode cX10_branch 1 = .ok (.aload_n 0, 1) := by decide +kernel
theorem dX10_branch_2 : decode cX10_branch 2 = .ok (.getfield 212, 3) := by decide +kernel
theorem dX10_branch_5 : decode cX10_branch 5 = .ok (.iload_n 1, 1) := by decide +kernel
theorem dX10_branch_6 : decode cX10_branch 6 = .ok (.invokevirtual 231, 3) := by decide +kernel
theorem dX10_branch_9 : decode cX10_branch 9 = .ok (.istore_n 2, 1) := by decide +kernel
theorem dX10_branch_10 : decode cX10_branch 10 = .ok (.iload_n 2, 1) := by decide +kernel
theorem dX10_branch_11 : decode cX10_branch 11 = .ok (.ifCond .ge 8, 3) := by decide +kernel
theorem dX10_branch_14 : decode cX10_branch 14 = .ok (.aload_n 0, 1) := by decide +kernel
theorem dX10_branch_15 : decode cX10_branch 15 = .ok (.invokevirtual 229, 3) := by decide +kernel
theorem dX10_branch_18 : decode cX10_branch 18 = .ok (.return_, 1) := by decide +kernel
theorem dX10_branch_19 : decode cX10_branch 19 = .ok (.aload_n 0, 1) := by decide +kernel
theorem dX10_branch_20 : decode cX10_branch 20 = .ok (.aload_n 0, 1) := by decide +kernel
theorem dX10_branch_21 : decode cX10_branch 21 = .ok (.getfield 28, 3) := by decide +kernel
theorem dX10_branch_24 : decode cX10_branch 24 = .ok (.iload_n 2, 1) := by decide +kernel
theorem dX10_branch_25 : decode cX10_branch 25 = .ok (.iaload, 1) := by decide +kernel
theorem dX10_branch_26 : decode cX10_branch 26 = .ok (.iconst 3, 1) := by decide +kernel
theorem dX10_branch_27 : decode cX10_branch 27 = .ok (.if_icmp .ne 12, 3) := by decide +kernel
theorem dX10_branch_30 : decode cX10_branch 30 = .ok (.aload_n 0, 1) := by decide +kernel
theorem dX10_branch_31 : decode cX10_branch 31 = .ok (.getfield 31, 3) := by decide +kernel
theorem dX10_branch_34 : decode cX10_branch 34 = .ok (.iload_n 2, 1) := by decide +kernel
theorem dX10_branch_35 : decode cX10_branch 35 = .ok (.iaload, 1) := by decide +kernel
theorem dX10_branch_36 : decode cX10_branch 36 = .ok (.goto 9, 3) := by decide +kernel
theorem dX10_branch_39 : decode cX10_branch 39 = .ok (.aload_n 0, 1) := by decide +kernel
theorem dX10_branch_40 : decode cX10_branch 40 = .ok (.getfield 34, 3) := by decide +kernel
theorem dX10_branch_43 : decode cX10_branch 43 = .ok (.iload_n 2, 1) := by decide +kernel
theorem dX10_branch_44 : decode cX10_branch 44 = .ok (.iaload, 1) := by decide +kernel
theorem dX10_branch_45 : decode cX10_branch 45 = .ok (.aload_n 0, 1) := by decide +kernel
theorem dX10_branch_46 : decode cX10_branch 46 = .ok (.invokevirtual 235, 3) := by decide +kernel
theorem dX10_branch_49 : decode cX10_branch 49 = .ok (.aload_n 0, 1) := by decide +kernel
theorem dX10_branch_50 : decode cX10_branch 50 = .ok (.getfield 37, 3) := by decide +kernel
theorem dX10_branch_53 : decode cX10_branch 53 = .ok (.iload_n 2, 1) := by decide +kernel
theorem dX10_branch_54 : decode cX10_branch 54 = .ok (.iaload, 1) := by decide +kernel
theorem dX10_branch_55 : decode cX10_branch 55 = .ok (.iadd, 1) := by decide +kernel
theorem dX10_branch_56 : decode cX10_branch 56 = .ok (.invokevirtual 202, 3) := by decide +kernel
theorem dX10_branch_59 : decode cX10_branch 59 = .ok (.aload_n 0, 1) := by decide +kernel
theorem dX10_branch_60 : decode cX10_branch 60 = .ok (.aload_n 0, 1) := by decide +kernel
theorem dX10_branch_61 : decode cX10_branch 61 = .ok (.getfield 28, 3) := by decide +kernel
theorem dX10_branch_64 : decode cX10_branch 64 = .ok (.iload_n 2, 1) := by decide +kernel
theorem dX10_branch_65 : decode cX10_branch 65 = .ok (.iaload, 1) := by decide +kernel
theorem dX10_branch_66 : decode cX10_branch 66 = .ok (.iconst 3, 1) := by decide +kernel
theorem dX10_branch_67 : decode cX10_branch 67 = .ok (.if_icmp .ne 9, 3) := by decide +kernel
theorem dX10_branch_70 : decode cX10_branch 70 = .ok (.iload_n 2, 1) := by decide +kernel
theorem dX10_branch_71 : decode cX10_branch 71 = .ok (.iconst 1, 1) := by decide +kernel
theorem dX10_branch_72 : decode cX10_branch 72 = .ok (.iadd, 1) := by decide +kernel
theorem dX10_branch_73 : decode cX10_branch 73 = .ok (.goto 13, 3) := by decide +kernel
theorem dX10_branch_76 : decode cX10_branch 76 = .ok (.aload_n 0, 1) := by decide +kernel
theorem dX10_branch_77 : decode cX10_branch 77 = .ok (.iload_n 2, 1) := by decide +kernel
theorem dX10_branch_78 : decode cX10_branch 78 = .ok (.iconst 1, 1) := by decide +kernel
theorem dX10_branch_79 : decode cX10_branch 79 = .ok (.iadd, 1) := by decide +kernel
theorem dX10_branch_80 : decode cX10_branch 80 = .ok (.iconst 0, 1) := by decide +kernel
theorem dX10_branch_81 : decode cX10_branch 81 = .ok (.invokevirtual 225, 3) := by decide +kernel
theorem dX10_branch_84 : decode cX10_branch 84 = .ok (.iconst 1, 1) := by decide +kernel
theorem dX10_branch_85 : decode cX10_branch 85 = .ok (.iadd, 1) := by decide +kernel
theorem dX10_branch_86 : decode cX10_branch 86 = .ok (.putfield 212, 3) := by decide +kernel
theorem dX10_branch_89 : decode cX10_branch 89 = .ok (.return_, 1) := by decide +kernel
theorem dX10_outermost_0 : decode cX10_outermost 0 = .ok (.iconst 0, 1) := by decide +kernel
theorem dX10_outermost_1 : decode cX10_outermost 1 = .ok (.istore_n 1, 1) := by decide +kernel
theorem dX10_outermost_2 : decode cX10_outermost 2 = .ok (.aload_n 0, 1) := by decide +kernel
theorem dX10_outermost_3 : decode cX10_outermost 3 = .ok (.aload_n 0, 1) := by decide +kernel
theorem dX10_outermost_4 : decode cX10_outermost 4 = .ok (.getfield 212, 3) := by decide +kernel
theorem dX10_outermost_7 : decode cX10_outermost 7 = .ok (.iload_n 1, 1) := by decide +kernel
theorem dX10_outermost_8 : decode cX10_outermost 8 = .ok (.invokevirtual 231, 3) := by decide +kernel
theorem dX10_outermost_11 : decode cX10_outermost 11 = .ok (.ifCond .lt 9, 3) := by decide +kernel
theorem dX10_outermost_14 : decode cX10_outermost 14 = .ok (.iinc 1 1, 3) := by decide +kernel
theorem dX10_outermost_17 : decode cX10_outermost 17 = .ok (.goto (-15), 3) := by decide +kernel
theorem dX10_outermost_20 : decode cX10_outermost 20 = .ok (.iload_n 1, 1) := by decide +kernel
theorem dX10_outermost_21 : decode cX10_outermost 21 = .ok (.ireturn, 1) := by decide +kernel
theorem dX10_traps_0 : decode cX10_traps 0 = .ok (.aload_n 0, 1) := by decide +kernel
theorem dX10_traps_1 : decode cX10_traps 1 = .ok (.iconst 3, 1) := by decide +kernel
theorem dX10_traps_2 : decode cX10_traps 2 = .ok (.putfield 215, 3) := by decide +kernel
theorem dX10_traps_5 : decode cX10_traps 5 = .ok (.aload_n 0, 1) := by decide +kernel
theorem dX10_traps_6 : decode cX10_traps 6 = .ok (.iload_n 1, 1) := by decide +kernel
theorem dX10_traps_7 : decode cX10_traps 7 = .ok (.putfield 238, 3) := by decide +kernel
theorem dX10_traps_10 : decode cX10_traps 10 = .ok (.return_, 1) := by decide +kernel
theorem dX10_isTrue_0 : decode cX10_isTrue 0 = .ok (.lload_n 0, 1) := by decide +kernel
theorem dX10_isTrue_1 : decode cX10_isTrue 1 = .ok (.ldc2_w 241, 3) := by decide +kernel
theorem dX10_isTrue_4 : decode cX10_isTrue 4 = .ok (.land, 1) := by decide +kernel
theorem dX10_isTrue_5 : decode cX10_isTrue 5 = .ok (.lconst 0, 1) := by decide +kernel
theorem dX10_isTrue_6 : decode cX10_isTrue 6 = .ok (.lcmp, 1) := by decide +kernel
theorem dX10_isTrue_7 : decode cX10_isTrue 7 = .ok (.ifCond .eq 7, 3) := by decide +kernel
theorem dX10_isTrue_10 : decode cX10_isTrue 10 = .ok (.iconst 1, 1) := by decide +kernel
theorem dX10_isTrue_11 : decode cX10_isTrue 11 = .ok (.goto 4, 3) := by decide +kernel
theorem dX10_isTrue_14 : decode cX10_isTrue 14 = .ok (.iconst 0, 1) := by decide +kernel
theorem dX10_isTrue_15 : decode cX10_isTrue 15 = .ok (.ireturn, 1) := by decide +kernel
theorem dX10_callTable_0 : decode cX10_callTable 0 = .ok (.aload_n 0, 1) := by decide +kernel
theorem dX10_callTable_1 : decode cX10_callTable 1 = .ok (.invokevirtual 243, 3) := by decide +kernel
theorem dX10_callTable_4 : decode cX10_callTable 4 = .ok (.ldc2_w 241, 3) := by decide +kernel
theorem dX10_callTable_7 : decode cX10_callTable 7 = .ok (.land, 1) := by decide +kernel
theorem dX10_callTable_8 : decode cX10_callTable 8 = .ok (.lstore_n 3, 1) := by decide +kernel
theorem dX10_callTable_9 : decode cX10_callTable 9 = .ok (.lload_n 3, 1) := by decide +kernel
theorem dX10_callTable_10 : decode cX10_callTable 10 = .ok (.ldc2_w 247, 3) := by decide +kernel
theorem dX10_callTable_13 : decode cX10_callTable 13 = .ok (.lcmp, 1) := by decide +kernel
theorem dX10_callTable_14 : decode cX10_callTable 14 = .ok (.ifCond .ge 13, 3) := by decide +kernel
theorem dX10_callTable_17 : decode cX10_callTable 17 = .ok (.aload_n 0, 1) := by decide +kernel
theorem dX10_callTable_18 : decode cX10_callTable 18 = .ok (.getfield 59, 3) := by decide +kernel
theorem dX10_callTable_21 : decode cX10_callTable 21 = .ok (.lload_n 3, 1) := by decide +kernel
theorem dX10_callTable_22 : decode cX10_callTable 22 = .ok (.l2i, 1) := by decide +kernel
theorem dX10_callTable_23 : decode cX10_callTable 23 = .ok (.iaload, 1) := by decide +kernel
theorem dX10_callTable_24 : decode cX10_callTable 24 = .ok (.goto 4, 3) := by decide +kernel
theorem dX10_callTable_27 : decode cX10_callTable 27 = .ok (.iconst (-1), 1) := by decide +kernel
theorem dX10_callTable_28 : decode cX10_callTable 28 = .ok (.istore 5, 2) := by decide +kernel
theorem dX10_callTable_30 : decode cX10_callTable 30 = .ok (.lload_n 3, 1) := by decide +kernel
theorem dX10_callTable_31 : decode cX10_callTable 31 = .ok (.ldc2_w 247, 3) := by decide +kernel
theorem dX10_callTable_34 : decode cX10_callTable 34 = .ok (.lcmp, 1) := by decide +kernel
theorem dX10_callTable_35 : decode cX10_callTable 35 = .ok (.ifCond .lt 12, 3) := by decide +kernel
theorem dX10_callTable_38 : decode cX10_callTable 38 = .ok (.aload_n 0, 1) := by decide +kernel
theorem dX10_callTable_39 : decode cX10_callTable 39 = .ok (.bipush 6, 2) := by decide +kernel
theorem dX10_callTable_41 : decode cX10_callTable 41 = .ok (.invokevirtual 249, 3) := by decide +kernel
theorem dX10_callTable_44 : decode cX10_callTable 44 = .ok (.goto 54, 3) := by decide +kernel
theorem dX10_callTable_47 : decode cX10_callTable 47 = .ok (.iload 5, 2) := by decide +kernel
theorem dX10_callTable_49 : decode cX10_callTable 49 = .ok (.ifCond .ge 12, 3) := by decide +kernel
theorem dX10_callTable_52 : decode cX10_callTable 52 = .ok (.aload_n 0, 1) := by decide +kernel
theorem dX10_callTable_53 : decode cX10_callTable 53 = .ok (.bipush 7, 2) := by decide +kernel
theorem dX10_callTable_55 : decode cX10_callTable 55 = .ok (.invokevirtual 249, 3) := by decide +kernel
theorem dX10_callTable_58 : decode cX10_callTable 58 = .ok (.goto 40, 3) := by decide +kernel
theorem dX10_callTable_61 : decode cX10_callTable 61 = .ok (.aload_n 0, 1) := by decide +kernel
theorem dX10_callTable_62 : decode cX10_callTable 62 = .ok (.getfield 16, 3) := by decide +kernel
theorem dX10_callTable_65 : decode cX10_callTable 65 = .ok (.iload 5, 2) := by decide +kernel
theorem dX10_callTable_67 : decode cX10_callTable 67 = .ok (.iaload, 1) := by decide +kernel
theorem dX10_callTable_68 : decode cX10_callTable 68 = .ok (.iload_n 1, 1) := by decide +kernel
theorem dX10_callTable_69 : decode cX10_callTable 69 = .ok (.if_icmp .ne 14, 3) := by decide +kernel
theorem dX10_callTable_72 : decode cX10_callTable 72 = .ok (.aload_n 0, 1) := by decide +kernel
theorem dX10_callTable_73 : decode cX10_callTable 73 = .ok (.getfield 19, 3) := by decide +kernel
theorem dX10_callTable_76 : decode cX10_callTable 76 = .ok (.iload 5, 2) := by decide +kernel
theorem dX10_callTable_78 : decode cX10_callTable 78 = .ok (.iaload, 1) := by decide +kernel
theorem dX10_callTable_79 : decode cX10_callTable 79 = .ok (.iload_n 2, 1) := by decide +kernel
theorem dX10_callTable_80 : decode cX10_callTable 80 = .ok (.if_icmp .eq 12, 3) := by decide +kernel
theorem dX10_callTable_83 : decode cX10_callTable 83 = .ok (.aload_n 0, 1) := by decide +kernel
theorem dX10_callTable_84 : decode cX10_callTable 84 = .ok (.bipush 8, 2) := by decide +kernel
theorem dX10_callTable_86 : decode cX10_callTable 86 = .ok (.invokevirtual 249, 3) := by decide +kernel
theorem dX10_callTable_89 : decode cX10_callTable 89 = .ok (.goto 9, 3) := by decide +kernel
theorem dX10_callTable_92 : decode cX10_callTable 92 = .ok (.aload_n 0, 1) := by decide +kernel
theorem dX10_callTable_93 : decode cX10_callTable 93 = .ok (.iload 5, 2) := by decide +kernel
theorem dX10_callTable_95 : decode cX10_callTable 95 = .ok (.invokevirtual 252, 3) := by decide +kernel
theorem dX10_callTable_98 : decode cX10_callTable 98 = .ok (.return_, 1) := by decide +kernel
theorem dX10_size_0 : decode cX10_size 0 = .ok (.iload_n 0, 1) := by decide +kernel
theorem dX10_size_1 : decode cX10_size 1 = .ok (.bipush 41, 2) := by decide +kernel
theorem dX10_size_3 : decode cX10_size 3 = .ok (.if_icmp .eq 21, 3) := by decide +kernel
theorem dX10_size_6 : decode cX10_size 6 = .ok (.iload_n 0, 1) := by decide +kernel
theorem dX10_size_7 : decode cX10_size 7 = .ok (.bipush 43, 2) := by decide +kernel
theorem dX10_size_9 : decode cX10_size 9 = .ok (.if_icmp .eq 15, 3) := by decide +kernel
theorem dX10_size_12 : decode cX10_size 12 = .ok (.iload_n 0, 1) := by decide +kernel
theorem dX10_size_13 : decode cX10_size 13 = .ok (.bipush 55, 2) := by decide +kernel
theorem dX10_size_15 : decode cX10_size 15 = .ok (.if_icmp .eq 9, 3) := by decide +kernel
theorem dX10_size_18 : decode cX10_size 18 = .ok (.iload_n 0, 1) := by decide +kernel
theorem dX10_size_19 : decode cX10_size 19 = .ok (.bipush 57, 2) := by decide +kernel
theorem dX10_size_21 : decode cX10_size 21 = .ok (.if_icmp .ne 6, 3) := by decide +kernel
theorem dX10_size_24 : decode cX10_size 24 = .ok (.bipush 8, 2) := by decide +kernel
theorem dX10_size_26 : decode cX10_size 26 = .ok (.ireturn, 1) := by decide +kernel
theorem dX10_size_27 : decode cX10_size 27 = .ok (.iload_n 0, 1) := by decide +kernel
theorem dX10_size_28 : decode cX10_size 28 = .ok (.bipush 40, 2) := by decide +kernel
theorem dX10_size_30 : decode cX10_size 30 = .ok (.if_icmp .eq 39, 3) := by decide +kernel
theorem dX10_size_33 : decode cX10_size 33 = .ok (.iload_n 0, 1) := by decide +kernel
theorem dX10_size_34 : decode cX10_size 34 = .ok (.bipush 42, 2) := by decide +kernel
theorem dX10_size_36 : decode cX10_size 36 = .ok (.if_icmp .eq 33, 3) := by decide +kernel
theorem dX10_size_39 : decode cX10_size 39 = .ok (.iload_n 0, 1) := by decide +kernel
theorem dX10_size_40 : decode cX10_size 40 = .ok (.bipush 52, 2) := by decide +kernel
theorem dX10_size_42 : decode cX10_size 42 = .ok (.if_icmp .eq 27, 3) := by decide +kernel
theorem dX10_size_45 : decode cX10_size 45 = .ok (.iload_n 0, 1) := by decide +kernel
theorem dX10_size_46 : decode cX10_size 46 = .ok (.bipush 53, 2) := by decide +kernel
theorem dX10_size_48 : decode cX10_size 48 = .ok (.if_icmp .eq 21, 3) := by decide +kernel
theorem dX10_size_51 : decode cX10_size 51 = .ok (.iload_n 0, 1) := by decide +kernel
theorem dX10_size_52 : decode cX10_size 52 = .ok (.bipush 54, 2) := by decide +kernel
theorem dX10_size_54 : decode cX10_size 54 = .ok (.if_icmp .eq 15, 3) := by decide +kernel
theorem dX10_size_57 : decode cX10_size 57 = .ok (.iload_n 0, 1) := by decide +kernel
theorem dX10_size_58 : decode cX10_size 58 = .ok (.bipush 56, 2) := by decide +kernel
theorem dX10_size_60 : decode cX10_size 60 = .ok (.if_icmp .eq 9, 3) := by decide +kernel
theorem dX10_size_63 : decode cX10_size 63 = .ok (.iload_n 0, 1) := by decide +kernel
theorem dX10_size_64 : decode cX10_size 64 = .ok (.bipush 62, 2) := by decide +kernel
theorem dX10_size_66 : decode cX10_size 66 = .ok (.if_icmp .ne 5, 3) := by decide +kernel
theorem dX10_size_69 : decode cX10_size 69 = .ok (.iconst 4, 1) := by decide +kernel
theorem dX10_size_70 : decode cX10_size 70 = .ok (.ireturn, 1) := by decide +kernel
theorem dX10_size_71 : decode cX10_size 71 = .ok (.iload_n 0, 1) := by decide +kernel
theorem dX10_size_72 : decode cX10_size 72 = .ok (.bipush 46, 2) := by decide +kernel
theorem dX10_size_74 : decode cX10_size 74 = .ok (.if_icmp .eq 33, 3) := by decide +kernel
theorem dX10_size_77 : decode cX10_size 77 = .ok (.iload_n 0, 1) := by decide +kernel
theorem dX10_size_78 : decode cX10_size 78 = .ok (.bipush 47, 2) := by decide +kernel
theorem dX10_size_80 : decode cX10_size 80 = .ok (.if_icmp .eq 27, 3) := by decide +kernel
theorem dX10_size_83 : decode cX10_size 83 = .ok (.iload_n 0, 1) := by decide +kernel
theorem dX10_size_84 : decode cX10_size 84 = .ok (.bipush 50, 2) := by decide +kernel
theorem dX10_size_86 : decode cX10_size 86 = .ok (.if_icmp .eq 21, 3) := by decide +kernel
theorem dX10_size_89 : decode cX10_size 89 = .ok (.iload_n 0, 1) := by decide +kernel
theorem dX10_size_90 : decode cX10_size 90 = .ok (.bipush 51, 2) := by decide +kernel
theorem dX10_size_92 : decode cX10_size 92 = .ok (.if_icmp .eq 15, 3) := by decide +kernel
theorem dX10_size_95 : decode cX10_size 95 = .ok (.iload_n 0, 1) := by decide +kernel
theorem dX10_size_96 : decode cX10_size 96 = .ok (.bipush 59, 2) := by decide +kernel
theorem dX10_size_98 : decode cX10_size 98 = .ok (.if_icmp .eq 9, 3) := by decide +kernel
theorem dX10_size_101 : decode cX10_size 101 = .ok (.iload_n 0, 1) := by decide +kernel
theorem dX10_size_102 : decode cX10_size 102 = .ok (.bipush 61, 2) := by decide +kernel
theorem dX10_size_104 : decode cX10_size 104 = .ok (.if_icmp .ne 7, 3) := by decide +kernel
theorem dX10_size_107 : decode cX10_size 107 = .ok (.iconst 2, 1) := by decide +kernel
theorem dX10_size_108 : decode cX10_size 108 = .ok (.goto 4, 3) := by decide +kernel
theorem dX10_size_111 : decode cX10_size 111 = .ok (.iconst 1, 1) := by decide +kernel
theorem dX10_size_112 : decode cX10_size 112 = .ok (.ireturn, 1) := by decide +kernel
theorem dX10_move_0 : decode cX10_move 0 = .ok (.iload_n 1, 1) := by decide +kernel
theorem dX10_move_1 : decode cX10_move 1 = .ok (.invokestatic 255, 3) := by decide +kernel
theorem dX10_move_4 : decode cX10_move 4 = .ok (.istore_n 3, 1) := by decide +kernel
theorem dX10_move_5 : decode cX10_move 5 = .ok (.iload_n 1, 1) := by decide +kernel
theorem dX10_move_6 : decode cX10_move 6 = .ok (.bipush 54, 2) := by decide +kernel
theorem dX10_move_8 : decode cX10_move 8 = .ok (.if_icmp .ge 7, 3) := by decide +kernel
theorem dX10_move_11 : decode cX10_move 11 = .ok (.iconst 1, 1) := by decide +kernel
theorem dX10_move_12 : decode cX10_move 12 = .ok (.goto 4, 3) := by decide +kernel
theorem dX10_move_15 : decode cX10_move 15 = .ok (.iconst 0, 1) := by decide +kernel
theorem dX10_move_16 : decode cX10_move 16 = .ok (.istore 4, 2) := by decide +kernel
theorem dX10_move_18 : decode cX10_move 18 = .ok (.iload 4, 2) := by decide +kernel
theorem dX10_move_20 : decode cX10_move 20 = .ok (.ifCond .eq 7, 3) := by decide +kernel
theorem dX10_move_23 : decode cX10_move 23 = .ok (.lconst 0, 1) := by decide +kernel
theorem dX10_move_24 : decode cX10_move 24 = .ok (.goto 7, 3) := by decide +kernel
theorem dX10_move_27 : decode cX10_move 27 = .ok (.aload_n 0, 1) := by decide +kernel
theorem dX10_move_28 : decode cX10_move 28 = .ok (.invokevirtual 243, 3) := by decide +kernel
theorem dX10_move_31 : decode cX10_move 31 = .ok (.lstore 5, 2) := by decide +kernel
theorem dX10_move_33 : decode cX10_move 33 = .ok (.aload_n 0, 1) := by decide +kernel
theorem dX10_move_34 : decode cX10_move 34 = .ok (.invokevirtual 243, 3) := by decide +kernel
theorem dX10_move_37 : decode cX10_move 37 = .ok (.ldc2_w 241, 3) := by decide +kernel
theorem dX10_move_40 : decode cX10_move 40 = .ok (.land, 1) := by decide +kernel
theorem dX10_move_41 : decode cX10_move 41 = .ok (.iload_n 2, 1) := by decide +kernel
theorem dX10_move_42 : decode cX10_move 42 = .ok (.i2l, 1) := by decide +kernel
theorem dX10_move_43 : decode cX10_move 43 = .ok (.ldc2_w 241, 3) := by decide +kernel
theorem dX10_move_46 : decode cX10_move 46 = .ok (.land, 1) := by decide +kernel
theorem dX10_move_47 : decode cX10_move 47 = .ok (.ladd, 1) := by decide +kernel
theorem dX10_move_48 : decode cX10_move 48 = .ok (.lstore 7, 2) := by decide +kernel
theorem dX10_move_50 : decode cX10_move 50 = .ok (.lload 7, 2) := by decide +kernel
theorem dX10_move_52 : decode cX10_move 52 = .ok (.iload_n 3, 1) := by decide +kernel
theorem dX10_move_53 : decode cX10_move 53 = .ok (.i2l, 1) := by decide +kernel
theorem dX10_move_54 : decode cX10_move 54 = .ok (.ladd, 1) := by decide +kernel
theorem dX10_move_55 : decode cX10_move 55 = .ok (.ldc2_w 258, 3) := by decide +kernel
theorem dX10_move_58 : decode cX10_move 58 = .ok (.aload_n 0, 1) := by decide +kernel
theorem dX10_move_59 : decode cX10_move 59 = .ok (.getfield 69, 3) := by decide +kernel
theorem dX10_move_62 : decode cX10_move 62 = .ok (.i2l, 1) := by decide +kernel
theorem dX10_move_63 : decode cX10_move 63 = .ok (.lmul, 1) := by decide +kernel
theorem dX10_move_64 : decode cX10_move 64 = .ok (.lcmp, 1) := by decide +kernel
theorem dX10_move_65 : decode cX10_move 65 = .ok (.ifCond .le 9, 3) := by decide +kernel
theorem dX10_move_68 : decode cX10_move 68 = .ok (.aload_n 0, 1) := by decide +kernel
theorem dX10_move_69 : decode cX10_move 69 = .ok (.iconst 4, 1) := by decide +kernel
theorem dX10_move_70 : decode cX10_move 70 = .ok (.invokevirtual 249, 3) := by decide +kernel
theorem dX10_move_73 : decode cX10_move 73 = .ok (.return_, 1) := by decide +kernel
theorem dX10_move_74 : decode cX10_move 74 = .ok (.lload 7, 2) := by decide +kernel
theorem dX10_move_76 : decode cX10_move 76 = .ok (.l2i, 1) := by decide +kernel
theorem dX10_move_77 : decode cX10_move 77 = .ok (.istore 9, 2) := by decide +kernel
theorem dX10_move_79 : decode cX10_move 79 = .ok (.iload 4, 2) := by decide +kernel
theorem dX10_move_81 : decode cX10_move 81 = .ok (.ifCond .ne 42, 3) := by decide +kernel
theorem dX10_move_84 : decode cX10_move 84 = .ok (.iconst 0, 1) := by decide +kernel
theorem dX10_move_85 : decode cX10_move 85 = .ok (.istore 10, 2) := by decide +kernel
theorem dX10_move_87 : decode cX10_move 87 = .ok (.iload 10, 2) := by decide +kernel
theorem dX10_move_89 : decode cX10_move 89 = .ok (.iload_n 3, 1) := by decide +kernel
theorem dX10_move_90 : decode cX10_move 90 = .ok (.if_icmp .ge 32, 3) := by decide +kernel
theorem dX10_move_93 : decode cX10_move 93 = .ok (.aload_n 0, 1) := by decide +kernel
theorem dX10_move_94 : decode cX10_move 94 = .ok (.getfield 66, 3) := by decide +kernel
theorem dX10_move_97 : decode cX10_move 97 = .ok (.iload 9, 2) := by decide +kernel
theorem dX10_move_99 : decode cX10_move 99 = .ok (.iload 10, 2) := by decide +kernel
theorem dX10_move_101 : decode cX10_move 101 = .ok (.iadd, 1) := by decide +kernel
theorem dX10_move_102 : decode cX10_move 102 = .ok (.lload 5, 2) := by decide +kernel
theorem dX10_move_104 : decode cX10_move 104 = .ok (.bipush 8, 2) := by decide +kernel
theorem dX10_move_106 : decode cX10_move 106 = .ok (.iload 10, 2) := by decide +kernel
theorem dX10_move_108 : decode cX10_move 108 = .ok (.imul, 1) := by decide +kernel
theorem dX10_move_109 : decode cX10_move 109 = .ok (.lshr, 1) := by decide +kernel
theorem dX10_move_110 : decode cX10_move 110 = .ok (.ldc2_w 260, 3) := by decide +kernel
theorem dX10_move_113 : decode cX10_move 113 = .ok (.land, 1) := by decide +kernel
theorem dX10_move_114 : decode cX10_move 114 = .ok (.l2i, 1) := by decide +kernel
theorem dX10_move_115 : decode cX10_move 115 = .ok (.iastore, 1) := by decide +kernel
theorem dX10_move_116 : decode cX10_move 116 = .ok (.iinc 10 1, 3) := by decide +kernel
theorem dX10_move_119 : decode cX10_move 119 = .ok (.goto (-32), 3) := by decide +kernel
theorem dX10_move_122 : decode cX10_move 122 = .ok (.return_, 1) := by decide +kernel
theorem dX10_move_123 : decode cX10_move 123 = .ok (.iload_n 3, 1) := by decide +kernel
theorem dX10_move_124 : decode cX10_move 124 = .ok (.iconst 1, 1) := by decide +kernel
theorem dX10_move_125 : decode cX10_move 125 = .ok (.isub, 1) := by decide +kernel
theorem dX10_move_126 : decode cX10_move 126 = .ok (.istore 10, 2) := by decide +kernel
theorem dX10_move_128 : decode cX10_move 128 = .ok (.iload 10, 2) := by decide +kernel
theorem dX10_move_130 : decode cX10_move 130 = .ok (.ifCond .lt 28, 3) := by decide +kernel
theorem dX10_move_133 : decode cX10_move 133 = .ok (.lload 5, 2) := by decide +kernel
theorem dX10_move_135 : decode cX10_move 135 = .ok (.bipush 8, 2) := by decide +kernel
theorem dX10_move_137 : decode cX10_move 137 = .ok (.lshl, 1) := by decide +kernel
theorem dX10_move_138 : decode cX10_move 138 = .ok (.aload_n 0, 1) := by decide +kernel
theorem dX10_move_139 : decode cX10_move 139 = .ok (.getfield 66, 3) := by decide +kernel
theorem dX10_move_142 : decode cX10_move 142 = .ok (.iload 9, 2) := by decide +kernel
theorem dX10_move_144 : decode cX10_move 144 = .ok (.iload 10, 2) := by decide +kernel
theorem dX10_move_146 : decode cX10_move 146 = .ok (.iadd, 1) := by decide +kernel
theorem dX10_move_147 : decode cX10_move 147 = .ok (.iaload, 1) := by decide +kernel
theorem dX10_move_148 : decode cX10_move 148 = .ok (.i2l, 1) := by decide +kernel
theorem dX10_move_149 : decode cX10_move 149 = .ok (.lor, 1) := by decide +kernel
theorem dX10_move_150 : decode cX10_move 150 = .ok (.lstore 5, 2) := by decide +kernel
theorem dX10_move_152 : decode cX10_move 152 = .ok (.iinc 10 (-1), 3) := by decide +kernel
theorem dX10_move_155 : decode cX10_move 155 = .ok (.goto (-27), 3) := by decide +kernel
theorem dX10_move_158 : decode cX10_move 158 = .ok (.bipush 64, 2) := by decide +kernel
theorem dX10_move_160 : decode cX10_move 160 = .ok (.bipush 8, 2) := by decide +kernel
theorem dX10_move_162 : decode cX10_move 162 = .ok (.iload_n 3, 1) := by decide +kernel
theorem dX10_move_163 : decode cX10_move 163 = .ok (.imul, 1) := by decide +kernel
theorem dX10_move_164 : decode cX10_move 164 = .ok (.isub, 1) := by decide +kernel
theorem dX10_move_165 : decode cX10_move 165 = .ok (.istore 10, 2) := by decide +kernel
theorem dX10_move_167 : decode cX10_move 167 = .ok (.iload_n 1, 1) := by decide +kernel
theorem dX10_move_168 : decode cX10_move 168 = .ok (.bipush 43, 2) := by decide +kernel
theorem dX10_move_170 : decode cX10_move 170 = .ok (.if_icmp .le 13, 3) := by decide +kernel
theorem dX10_move_173 : decode cX10_move 173 = .ok (.iload_n 1, 1) := by decide +kernel
theorem dX10_move_174 : decode cX10_move 174 = .ok (.iconst 2, 1) := by decide +kernel
theorem dX10_move_175 : decode cX10_move 175 = .ok (.irem, 1) := by decide +kernel
theorem dX10_move_176 : decode cX10_move 176 = .ok (.ifCond .ne 7, 3) := by decide +kernel
theorem dX10_move_179 : decode cX10_move 179 = .ok (.iconst 1, 1) := by decide +kernel
theorem dX10_move_180 : decode cX10_move 180 = .ok (.goto 4, 3) := by decide +kernel
theorem dX10_move_183 : decode cX10_move 183 = .ok (.iconst 0, 1) := by decide +kernel
theorem dX10_move_184 : decode cX10_move 184 = .ok (.istore 11, 2) := by decide +kernel
theorem dX10_move_186 : decode cX10_move 186 = .ok (.iload 11, 2) := by decide +kernel
theorem dX10_move_188 : decode cX10_move 188 = .ok (.ifCond .eq 14, 3) := by decide +kernel
theorem dX10_move_191 : decode cX10_move 191 = .ok (.lload 5, 2) := by decide +kernel
theorem dX10_move_193 : decode cX10_move 193 = .ok (.iload 10, 2) := by decide +kernel
theorem dX10_move_195 : decode cX10_move 195 = .ok (.lshl, 1) := by decide +kernel
theorem dX10_move_196 : decode cX10_move 196 = .ok (.iload 10, 2) := by decide +kernel
theorem dX10_move_198 : decode cX10_move 198 = .ok (.lshr, 1) := by decide +kernel
theorem dX10_move_199 : decode cX10_move 199 = .ok (.goto 5, 3) := by decide +kernel
theorem dX10_move_202 : decode cX10_move 202 = .ok (.lload 5, 2) := by decide +kernel
theorem dX10_move_204 : decode cX10_move 204 = .ok (.lstore 5, 2) := by decide +kernel
theorem dX10_move_206 : decode cX10_move 206 = .ok (.aload_n 0, 1) := by decide +kernel
theorem dX10_move_207 : decode cX10_move 207 = .ok (.iload_n 1, 1) := by decide +kernel
theorem dX10_move_208 : decode cX10_move 208 = .ok (.bipush 44, 2) := by decide +kernel
theorem dX10_move_210 : decode cX10_move 210 = .ok (.if_icmp .eq 9, 3) := by decide +kernel
theorem dX10_move_213 : decode cX10_move 213 = .ok (.iload_n 1, 1) := by decide +kernel
theorem dX10_move_214 : decode cX10_move 214 = .ok (.bipush 46, 2) := by decide +kernel
theorem dX10_move_216 : decode cX10_move 216 = .ok (.if_icmp .ne 12, 3) := by decide +kernel
theorem dX10_move_219 : decode cX10_move 219 = .ok (.lload 5, 2) := by decide +kernel
theorem dX10_move_221 : decode cX10_move 221 = .ok (.ldc2_w 241, 3) := by decide +kernel
theorem dX10_move_224 : decode cX10_move 224 = .ok (.land, 1) := by decide +kernel
theorem dX10_move_225 : decode cX10_move 225 = .ok (.goto 5, 3) := by decide +kernel
theorem dX10_move_228 : decode cX10_move 228 = .ok (.lload 5, 2) := by decide +kernel
theorem dX10_move_230 : decode cX10_move 230 = .ok (.invokevirtual 221, 3) := by decide +kernel
theorem dX10_move_233 : decode cX10_move 233 = .ok (.return_, 1) := by decide +kernel
theorem dX10_grow_0 : decode cX10_grow 0 = .ok (.aload_n 0, 1) := by decide +kernel
theorem dX10_grow_1 : decode cX10_grow 1 = .ok (.invokevirtual 243, 3) := by decide +kernel
theorem dX10_grow_4 : decode cX10_grow 4 = .ok (.ldc2_w 241, 3) := by decide +kernel
theorem dX10_grow_7 : decode cX10_grow 7 = .ok (.land, 1) := by decide +kernel
theorem dX10_grow_8 : decode cX10_grow 8 = .ok (.lstore_n 1, 1) := by decide +kernel
theorem dX10_grow_9 : decode cX10_grow 9 = .ok (.aload_n 0, 1) := by decide +kernel
theorem dX10_grow_10 : decode cX10_grow 10 = .ok (.getfield 69, 3) := by decide +kernel
theorem dX10_grow_13 : decode cX10_grow 13 = .ok (.i2l, 1) := by decide +kernel
theorem dX10_grow_14 : decode cX10_grow 14 = .ok (.lload_n 1, 1) := by decide +kernel
theorem dX10_grow_15 : decode cX10_grow 15 = .ok (.ladd, 1) := by decide +kernel
theorem dX10_grow_16 : decode cX10_grow 16 = .ok (.ldc2_w 262, 3) := by decide +kernel
theorem dX10_grow_19 : decode cX10_grow 19 = .ok (.lcmp, 1) := by decide +kernel
theorem dX10_grow_20 : decode cX10_grow 20 = .ok (.ifCond .gt 7, 3) := by decide +kernel
theorem dX10_grow_23 : decode cX10_grow 23 = .ok (.iconst 1, 1) := by decide +kernel
theorem dX10_grow_24 : decode cX10_grow 24 = .ok (.goto 4, 3) := by decide +kernel
theorem dX10_grow_27 : decode cX10_grow 27 = .ok (.iconst 0, 1) := by decide +kernel
theorem dX10_grow_28 : decode cX10_grow 28 = .ok (.istore_n 3, 1) := by decide +kernel
theorem dX10_grow_29 : decode cX10_grow 29 = .ok (.aload_n 0, 1) := by decide +kernel
theorem dX10_grow_30 : decode cX10_grow 30 = .ok (.iload_n 3, 1) := by decide +kernel
theorem dX10_grow_31 : decode cX10_grow 31 = .ok (.ifCond .eq 11, 3) := by decide +kernel
theorem dX10_grow_34 : decode cX10_grow 34 = .ok (.aload_n 0, 1) := by decide +kernel
theorem dX10_grow_35 : decode cX10_grow 35 = .ok (.getfield 69, 3) := by decide +kernel
theorem dX10_grow_38 : decode cX10_grow 38 = .ok (.i2l, 1) := by decide +kernel
theorem dX10_grow_39 : decode cX10_grow 39 = .ok (.goto 6, 3) := by decide +kernel
theorem dX10_grow_42 : decode cX10_grow 42 = .ok (.ldc2_w 241, 3) := by decide +kernel
theorem dX10_grow_45 : decode cX10_grow 45 = .ok (.invokevirtual 221, 3) := by decide +kernel
theorem dX10_grow_48 : decode cX10_grow 48 = .ok (.aload_n 0, 1) := by decide +kernel
theorem dX10_grow_49 : decode cX10_grow 49 = .ok (.dup, 1) := by decide +kernel
theorem dX10_grow_50 : decode cX10_grow 50 = .ok (.getfield 69, 3) := by decide +kernel
theorem dX10_grow_53 : decode cX10_grow 53 = .ok (.iload_n 3, 1) := by decide +kernel
theorem dX10_grow_54 : decode cX10_grow 54 = .ok (.ifCond .eq 8, 3) := by decide +kernel
theorem dX10_grow_57 : decode cX10_grow 57 = .ok (.lload_n 1, 1) := by decide +kernel
theorem dX10_grow_58 : decode cX10_grow 58 = .ok (.l2i, 1) := by decide +kernel
theorem dX10_grow_59 : decode cX10_grow 59 = .ok (.goto 4, 3) := by decide +kernel
theorem dX10_grow_62 : decode cX10_grow 62 = .ok (.iconst 0, 1) := by decide +kernel
theorem dX10_grow_63 : decode cX10_grow 63 = .ok (.iadd, 1) := by decide +kernel
theorem dX10_grow_64 : decode cX10_grow 64 = .ok (.putfield 69, 3) := by decide +kernel
theorem dX10_grow_67 : decode cX10_grow 67 = .ok (.return_, 1) := by decide +kernel
theorem dX10_truth_0 : decode cX10_truth 0 = .ok (.iload_n 0, 1) := by decide +kernel
theorem dX10_truth_1 : decode cX10_truth 1 = .ok (.ifCond .eq 7, 3) := by decide +kernel
theorem dX10_truth_4 : decode cX10_truth 4 = .ok (.lconst 1, 1) := by decide +kernel
theorem dX10_truth_5 : decode cX10_truth 5 = .ok (.goto 4, 3) := by decide +kernel
theorem dX10_truth_8 : decode cX10_truth 8 = .ok (.lconst 0, 1) := by decide +kernel
theorem dX10_truth_9 : decode cX10_truth 9 = .ok (.lreturn, 1) := by decide +kernel
theorem dX10_work_0 : decode cX10_work 0 = .ok (.iload_n 1, 1) := by decide +kernel
theorem dX10_work_1 : decode cX10_work 1 = .ok (.bipush 69, 2) := by decide +kernel
theorem dX10_work_3 : decode cX10_work 3 = .ok (.if_icmp .eq 9, 3) := by decide +kernel
theorem dX10_work_6 : decode cX10_work 6 = .ok (.iload_n 1, 1) := by decide +kernel
theorem dX10_work_7 : decode cX10_work 7 = .ok (.bipush 80, 2) := by decide +kernel
theorem dX10_work_9 : decode cX10_work 9 = .ok (.if_icmp .ne 41, 3) := by decide +kernel
theorem dX10_work_12 : decode cX10_work 12 = .ok (.aload_n 0, 1) := by decide +kernel
theorem dX10_work_13 : decode cX10_work 13 = .ok (.invokevirtual 243, 3) := by decide +kernel
theorem dX10_work_16 : decode cX10_work 16 = .ok (.lstore_n 2, 1) := by decide +kernel
theorem dX10_work_17 : decode cX10_work 17 = .ok (.aload_n 0, 1) := by decide +kernel
theorem dX10_work_18 : decode cX10_work 18 = .ok (.iload_n 1, 1) := by decide +kernel
theorem dX10_work_19 : decode cX10_work 19 = .ok (.bipush 69, 2) := by decide +kernel
theorem dX10_work_21 : decode cX10_work 21 = .ok (.if_icmp .ne 11, 3) := by decide +kernel
theorem dX10_work_24 : decode cX10_work 24 = .ok (.lload_n 2, 1) := by decide +kernel
theorem dX10_work_25 : decode cX10_work 25 = .ok (.ldc2_w 241, 3) := by decide +kernel
theorem dX10_work_28 : decode cX10_work 28 = .ok (.land, 1) := by decide +kernel
theorem dX10_work_29 : decode cX10_work 29 = .ok (.goto 4, 3) := by decide +kernel
theorem dX10_work_32 : decode cX10_work 32 = .ok (.lload_n 2, 1) := by decide +kernel
theorem dX10_work_33 : decode cX10_work 33 = .ok (.lconst 0, 1) := by decide +kernel
theorem dX10_work_34 : decode cX10_work 34 = .ok (.lcmp, 1) := by decide +kernel
theorem dX10_work_35 : decode cX10_work 35 = .ok (.ifCond .ne 7, 3) := by decide +kernel
theorem dX10_work_38 : decode cX10_work 38 = .ok (.iconst 1, 1) := by decide +kernel
theorem dX10_work_39 : decode cX10_work 39 = .ok (.goto 4, 3) := by decide +kernel
theorem dX10_work_42 : decode cX10_work 42 = .ok (.iconst 0, 1) := by decide +kernel
theorem dX10_work_43 : decode cX10_work 43 = .ok (.invokestatic 264, 3) := by decide +kernel
theorem dX10_work_46 : decode cX10_work 46 = .ok (.invokevirtual 221, 3) := by decide +kernel
theorem dX10_work_49 : decode cX10_work 49 = .ok (.return_, 1) := by decide +kernel
theorem dX10_work_50 : decode cX10_work 50 = .ok (.iload_n 1, 1) := by decide +kernel
theorem dX10_work_51 : decode cX10_work 51 = .ok (.sipush 167, 3) := by decide +kernel
theorem dX10_work_54 : decode cX10_work 54 = .ok (.if_icmp .eq 10, 3) := by decide +kernel
theorem dX10_work_57 : decode cX10_work 57 = .ok (.iload_n 1, 1) := by decide +kernel
theorem dX10_work_58 : decode cX10_work 58 = .ok (.sipush 173, 3) := by decide +kernel
theorem dX10_work_61 : decode cX10_work 61 = .ok (.if_icmp .ne 16, 3) := by decide +kernel
theorem dX10_work_64 : decode cX10_work 64 = .ok (.aload_n 0, 1) := by decide +kernel
theorem dX10_work_65 : decode cX10_work 65 = .ok (.aload_n 0, 1) := by decide +kernel
theorem dX10_work_66 : decode cX10_work 66 = .ok (.invokevirtual 243, 3) := by decide +kernel
theorem dX10_work_69 : decode cX10_work 69 = .ok (.ldc2_w 241, 3) := by decide +kernel
theorem dX10_work_72 : decode cX10_work 72 = .ok (.land, 1) := by decide +kernel
theorem dX10_work_73 : decode cX10_work 73 = .ok (.invokevirtual 221, 3) := by decide +kernel
theorem dX10_work_76 : decode cX10_work 76 = .ok (.return_, 1) := by decide +kernel
theorem dX10_work_77 : decode cX10_work 77 = .ok (.aload_n 0, 1) := by decide +kernel
theorem dX10_work_78 : decode cX10_work 78 = .ok (.invokevirtual 243, 3) := by decide +kernel
theorem dX10_work_81 : decode cX10_work 81 = .ok (.lstore_n 2, 1) := by decide +kernel
theorem dX10_work_82 : decode cX10_work 82 = .ok (.aload_n 0, 1) := by decide +kernel
theorem dX10_work_83 : decode cX10_work 83 = .ok (.invokevirtual 243, 3) := by decide +kernel
theorem dX10_work_86 : decode cX10_work 86 = .ok (.lstore 4, 2) := by decide +kernel
theorem dX10_work_88 : decode cX10_work 88 = .ok (.lload 4, 2) := by decide +kernel
theorem dX10_work_90 : decode cX10_work 90 = .ok (.ldc2_w 241, 3) := by decide +kernel
theorem dX10_work_93 : decode cX10_work 93 = .ok (.land, 1) := by decide +kernel
theorem dX10_work_94 : decode cX10_work 94 = .ok (.lstore 6, 2) := by decide +kernel
theorem dX10_work_96 : decode cX10_work 96 = .ok (.lload_n 2, 1) := by decide +kernel
theorem dX10_work_97 : decode cX10_work 97 = .ok (.ldc2_w 241, 3) := by decide +kernel
theorem dX10_work_100 : decode cX10_work 100 = .ok (.land, 1) := by decide +kernel
theorem dX10_work_101 : decode cX10_work 101 = .ok (.lstore 8, 2) := by decide +kernel
theorem dX10_work_103 : decode cX10_work 103 = .ok (.iload_n 1, 1) := by decide +kernel
theorem dX10_work_104 : decode cX10_work 104 = .ok (.tableswitch 507 70 125 #[240, 263, 286, 309, 507, 507, 507, 507, 507, 507, 507, 332, 507, 354, 507, 507, 507, 507, 507, 507, 507, 507, 507, 507, 507, 507, 507, 507, 507, 507, 507, 507, 507, 507, 507, 507, 376, 392, 408, 507, 424, 507, 507, 452, 507, 507, 464, 507, 507, 507, 507, 507, 507, 507, 485, 496], 240) := by decide +kernel
theorem dX10_work_344 : decode cX10_work 344 = .ok (.aload_n 0, 1) := by decide +kernel
theorem dX10_work_345 : decode cX10_work 345 = .ok (.lload 6, 2) := by decide +kernel
theorem dX10_work_347 : decode cX10_work 347 = .ok (.lload 8, 2) := by decide +kernel
theorem dX10_work_349 : decode cX10_work 349 = .ok (.lcmp, 1) := by decide +kernel
theorem dX10_work_350 : decode cX10_work 350 = .ok (.ifCond .ne 7, 3) := by decide +kernel
theorem dX10_work_353 : decode cX10_work 353 = .ok (.iconst 1, 1) := by decide +kernel
theorem dX10_work_354 : decode cX10_work 354 = .ok (.goto 4, 3) := by decide +kernel
theorem dX10_work_357 : decode cX10_work 357 = .ok (.iconst 0, 1) := by decide +kernel
theorem dX10_work_358 : decode cX10_work 358 = .ok (.invokestatic 264, 3) := by decide +kernel
theorem dX10_work_361 : decode cX10_work 361 = .ok (.invokevirtual 221, 3) := by decide +kernel
theorem dX10_work_364 : decode cX10_work 364 = .ok (.goto 255, 3) := by decide +kernel
theorem dX10_work_367 : decode cX10_work 367 = .ok (.aload_n 0, 1) := by decide +kernel
theorem dX10_work_368 : decode cX10_work 368 = .ok (.lload 6, 2) := by decide +kernel
theorem dX10_work_370 : decode cX10_work 370 = .ok (.lload 8, 2) := by decide +kernel
theorem dX10_work_372 : decode cX10_work 372 = .ok (.lcmp, 1) := by decide +kernel
theorem dX10_work_373 : decode cX10_work 373 = .ok (.ifCond .eq 7, 3) := by decide +kernel
theorem dX10_work_376 : decode cX10_work 376 = .ok (.iconst 1, 1) := by decide +kernel
theorem dX10_work_377 : decode cX10_work 377 = .ok (.goto 4, 3) := by decide +kernel
theorem dX10_work_380 : decode cX10_work 380 = .ok (.iconst 0, 1) := by decide +kernel
theorem dX10_work_381 : decode cX10_work 381 = .ok (.invokestatic 264, 3) := by decide +kernel
theorem dX10_work_384 : decode cX10_work 384 = .ok (.invokevirtual 221, 3) := by decide +kernel
theorem dX10_work_387 : decode cX10_work 387 = .ok (.goto 232, 3) := by decide +kernel
theorem dX10_work_390 : decode cX10_work 390 = .ok (.aload_n 0, 1) := by decide +kernel
theorem dX10_work_391 : decode cX10_work 391 = .ok (.lload 4, 2) := by decide +kernel
theorem dX10_work_393 : decode cX10_work 393 = .ok (.l2i, 1) := by decide +kernel
theorem dX10_work_394 : decode cX10_work 394 = .ok (.lload_n 2, 1) := by decide +kernel
theorem dX10_work_395 : decode cX10_work 395 = .ok (.l2i, 1) := by decide +kernel
theorem dX10_work_396 : decode cX10_work 396 = .ok (.if_icmp .ge 7, 3) := by decide +kernel
theorem dX10_work_399 : decode cX10_work 399 = .ok (.iconst 1, 1) := by decide +kernel
theorem dX10_work_400 : decode cX10_work 400 = .ok (.goto 4, 3) := by decide +kernel
theorem dX10_work_403 : decode cX10_work 403 = .ok (.iconst 0, 1) := by decide +kernel
theorem dX10_work_404 : decode cX10_work 404 = .ok (.invokestatic 264, 3) := by decide +kernel
theorem dX10_work_407 : decode cX10_work 407 = .ok (.invokevirtual 221, 3) := by decide +kernel
theorem dX10_work_410 : decode cX10_work 410 = .ok (.goto 209, 3) := by decide +kernel
theorem dX10_work_413 : decode cX10_work 413 = .ok (.aload_n 0, 1) := by decide +kernel
theorem dX10_work_414 : decode cX10_work 414 = .ok (.lload 6, 2) := by decide +kernel
theorem dX10_work_416 : decode cX10_work 416 = .ok (.lload 8, 2) := by decide +kernel
theorem dX10_work_418 : decode cX10_work 418 = .ok (.lcmp, 1) := by decide +kernel
theorem dX10_work_419 : decode cX10_work 419 = .ok (.ifCond .ge 7, 3) := by decide +kernel
theorem dX10_work_422 : decode cX10_work 422 = .ok (.iconst 1, 1) := by decide +kernel
theorem dX10_work_423 : decode cX10_work 423 = .ok (.goto 4, 3) := by decide +kernel
theorem dX10_work_426 : decode cX10_work 426 = .ok (.iconst 0, 1) := by decide +kernel
theorem dX10_work_427 : decode cX10_work 427 = .ok (.invokestatic 264, 3) := by decide +kernel
theorem dX10_work_430 : decode cX10_work 430 = .ok (.invokevirtual 221, 3) := by decide +kernel
theorem dX10_work_433 : decode cX10_work 433 = .ok (.goto 186, 3) := by decide +kernel
theorem dX10_work_436 : decode cX10_work 436 = .ok (.aload_n 0, 1) := by decide +kernel
theorem dX10_work_437 : decode cX10_work 437 = .ok (.lload 4, 2) := by decide +kernel
theorem dX10_work_439 : decode cX10_work 439 = .ok (.lload_n 2, 1) := by decide +kernel
theorem dX10_work_440 : decode cX10_work 440 = .ok (.lcmp, 1) := by decide +kernel
theorem dX10_work_441 : decode cX10_work 441 = .ok (.ifCond .ne 7, 3) := by decide +kernel
theorem dX10_work_444 : decode cX10_work 444 = .ok (.iconst 1, 1) := by decide +kernel
theorem dX10_work_445 : decode cX10_work 445 = .ok (.goto 4, 3) := by decide +kernel
theorem dX10_work_448 : decode cX10_work 448 = .ok (.iconst 0, 1) := by decide +kernel
theorem dX10_work_449 : decode cX10_work 449 = .ok (.invokestatic 264, 3) := by decide +kernel
theorem dX10_work_452 : decode cX10_work 452 = .ok (.invokevirtual 221, 3) := by decide +kernel
theorem dX10_work_455 : decode cX10_work 455 = .ok (.goto 164, 3) := by decide +kernel
theorem dX10_work_458 : decode cX10_work 458 = .ok (.aload_n 0, 1) := by decide +kernel
theorem dX10_work_459 : decode cX10_work 459 = .ok (.lload 4, 2) := by decide +kernel
theorem dX10_work_461 : decode cX10_work 461 = .ok (.lload_n 2, 1) := by decide +kernel
theorem dX10_work_462 : decode cX10_work 462 = .ok (.lcmp, 1) := by decide +kernel
theorem dX10_work_463 : decode cX10_work 463 = .ok (.ifCond .ge 7, 3) := by decide +kernel
theorem dX10_work_466 : decode cX10_work 466 = .ok (.iconst 1, 1) := by decide +kernel
theorem dX10_work_467 : decode cX10_work 467 = .ok (.goto 4, 3) := by decide +kernel
theorem dX10_work_470 : decode cX10_work 470 = .ok (.iconst 0, 1) := by decide +kernel
theorem dX10_work_471 : decode cX10_work 471 = .ok (.invokestatic 264, 3) := by decide +kernel
theorem dX10_work_474 : decode cX10_work 474 = .ok (.invokevirtual 221, 3) := by decide +kernel
theorem dX10_work_477 : decode cX10_work 477 = .ok (.goto 142, 3) := by decide +kernel
theorem dX10_work_480 : decode cX10_work 480 = .ok (.aload_n 0, 1) := by decide +kernel
theorem dX10_work_481 : decode cX10_work 481 = .ok (.lload 6, 2) := by decide +kernel
theorem dX10_work_483 : decode cX10_work 483 = .ok (.lload 8, 2) := by decide +kernel
theorem dX10_work_485 : decode cX10_work 485 = .ok (.ladd, 1) := by decide +kernel
theorem dX10_work_486 : decode cX10_work 486 = .ok (.ldc2_w 241, 3) := by decide +kernel
theorem dX10_work_489 : decode cX10_work 489 = .ok (.land, 1) := by decide +kernel
theorem dX10_work_490 : decode cX10_work 490 = .ok (.invokevirtual 221, 3) := by decide +kernel
theorem dX10_work_493 : decode cX10_work 493 = .ok (.goto 126, 3) := by decide +kernel
theorem dX10_work_496 : decode cX10_work 496 = .ok (.aload_n 0, 1) := by decide +kernel
theorem dX10_work_497 : decode cX10_work 497 = .ok (.lload 6, 2) := by decide +kernel
theorem dX10_work_499 : decode cX10_work 499 = .ok (.lload 8, 2) := by decide +kernel
theorem dX10_work_501 : decode cX10_work 501 = .ok (.lsub, 1) := by decide +kernel
theorem dX10_work_502 : decode cX10_work 502 = .ok (.ldc2_w 241, 3) := by decide +kernel
theorem dX10_work_505 : decode cX10_work 505 = .ok (.land, 1) := by decide +kernel
theorem dX10_work_506 : decode cX10_work 506 = .ok (.invokevirtual 221, 3) := by decide +kernel
theorem dX10_work_509 : decode cX10_work 509 = .ok (.goto 110, 3) := by decide +kernel
theorem dX10_work_512 : decode cX10_work 512 = .ok (.aload_n 0, 1) := by decide +kernel
theorem dX10_work_513 : decode cX10_work 513 = .ok (.lload 6, 2) := by decide +kernel
theorem dX10_work_515 : decode cX10_work 515 = .ok (.lload 8, 2) := by decide +kernel
theorem dX10_work_517 : decode cX10_work 517 = .ok (.lmul, 1) := by decide +kernel
theorem dX10_work_518 : decode cX10_work 518 = .ok (.ldc2_w 241, 3) := by decide +kernel
theorem dX10_work_521 : decode cX10_work 521 = .ok (.land, 1) := by decide +kernel
theorem dX10_work_522 : decode cX10_work 522 = .ok (.invokevirtual 221, 3) := by decide +kernel
theorem dX10_work_525 : decode cX10_work 525 = .ok (.goto 94, 3) := by decide +kernel
theorem dX10_work_528 : decode cX10_work 528 = .ok (.lload 8, 2) := by decide +kernel
theorem dX10_work_530 : decode cX10_work 530 = .ok (.lconst 0, 1) := by decide +kernel
theorem dX10_work_531 : decode cX10_work 531 = .ok (.lcmp, 1) := by decide +kernel
theorem dX10_work_532 : decode cX10_work 532 = .ok (.ifCond .ne 12, 3) := by decide +kernel
theorem dX10_work_535 : decode cX10_work 535 = .ok (.aload_n 0, 1) := by decide +kernel
theorem dX10_work_536 : decode cX10_work 536 = .ok (.bipush 11, 2) := by decide +kernel
theorem dX10_work_538 : decode cX10_work 538 = .ok (.invokevirtual 249, 3) := by decide +kernel
theorem dX10_work_541 : decode cX10_work 541 = .ok (.goto 78, 3) := by decide +kernel
theorem dX10_work_544 : decode cX10_work 544 = .ok (.aload_n 0, 1) := by decide +kernel
theorem dX10_work_545 : decode cX10_work 545 = .ok (.lload 6, 2) := by decide +kernel
theorem dX10_work_547 : decode cX10_work 547 = .ok (.lload 8, 2) := by decide +kernel
theorem dX10_work_549 : decode cX10_work 549 = .ok (.ldiv, 1) := by decide +kernel
theorem dX10_work_550 : decode cX10_work 550 = .ok (.invokevirtual 221, 3) := by decide +kernel
theorem dX10_work_553 : decode cX10_work 553 = .ok (.goto 66, 3) := by decide +kernel
theorem dX10_work_556 : decode cX10_work 556 = .ok (.aload_n 0, 1) := by decide +kernel
theorem dX10_work_557 : decode cX10_work 557 = .ok (.lload 6, 2) := by decide +kernel
theorem dX10_work_559 : decode cX10_work 559 = .ok (.lload 8, 2) := by decide +kernel
