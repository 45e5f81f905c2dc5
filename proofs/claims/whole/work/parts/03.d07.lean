theorem dX10_otherwise_14 : decode cX10_otherwise 14 = .ok (.invokevirtual 142, 3) := by decide +kernel
theorem dX10_otherwise_17 : decode cX10_otherwise 17 = .ok (.ifCond .ne 5, 3) := by decide +kernel
theorem dX10_otherwise_20 : decode cX10_otherwise 20 = .ok (.iconst 0, 1) := by decide +kernel
theorem dX10_otherwise_21 : decode cX10_otherwise 21 = .ok (.ireturn, 1) := by decide +kernel
theorem dX10_otherwise_22 : decode cX10_otherwise 22 = .ok (.aload_n 0, 1) := by decide +kernel
theorem dX10_otherwise_23 : decode cX10_otherwise 23 = .ok (.getfield 40, 3) := by decide +kernel
theorem dX10_otherwise_26 : decode cX10_otherwise 26 = .ok (.aload_n 0, 1) := by decide +kernel
theorem dX10_otherwise_27 : decode cX10_otherwise 27 = .ok (.invokevirtual 127, 3) := by decide +kernel
theorem dX10_otherwise_30 : decode cX10_otherwise 30 = .ok (.iconst 5, 1) := by decide +kernel
theorem dX10_otherwise_31 : decode cX10_otherwise 31 = .ok (.iastore, 1) := by decide +kernel
theorem dX10_otherwise_32 : decode cX10_otherwise 32 = .ok (.aload_n 0, 1) := by decide +kernel
theorem dX10_otherwise_33 : decode cX10_otherwise 33 = .ok (.getfield 52, 3) := by decide +kernel
theorem dX10_otherwise_36 : decode cX10_otherwise 36 = .ok (.aload_n 0, 1) := by decide +kernel
theorem dX10_otherwise_37 : decode cX10_otherwise 37 = .ok (.invokevirtual 127, 3) := by decide +kernel
theorem dX10_otherwise_40 : decode cX10_otherwise 40 = .ok (.aload_n 0, 1) := by decide +kernel
theorem dX10_otherwise_41 : decode cX10_otherwise 41 = .ok (.getfield 43, 3) := by decide +kernel
theorem dX10_otherwise_44 : decode cX10_otherwise 44 = .ok (.aload_n 0, 1) := by decide +kernel
theorem dX10_otherwise_45 : decode cX10_otherwise 45 = .ok (.invokevirtual 127, 3) := by decide +kernel
theorem dX10_otherwise_48 : decode cX10_otherwise 48 = .ok (.iaload, 1) := by decide +kernel
theorem dX10_otherwise_49 : decode cX10_otherwise 49 = .ok (.iastore, 1) := by decide +kernel
theorem dX10_otherwise_50 : decode cX10_otherwise 50 = .ok (.aload_n 0, 1) := by decide +kernel
theorem dX10_otherwise_51 : decode cX10_otherwise 51 = .ok (.getfield 55, 3) := by decide +kernel
theorem dX10_otherwise_54 : decode cX10_otherwise 54 = .ok (.aload_n 0, 1) := by decide +kernel
theorem dX10_otherwise_55 : decode cX10_otherwise 55 = .ok (.invokevirtual 127, 3) := by decide +kernel
theorem dX10_otherwise_58 : decode cX10_otherwise 58 = .ok (.iconst 0, 1) := by decide +kernel
theorem dX10_otherwise_59 : decode cX10_otherwise 59 = .ok (.bastore, 1) := by decide +kernel
theorem dX10_otherwise_60 : decode cX10_otherwise 60 = .ok (.iconst 1, 1) := by decide +kernel
theorem dX10_otherwise_61 : decode cX10_otherwise 61 = .ok (.ireturn, 1) := by decide +kernel
theorem dX10_end_0 : decode cX10_end 0 = .ok (.aload_n 0, 1) := by decide +kernel
theorem dX10_end_1 : decode cX10_end 1 = .ok (.invokevirtual 142, 3) := by decide +kernel
theorem dX10_end_4 : decode cX10_end 4 = .ok (.ifCond .eq 37, 3) := by decide +kernel
theorem dX10_end_7 : decode cX10_end 7 = .ok (.aload_n 0, 1) := by decide +kernel
theorem dX10_end_8 : decode cX10_end 8 = .ok (.getfield 40, 3) := by decide +kernel
theorem dX10_end_11 : decode cX10_end 11 = .ok (.aload_n 0, 1) := by decide +kernel
theorem dX10_end_12 : decode cX10_end 12 = .ok (.invokevirtual 127, 3) := by decide +kernel
theorem dX10_end_15 : decode cX10_end 15 = .ok (.iaload, 1) := by decide +kernel
theorem dX10_end_16 : decode cX10_end 16 = .ok (.iconst 4, 1) := by decide +kernel
theorem dX10_end_17 : decode cX10_end 17 = .ok (.if_icmp .ne 26, 3) := by decide +kernel
theorem dX10_end_20 : decode cX10_end 20 = .ok (.aload_n 0, 1) := by decide +kernel
theorem dX10_end_21 : decode cX10_end 21 = .ok (.getfield 43, 3) := by decide +kernel
theorem dX10_end_24 : decode cX10_end 24 = .ok (.aload_n 0, 1) := by decide +kernel
theorem dX10_end_25 : decode cX10_end 25 = .ok (.invokevirtual 127, 3) := by decide +kernel
theorem dX10_end_28 : decode cX10_end 28 = .ok (.iaload, 1) := by decide +kernel
theorem dX10_end_29 : decode cX10_end 29 = .ok (.aload_n 0, 1) := by decide +kernel
theorem dX10_end_30 : decode cX10_end 30 = .ok (.getfield 46, 3) := by decide +kernel
theorem dX10_end_33 : decode cX10_end 33 = .ok (.aload_n 0, 1) := by decide +kernel
theorem dX10_end_34 : decode cX10_end 34 = .ok (.invokevirtual 127, 3) := by decide +kernel
theorem dX10_end_37 : decode cX10_end 37 = .ok (.iaload, 1) := by decide +kernel
theorem dX10_end_38 : decode cX10_end 38 = .ok (.if_icmp .eq 5, 3) := by decide +kernel
theorem dX10_end_41 : decode cX10_end 41 = .ok (.iconst 0, 1) := by decide +kernel
theorem dX10_end_42 : decode cX10_end 42 = .ok (.ireturn, 1) := by decide +kernel
theorem dX10_end_43 : decode cX10_end 43 = .ok (.aload_n 0, 1) := by decide +kernel
theorem dX10_end_44 : decode cX10_end 44 = .ok (.getfield 46, 3) := by decide +kernel
theorem dX10_end_47 : decode cX10_end 47 = .ok (.aload_n 0, 1) := by decide +kernel
theorem dX10_end_48 : decode cX10_end 48 = .ok (.invokevirtual 127, 3) := by decide +kernel
theorem dX10_end_51 : decode cX10_end 51 = .ok (.iaload, 1) := by decide +kernel
theorem dX10_end_52 : decode cX10_end 52 = .ok (.istore_n 1, 1) := by decide +kernel
theorem dX10_end_53 : decode cX10_end 53 = .ok (.aload_n 0, 1) := by decide +kernel
theorem dX10_end_54 : decode cX10_end 54 = .ok (.dup, 1) := by decide +kernel
theorem dX10_end_55 : decode cX10_end 55 = .ok (.getfield 117, 3) := by decide +kernel
theorem dX10_end_58 : decode cX10_end 58 = .ok (.iconst 1, 1) := by decide +kernel
theorem dX10_end_59 : decode cX10_end 59 = .ok (.isub, 1) := by decide +kernel
theorem dX10_end_60 : decode cX10_end 60 = .ok (.putfield 117, 3) := by decide +kernel
theorem dX10_end_63 : decode cX10_end 63 = .ok (.aload_n 0, 1) := by decide +kernel
theorem dX10_end_64 : decode cX10_end 64 = .ok (.getfield 117, 3) := by decide +kernel
theorem dX10_end_67 : decode cX10_end 67 = .ok (.ifCond .le 16, 3) := by decide +kernel
theorem dX10_end_70 : decode cX10_end 70 = .ok (.aload_n 0, 1) := by decide +kernel
theorem dX10_end_71 : decode cX10_end 71 = .ok (.getfield 52, 3) := by decide +kernel
theorem dX10_end_74 : decode cX10_end 74 = .ok (.aload_n 0, 1) := by decide +kernel
theorem dX10_end_75 : decode cX10_end 75 = .ok (.invokevirtual 127, 3) := by decide +kernel
theorem dX10_end_78 : decode cX10_end 78 = .ok (.dup2, 1) := by decide +kernel
theorem dX10_end_79 : decode cX10_end 79 = .ok (.iaload, 1) := by decide +kernel
theorem dX10_end_80 : decode cX10_end 80 = .ok (.iload_n 1, 1) := by decide +kernel
theorem dX10_end_81 : decode cX10_end 81 = .ok (.iadd, 1) := by decide +kernel
theorem dX10_end_82 : decode cX10_end 82 = .ok (.iastore, 1) := by decide +kernel
theorem dX10_end_83 : decode cX10_end 83 = .ok (.iconst 1, 1) := by decide +kernel
theorem dX10_end_84 : decode cX10_end 84 = .ok (.ireturn, 1) := by decide +kernel
theorem dX10_entries_0 : decode cX10_entries 0 = .ok (.iload_n 1, 1) := by decide +kernel
theorem dX10_entries_1 : decode cX10_entries 1 = .ok (.bipush 20, 2) := by decide +kernel
theorem dX10_entries_3 : decode cX10_entries 3 = .ok (.invokestatic 110, 3) := by decide +kernel
theorem dX10_entries_6 : decode cX10_entries 6 = .ok (.ifCond .eq 11, 3) := by decide +kernel
theorem dX10_entries_9 : decode cX10_entries 9 = .ok (.aload_n 0, 1) := by decide +kernel
theorem dX10_entries_10 : decode cX10_entries 10 = .ok (.iconst 1, 1) := by decide +kernel
theorem dX10_entries_11 : decode cX10_entries 11 = .ok (.invokevirtual 131, 3) := by decide +kernel
theorem dX10_entries_14 : decode cX10_entries 14 = .ok (.ifCond .ne 5, 3) := by decide +kernel
theorem dX10_entries_17 : decode cX10_entries 17 = .ok (.iconst 0, 1) := by decide +kernel
theorem dX10_entries_18 : decode cX10_entries 18 = .ok (.ireturn, 1) := by decide +kernel
theorem dX10_entries_19 : decode cX10_entries 19 = .ok (.aload_n 0, 1) := by decide +kernel
theorem dX10_entries_20 : decode cX10_entries 20 = .ok (.iconst 1, 1) := by decide +kernel
theorem dX10_entries_21 : decode cX10_entries 21 = .ok (.invokevirtual 135, 3) := by decide +kernel
theorem dX10_entries_24 : decode cX10_entries 24 = .ok (.aload_n 0, 1) := by decide +kernel
theorem dX10_entries_25 : decode cX10_entries 25 = .ok (.iload_n 1, 1) := by decide +kernel
theorem dX10_entries_26 : decode cX10_entries 26 = .ok (.iconst 1, 1) := by decide +kernel
theorem dX10_entries_27 : decode cX10_entries 27 = .ok (.iadd, 1) := by decide +kernel
theorem dX10_entries_28 : decode cX10_entries 28 = .ok (.putfield 120, 3) := by decide +kernel
theorem dX10_entries_31 : decode cX10_entries 31 = .ok (.aload_n 0, 1) := by decide +kernel
theorem dX10_entries_32 : decode cX10_entries 32 = .ok (.iconst 1, 1) := by decide +kernel
theorem dX10_entries_33 : decode cX10_entries 33 = .ok (.putfield 146, 3) := by decide +kernel
theorem dX10_entries_36 : decode cX10_entries 36 = .ok (.iconst 1, 1) := by decide +kernel
theorem dX10_entries_37 : decode cX10_entries 37 = .ok (.ireturn, 1) := by decide +kernel
theorem dX10_entryTo_0 : decode cX10_entryTo 0 = .ok (.aload_n 0, 1) := by decide +kernel
theorem dX10_entryTo_1 : decode cX10_entryTo 1 = .ok (.getfield 120, 3) := by decide +kernel
theorem dX10_entryTo_4 : decode cX10_entryTo 4 = .ok (.ifCond .eq 11, 3) := by decide +kernel
theorem dX10_entryTo_7 : decode cX10_entryTo 7 = .ok (.aload_n 0, 1) := by decide +kernel
theorem dX10_entryTo_8 : decode cX10_entryTo 8 = .ok (.iload_n 1, 1) := by decide +kernel
theorem dX10_entryTo_9 : decode cX10_entryTo 9 = .ok (.invokevirtual 149, 3) := by decide +kernel
theorem dX10_entryTo_12 : decode cX10_entryTo 12 = .ok (.ifCond .ne 5, 3) := by decide +kernel
theorem dX10_entryTo_15 : decode cX10_entryTo 15 = .ok (.iconst 0, 1) := by decide +kernel
theorem dX10_entryTo_16 : decode cX10_entryTo 16 = .ok (.ireturn, 1) := by decide +kernel
theorem dX10_entryTo_17 : decode cX10_entryTo 17 = .ok (.aload_n 0, 1) := by decide +kernel
theorem dX10_entryTo_18 : decode cX10_entryTo 18 = .ok (.getfield 146, 3) := by decide +kernel
theorem dX10_entryTo_21 : decode cX10_entryTo 21 = .ok (.ifCond .eq 18, 3) := by decide +kernel
theorem dX10_entryTo_24 : decode cX10_entryTo 24 = .ok (.aload_n 0, 1) := by decide +kernel
theorem dX10_entryTo_25 : decode cX10_entryTo 25 = .ok (.aload_n 0, 1) := by decide +kernel
theorem dX10_entryTo_26 : decode cX10_entryTo 26 = .ok (.iload_n 1, 1) := by decide +kernel
theorem dX10_entryTo_27 : decode cX10_entryTo 27 = .ok (.invokevirtual 152, 3) := by decide +kernel
theorem dX10_entryTo_30 : decode cX10_entryTo 30 = .ok (.invokevirtual 131, 3) := by decide +kernel
theorem dX10_entryTo_33 : decode cX10_entryTo 33 = .ok (.ifCond .ne 20, 3) := by decide +kernel
theorem dX10_entryTo_36 : decode cX10_entryTo 36 = .ok (.goto 15, 3) := by decide +kernel
theorem dX10_entryTo_39 : decode cX10_entryTo 39 = .ok (.aload_n 0, 1) := by decide +kernel
theorem dX10_entryTo_40 : decode cX10_entryTo 40 = .ok (.iload_n 1, 1) := by decide +kernel
theorem dX10_entryTo_41 : decode cX10_entryTo 41 = .ok (.invokevirtual 152, 3) := by decide +kernel
theorem dX10_entryTo_44 : decode cX10_entryTo 44 = .ok (.aload_n 0, 1) := by decide +kernel
theorem dX10_entryTo_45 : decode cX10_entryTo 45 = .ok (.getfield 156, 3) := by decide +kernel
theorem dX10_entryTo_48 : decode cX10_entryTo 48 = .ok (.if_icmp .eq 5, 3) := by decide +kernel
theorem dX10_entryTo_51 : decode cX10_entryTo 51 = .ok (.iconst 0, 1) := by decide +kernel
theorem dX10_entryTo_52 : decode cX10_entryTo 52 = .ok (.ireturn, 1) := by decide +kernel
theorem dX10_entryTo_53 : decode cX10_entryTo 53 = .ok (.aload_n 0, 1) := by decide +kernel
theorem dX10_entryTo_54 : decode cX10_entryTo 54 = .ok (.aload_n 0, 1) := by decide +kernel
theorem dX10_entryTo_55 : decode cX10_entryTo 55 = .ok (.iload_n 1, 1) := by decide +kernel
theorem dX10_entryTo_56 : decode cX10_entryTo 56 = .ok (.invokevirtual 152, 3) := by decide +kernel
theorem dX10_entryTo_59 : decode cX10_entryTo 59 = .ok (.putfield 156, 3) := by decide +kernel
theorem dX10_entryTo_62 : decode cX10_entryTo 62 = .ok (.aload_n 0, 1) := by decide +kernel
theorem dX10_entryTo_63 : decode cX10_entryTo 63 = .ok (.iconst 0, 1) := by decide +kernel
theorem dX10_entryTo_64 : decode cX10_entryTo 64 = .ok (.putfield 146, 3) := by decide +kernel
theorem dX10_entryTo_67 : decode cX10_entryTo 67 = .ok (.aload_n 0, 1) := by decide +kernel
theorem dX10_entryTo_68 : decode cX10_entryTo 68 = .ok (.dup, 1) := by decide +kernel
theorem dX10_entryTo_69 : decode cX10_entryTo 69 = .ok (.getfield 120, 3) := by decide +kernel
theorem dX10_entryTo_72 : decode cX10_entryTo 72 = .ok (.iconst 1, 1) := by decide +kernel
theorem dX10_entryTo_73 : decode cX10_entryTo 73 = .ok (.isub, 1) := by decide +kernel
theorem dX10_entryTo_74 : decode cX10_entryTo 74 = .ok (.putfield 120, 3) := by decide +kernel
theorem dX10_entryTo_77 : decode cX10_entryTo 77 = .ok (.aload_n 0, 1) := by decide +kernel
theorem dX10_entryTo_78 : decode cX10_entryTo 78 = .ok (.getfield 120, 3) := by decide +kernel
theorem dX10_entryTo_81 : decode cX10_entryTo 81 = .ok (.ifCond .ne 7, 3) := by decide +kernel
theorem dX10_entryTo_84 : decode cX10_entryTo 84 = .ok (.aload_n 0, 1) := by decide +kernel
theorem dX10_entryTo_85 : decode cX10_entryTo 85 = .ok (.invokevirtual 139, 3) := by decide +kernel
theorem dX10_entryTo_88 : decode cX10_entryTo 88 = .ok (.iconst 1, 1) := by decide +kernel
theorem dX10_entryTo_89 : decode cX10_entryTo 89 = .ok (.ireturn, 1) := by decide +kernel
theorem dX10_control_0 : decode cX10_control 0 = .ok (.iload_n 1, 1) := by decide +kernel
theorem dX10_control_1 : decode cX10_control 1 = .ok (.tableswitch 223 0 16 #[83, 89, 91, 91, 91, 99, 223, 223, 223, 223, 223, 104, 109, 135, 168, 174, 185], 83) := by decide +kernel
theorem dX10_control_84 : decode cX10_control 84 = .ok (.aload_n 0, 1) := by decide +kernel
theorem dX10_control_85 : decode cX10_control 85 = .ok (.iconst 0, 1) := by decide +kernel
theorem dX10_control_86 : decode cX10_control 86 = .ok (.invokevirtual 159, 3) := by decide +kernel
theorem dX10_control_89 : decode cX10_control 89 = .ok (.ireturn, 1) := by decide +kernel
theorem dX10_control_90 : decode cX10_control 90 = .ok (.iconst 1, 1) := by decide +kernel
theorem dX10_control_91 : decode cX10_control 91 = .ok (.ireturn, 1) := by decide +kernel
theorem dX10_control_92 : decode cX10_control 92 = .ok (.aload_n 0, 1) := by decide +kernel
theorem dX10_control_93 : decode cX10_control 93 = .ok (.iload_n 1, 1) := by decide +kernel
theorem dX10_control_94 : decode cX10_control 94 = .ok (.iload_n 2, 1) := by decide +kernel
theorem dX10_control_95 : decode cX10_control 95 = .ok (.iload_n 3, 1) := by decide +kernel
theorem dX10_control_96 : decode cX10_control 96 = .ok (.invokevirtual 162, 3) := by decide +kernel
theorem dX10_control_99 : decode cX10_control 99 = .ok (.ireturn, 1) := by decide +kernel
theorem dX10_control_100 : decode cX10_control 100 = .ok (.aload_n 0, 1) := by decide +kernel
theorem dX10_control_101 : decode cX10_control 101 = .ok (.invokevirtual 166, 3) := by decide +kernel
theorem dX10_control_104 : decode cX10_control 104 = .ok (.ireturn, 1) := by decide +kernel
theorem dX10_control_105 : decode cX10_control 105 = .ok (.aload_n 0, 1) := by decide +kernel
theorem dX10_control_106 : decode cX10_control 106 = .ok (.invokevirtual 169, 3) := by decide +kernel
theorem dX10_control_109 : decode cX10_control 109 = .ok (.ireturn, 1) := by decide +kernel
theorem dX10_control_110 : decode cX10_control 110 = .ok (.aload_n 0, 1) := by decide +kernel
theorem dX10_control_111 : decode cX10_control 111 = .ok (.iload_n 2, 1) := by decide +kernel
theorem dX10_control_112 : decode cX10_control 112 = .ok (.invokevirtual 149, 3) := by decide +kernel
theorem dX10_control_115 : decode cX10_control 115 = .ok (.ifCond .eq 19, 3) := by decide +kernel
theorem dX10_control_118 : decode cX10_control 118 = .ok (.aload_n 0, 1) := by decide +kernel
theorem dX10_control_119 : decode cX10_control 119 = .ok (.aload_n 0, 1) := by decide +kernel
theorem dX10_control_120 : decode cX10_control 120 = .ok (.iload_n 2, 1) := by decide +kernel
theorem dX10_control_121 : decode cX10_control 121 = .ok (.invokevirtual 152, 3) := by decide +kernel
theorem dX10_control_124 : decode cX10_control 124 = .ok (.invokevirtual 159, 3) := by decide +kernel
theorem dX10_control_127 : decode cX10_control 127 = .ok (.ifCond .eq 7, 3) := by decide +kernel
theorem dX10_control_130 : decode cX10_control 130 = .ok (.iconst 1, 1) := by decide +kernel
theorem dX10_control_131 : decode cX10_control 131 = .ok (.goto 4, 3) := by decide +kernel
theorem dX10_control_134 : decode cX10_control 134 = .ok (.iconst 0, 1) := by decide +kernel
theorem dX10_control_135 : decode cX10_control 135 = .ok (.ireturn, 1) := by decide +kernel
theorem dX10_control_136 : decode cX10_control 136 = .ok (.aload_n 0, 1) := by decide +kernel
theorem dX10_control_137 : decode cX10_control 137 = .ok (.iload_n 2, 1) := by decide +kernel
theorem dX10_control_138 : decode cX10_control 138 = .ok (.invokevirtual 149, 3) := by decide +kernel
theorem dX10_control_141 : decode cX10_control 141 = .ok (.ifCond .eq 26, 3) := by decide +kernel
theorem dX10_control_144 : decode cX10_control 144 = .ok (.aload_n 0, 1) := by decide +kernel
theorem dX10_control_145 : decode cX10_control 145 = .ok (.iconst 1, 1) := by decide +kernel
theorem dX10_control_146 : decode cX10_control 146 = .ok (.aload_n 0, 1) := by decide +kernel
theorem dX10_control_147 : decode cX10_control 147 = .ok (.iload_n 2, 1) := by decide +kernel
theorem dX10_control_148 : decode cX10_control 148 = .ok (.invokevirtual 152, 3) := by decide +kernel
theorem dX10_control_151 : decode cX10_control 151 = .ok (.iadd, 1) := by decide +kernel
theorem dX10_control_152 : decode cX10_control 152 = .ok (.aload_n 0, 1) := by decide +kernel
theorem dX10_control_153 : decode cX10_control 153 = .ok (.iload_n 2, 1) := by decide +kernel
theorem dX10_control_154 : decode cX10_control 154 = .ok (.invokevirtual 152, 3) := by decide +kernel
theorem dX10_control_157 : decode cX10_control 157 = .ok (.invokevirtual 172, 3) := by decide +kernel
theorem dX10_control_160 : decode cX10_control 160 = .ok (.ifCond .eq 7, 3) := by decide +kernel
theorem dX10_control_163 : decode cX10_control 163 = .ok (.iconst 1, 1) := by decide +kernel
theorem dX10_control_164 : decode cX10_control 164 = .ok (.goto 4, 3) := by decide +kernel
theorem dX10_control_167 : decode cX10_control 167 = .ok (.iconst 0, 1) := by decide +kernel
theorem dX10_control_168 : decode cX10_control 168 = .ok (.ireturn, 1) := by decide +kernel
theorem dX10_control_169 : decode cX10_control 169 = .ok (.aload_n 0, 1) := by decide +kernel
theorem dX10_control_170 : decode cX10_control 170 = .ok (.iload_n 2, 1) := by decide +kernel
theorem dX10_control_171 : decode cX10_control 171 = .ok (.invokevirtual 175, 3) := by decide +kernel
theorem dX10_control_174 : decode cX10_control 174 = .ok (.ireturn, 1) := by decide +kernel
theorem dX10_control_175 : decode cX10_control 175 = .ok (.aload_n 0, 1) := by decide +kernel
theorem dX10_control_176 : decode cX10_control 176 = .ok (.aload_n 0, 1) := by decide +kernel
theorem dX10_control_177 : decode cX10_control 177 = .ok (.getfield 46, 3) := by decide +kernel
theorem dX10_control_180 : decode cX10_control 180 = .ok (.iconst 0, 1) := by decide +kernel
theorem dX10_control_181 : decode cX10_control 181 = .ok (.iaload, 1) := by decide +kernel
theorem dX10_control_182 : decode cX10_control 182 = .ok (.invokevirtual 159, 3) := by decide +kernel
theorem dX10_control_185 : decode cX10_control 185 = .ok (.ireturn, 1) := by decide +kernel
theorem dX10_control_186 : decode cX10_control 186 = .ok (.iload_n 2, 1) := by decide +kernel
theorem dX10_control_187 : decode cX10_control 187 = .ok (.aload_n 0, 1) := by decide +kernel
theorem dX10_control_188 : decode cX10_control 188 = .ok (.getfield 107, 3) := by decide +kernel
theorem dX10_control_191 : decode cX10_control 191 = .ok (.iconst 1, 1) := by decide +kernel
theorem dX10_control_192 : decode cX10_control 192 = .ok (.isub, 1) := by decide +kernel
theorem dX10_control_193 : decode cX10_control 193 = .ok (.invokestatic 110, 3) := by decide +kernel
theorem dX10_control_196 : decode cX10_control 196 = .ok (.ifCond .eq 26, 3) := by decide +kernel
theorem dX10_control_199 : decode cX10_control 199 = .ok (.aload_n 0, 1) := by decide +kernel
theorem dX10_control_200 : decode cX10_control 200 = .ok (.aload_n 0, 1) := by decide +kernel
theorem dX10_control_201 : decode cX10_control 201 = .ok (.getfield 16, 3) := by decide +kernel
theorem dX10_control_204 : decode cX10_control 204 = .ok (.iload_n 2, 1) := by decide +kernel
theorem dX10_control_205 : decode cX10_control 205 = .ok (.iaload, 1) := by decide +kernel
theorem dX10_control_206 : decode cX10_control 206 = .ok (.aload_n 0, 1) := by decide +kernel
theorem dX10_control_207 : decode cX10_control 207 = .ok (.getfield 19, 3) := by decide +kernel
theorem dX10_control_210 : decode cX10_control 210 = .ok (.iload_n 2, 1) := by decide +kernel
theorem dX10_control_211 : decode cX10_control 211 = .ok (.iaload, 1) := by decide +kernel
theorem dX10_control_212 : decode cX10_control 212 = .ok (.invokevirtual 172, 3) := by decide +kernel
theorem dX10_control_215 : decode cX10_control 215 = .ok (.ifCond .eq 7, 3) := by decide +kernel
theorem dX10_control_218 : decode cX10_control 218 = .ok (.iconst 1, 1) := by decide +kernel
theorem dX10_control_219 : decode cX10_control 219 = .ok (.goto 4, 3) := by decide +kernel
theorem dX10_control_222 : decode cX10_control 222 = .ok (.iconst 0, 1) := by decide +kernel
theorem dX10_control_223 : decode cX10_control 223 = .ok (.ireturn, 1) := by decide +kernel
theorem dX10_control_224 : decode cX10_control 224 = .ok (.iload_n 2, 1) := by decide +kernel
theorem dX10_control_225 : decode cX10_control 225 = .ok (.bipush 8, 2) := by decide +kernel
theorem dX10_control_227 : decode cX10_control 227 = .ok (.invokestatic 110, 3) := by decide +kernel
theorem dX10_control_230 : decode cX10_control 230 = .ok (.ifCond .eq 27, 3) := by decide +kernel
theorem dX10_control_233 : decode cX10_control 233 = .ok (.iload_n 3, 1) := by decide +kernel
theorem dX10_control_234 : decode cX10_control 234 = .ok (.bipush 8, 2) := by decide +kernel
theorem dX10_control_236 : decode cX10_control 236 = .ok (.invokestatic 110, 3) := by decide +kernel
theorem dX10_control_239 : decode cX10_control 239 = .ok (.ifCond .eq 18, 3) := by decide +kernel
theorem dX10_control_242 : decode cX10_control 242 = .ok (.aload_n 0, 1) := by decide +kernel
theorem dX10_control_243 : decode cX10_control 243 = .ok (.iconst 1, 1) := by decide +kernel
theorem dX10_control_244 : decode cX10_control 244 = .ok (.iload_n 2, 1) := by decide +kernel
theorem dX10_control_245 : decode cX10_control 245 = .ok (.iadd, 1) := by decide +kernel
theorem dX10_control_246 : decode cX10_control 246 = .ok (.iload_n 3, 1) := by decide +kernel
theorem dX10_control_247 : decode cX10_control 247 = .ok (.invokevirtual 172, 3) := by decide +kernel
theorem dX10_control_250 : decode cX10_control 250 = .ok (.ifCond .eq 7, 3) := by decide +kernel
theorem dX10_control_253 : decode cX10_control 253 = .ok (.iconst 1, 1) := by decide +kernel
theorem dX10_control_254 : decode cX10_control 254 = .ok (.goto 4, 3) := by decide +kernel
theorem dX10_control_257 : decode cX10_control 257 = .ok (.iconst 0, 1) := by decide +kernel
theorem dX10_control_258 : decode cX10_control 258 = .ok (.ireturn, 1) := by decide +kernel
theorem dX10_plain_0 : decode cX10_plain 0 = .ok (.aload_n 0, 1) := by decide +kernel
theorem dX10_plain_1 : decode cX10_plain 1 = .ok (.getfield 16, 3) := by decide +kernel
theorem dX10_plain_4 : decode cX10_plain 4 = .ok (.aload_n 0, 1) := by decide +kernel
theorem dX10_plain_5 : decode cX10_plain 5 = .ok (.getfield 107, 3) := by decide +kernel
theorem dX10_plain_8 : decode cX10_plain 8 = .ok (.iconst 1, 1) := by decide +kernel
theorem dX10_plain_9 : decode cX10_plain 9 = .ok (.isub, 1) := by decide +kernel
theorem dX10_plain_10 : decode cX10_plain 10 = .ok (.iaload, 1) := by decide +kernel
theorem dX10_plain_11 : decode cX10_plain 11 = .ok (.aload_n 0, 1) := by decide +kernel
theorem dX10_plain_12 : decode cX10_plain 12 = .ok (.getfield 22, 3) := by decide +kernel
theorem dX10_plain_15 : decode cX10_plain 15 = .ok (.aload_n 0, 1) := by decide +kernel
theorem dX10_plain_16 : decode cX10_plain 16 = .ok (.getfield 107, 3) := by decide +kernel
theorem dX10_plain_19 : decode cX10_plain 19 = .ok (.iconst 1, 1) := by decide +kernel
theorem dX10_plain_20 : decode cX10_plain 20 = .ok (.isub, 1) := by decide +kernel
theorem dX10_plain_21 : decode cX10_plain 21 = .ok (.iaload, 1) := by decide +kernel
theorem dX10_plain_22 : decode cX10_plain 22 = .ok (.iadd, 1) := by decide +kernel
theorem dX10_plain_23 : decode cX10_plain 23 = .ok (.istore_n 3, 1) := by decide +kernel
theorem dX10_plain_24 : decode cX10_plain 24 = .ok (.iload_n 1, 1) := by decide +kernel
theorem dX10_plain_25 : decode cX10_plain 25 = .ok (.lookupswitch 409 #[(26, 251), (27, 258), (32, 265), (33, 290), (34, 315), (35, 340), (36, 364), (63, 388), (64, 395), (65, 388), (66, 388), (69, 395), (70, 402), (71, 402), (72, 402), (73, 402), (80, 395), (81, 402), (83, 402), (106, 402), (107, 402), (108, 402), (110, 402), (113, 402), (116, 402), (124, 402), (125, 402), (126, 402), (167, 395), (173, 395)], 251) := by decide +kernel
theorem dX10_plain_276 : decode cX10_plain 276 = .ok (.aload_n 0, 1) := by decide +kernel
theorem dX10_plain_277 : decode cX10_plain 277 = .ok (.iconst 1, 1) := by decide +kernel
theorem dX10_plain_278 : decode cX10_plain 278 = .ok (.iconst 0, 1) := by decide +kernel
theorem dX10_plain_279 : decode cX10_plain 279 = .ok (.invokevirtual 172, 3) := by decide +kernel
theorem dX10_plain_282 : decode cX10_plain 282 = .ok (.ireturn, 1) := by decide +kernel
theorem dX10_plain_283 : decode cX10_plain 283 = .ok (.aload_n 0, 1) := by decide +kernel
theorem dX10_plain_284 : decode cX10_plain 284 = .ok (.iconst 3, 1) := by decide +kernel
theorem dX10_plain_285 : decode cX10_plain 285 = .ok (.iconst 1, 1) := by decide +kernel
theorem dX10_plain_286 : decode cX10_plain 286 = .ok (.invokevirtual 172, 3) := by decide +kernel
theorem dX10_plain_289 : decode cX10_plain 289 = .ok (.ireturn, 1) := by decide +kernel
theorem dX10_plain_290 : decode cX10_plain 290 = .ok (.iload_n 2, 1) := by decide +kernel
theorem dX10_plain_291 : decode cX10_plain 291 = .ok (.iload_n 3, 1) := by decide +kernel
theorem dX10_plain_292 : decode cX10_plain 292 = .ok (.iconst 1, 1) := by decide +kernel
theorem dX10_plain_293 : decode cX10_plain 293 = .ok (.isub, 1) := by decide +kernel
theorem dX10_plain_294 : decode cX10_plain 294 = .ok (.invokestatic 110, 3) := by decide +kernel
theorem dX10_plain_297 : decode cX10_plain 297 = .ok (.ifCond .eq 16, 3) := by decide +kernel
theorem dX10_plain_300 : decode cX10_plain 300 = .ok (.aload_n 0, 1) := by decide +kernel
theorem dX10_plain_301 : decode cX10_plain 301 = .ok (.iconst 0, 1) := by decide +kernel
theorem dX10_plain_302 : decode cX10_plain 302 = .ok (.iconst 1, 1) := by decide +kernel
theorem dX10_plain_303 : decode cX10_plain 303 = .ok (.invokevirtual 172, 3) := by decide +kernel
theorem dX10_plain_306 : decode cX10_plain 306 = .ok (.ifCond .eq 7, 3) := by decide +kernel
theorem dX10_plain_309 : decode cX10_plain 309 = .ok (.iconst 1, 1) := by decide +kernel
theorem dX10_plain_310 : decode cX10_plain 310 = .ok (.goto 4, 3) := by decide +kernel
theorem dX10_plain_313 : decode cX10_plain 313 = .ok (.iconst 0, 1) := by decide +kernel
theorem dX10_plain_314 : decode cX10_plain 314 = .ok (.ireturn, 1) := by decide +kernel
theorem dX10_plain_315 : decode cX10_plain 315 = .ok (.iload_n 2, 1) := by decide +kernel
theorem dX10_plain_316 : decode cX10_plain 316 = .ok (.iload_n 3, 1) := by decide +kernel
theorem dX10_plain_317 : decode cX10_plain 317 = .ok (.iconst 1, 1) := by decide +kernel
theorem dX10_plain_318 : decode cX10_plain 318 = .ok (.isub, 1) := by decide +kernel
theorem dX10_plain_319 : decode cX10_plain 319 = .ok (.invokestatic 110, 3) := by decide +kernel
theorem dX10_plain_322 : decode cX10_plain 322 = .ok (.ifCond .eq 16, 3) := by decide +kernel
theorem dX10_plain_325 : decode cX10_plain 325 = .ok (.aload_n 0, 1) := by decide +kernel
theorem dX10_plain_326 : decode cX10_plain 326 = .ok (.iconst 1, 1) := by decide +kernel
theorem dX10_plain_327 : decode cX10_plain 327 = .ok (.iconst 0, 1) := by decide +kernel
theorem dX10_plain_328 : decode cX10_plain 328 = .ok (.invokevirtual 172, 3) := by decide +kernel
theorem dX10_plain_331 : decode cX10_plain 331 = .ok (.ifCond .eq 7, 3) := by decide +kernel
theorem dX10_plain_334 : decode cX10_plain 334 = .ok (.iconst 1, 1) := by decide +kernel
theorem dX10_plain_335 : decode cX10_plain 335 = .ok (.goto 4, 3) := by decide +kernel
theorem dX10_plain_338 : decode cX10_plain 338 = .ok (.iconst 0, 1) := by decide +kernel
theorem dX10_plain_339 : decode cX10_plain 339 = .ok (.ireturn, 1) := by decide +kernel
theorem dX10_plain_340 : decode cX10_plain 340 = .ok (.iload_n 2, 1) := by decide +kernel
theorem dX10_plain_341 : decode cX10_plain 341 = .ok (.iload_n 3, 1) := by decide +kernel
theorem dX10_plain_342 : decode cX10_plain 342 = .ok (.iconst 1, 1) := by decide +kernel
theorem dX10_plain_343 : decode cX10_plain 343 = .ok (.isub, 1) := by decide +kernel
theorem dX10_plain_344 : decode cX10_plain 344 = .ok (.invokestatic 110, 3) := by decide +kernel
theorem dX10_plain_347 : decode cX10_plain 347 = .ok (.ifCond .eq 16, 3) := by decide +kernel
theorem dX10_plain_350 : decode cX10_plain 350 = .ok (.aload_n 0, 1) := by decide +kernel
theorem dX10_plain_351 : decode cX10_plain 351 = .ok (.iconst 1, 1) := by decide +kernel
theorem dX10_plain_352 : decode cX10_plain 352 = .ok (.iconst 1, 1) := by decide +kernel
theorem dX10_plain_353 : decode cX10_plain 353 = .ok (.invokevirtual 172, 3) := by decide +kernel
theorem dX10_plain_356 : decode cX10_plain 356 = .ok (.ifCond .eq 7, 3) := by decide +kernel
theorem dX10_plain_359 : decode cX10_plain 359 = .ok (.iconst 1, 1) := by decide +kernel
theorem dX10_plain_360 : decode cX10_plain 360 = .ok (.goto 4, 3) := by decide +kernel
theorem dX10_plain_363 : decode cX10_plain 363 = .ok (.iconst 0, 1) := by decide +kernel
theorem dX10_plain_364 : decode cX10_plain 364 = .ok (.ireturn, 1) := by decide +kernel
theorem dX10_plain_365 : decode cX10_plain 365 = .ok (.iload_n 2, 1) := by decide +kernel
theorem dX10_plain_366 : decode cX10_plain 366 = .ok (.bipush 7, 2) := by decide +kernel
theorem dX10_plain_368 : decode cX10_plain 368 = .ok (.invokestatic 110, 3) := by decide +kernel
theorem dX10_plain_371 : decode cX10_plain 371 = .ok (.ifCond .eq 16, 3) := by decide +kernel
theorem dX10_plain_374 : decode cX10_plain 374 = .ok (.aload_n 0, 1) := by decide +kernel
theorem dX10_plain_375 : decode cX10_plain 375 = .ok (.iconst 0, 1) := by decide +kernel
theorem dX10_plain_376 : decode cX10_plain 376 = .ok (.iconst 1, 1) := by decide +kernel
theorem dX10_plain_377 : decode cX10_plain 377 = .ok (.invokevirtual 172, 3) := by decide +kernel
theorem dX10_plain_380 : decode cX10_plain 380 = .ok (.ifCond .eq 7, 3) := by decide +kernel
theorem dX10_plain_383 : decode cX10_plain 383 = .ok (.iconst 1, 1) := by decide +kernel
theorem dX10_plain_384 : decode cX10_plain 384 = .ok (.goto 4, 3) := by decide +kernel
theorem dX10_plain_387 : decode cX10_plain 387 = .ok (.iconst 0, 1) := by decide +kernel
theorem dX10_plain_388 : decode cX10_plain 388 = .ok (.ireturn, 1) := by decide +kernel
theorem dX10_plain_389 : decode cX10_plain 389 = .ok (.iload_n 2, 1) := by decide +kernel
theorem dX10_plain_390 : decode cX10_plain 390 = .ok (.bipush 7, 2) := by decide +kernel
theorem dX10_plain_392 : decode cX10_plain 392 = .ok (.invokestatic 110, 3) := by decide +kernel
theorem dX10_plain_395 : decode cX10_plain 395 = .ok (.ifCond .eq 16, 3) := by decide +kernel
theorem dX10_plain_398 : decode cX10_plain 398 = .ok (.aload_n 0, 1) := by decide +kernel
theorem dX10_plain_399 : decode cX10_plain 399 = .ok (.iconst 1, 1) := by decide +kernel
theorem dX10_plain_400 : decode cX10_plain 400 = .ok (.iconst 0, 1) := by decide +kernel
theorem dX10_plain_401 : decode cX10_plain 401 = .ok (.invokevirtual 172, 3) := by decide +kernel
theorem dX10_plain_404 : decode cX10_plain 404 = .ok (.ifCond .eq 7, 3) := by decide +kernel
theorem dX10_plain_407 : decode cX10_plain 407 = .ok (.iconst 1, 1) := by decide +kernel
theorem dX10_plain_408 : decode cX10_plain 408 = .ok (.goto 4, 3) := by decide +kernel
theorem dX10_plain_411 : decode cX10_plain 411 = .ok (.iconst 0, 1) := by decide +kernel
theorem dX10_plain_412 : decode cX10_plain 412 = .ok (.ireturn, 1) := by decide +kernel
theorem dX10_plain_413 : decode cX10_plain 413 = .ok (.aload_n 0, 1) := by decide +kernel
theorem dX10_plain_414 : decode cX10_plain 414 = .ok (.iconst 0, 1) := by decide +kernel
theorem dX10_plain_415 : decode cX10_plain 415 = .ok (.iconst 1, 1) := by decide +kernel
theorem dX10_plain_416 : decode cX10_plain 416 = .ok (.invokevirtual 172, 3) := by decide +kernel
theorem dX10_plain_419 : decode cX10_plain 419 = .ok (.ireturn, 1) := by decide +kernel
theorem dX10_plain_420 : decode cX10_plain 420 = .ok (.aload_n 0, 1) := by decide +kernel
theorem dX10_plain_421 : decode cX10_plain 421 = .ok (.iconst 1, 1) := by decide +kernel
theorem dX10_plain_422 : decode cX10_plain 422 = .ok (.iconst 1, 1) := by decide +kernel
theorem dX10_plain_423 : decode cX10_plain 423 = .ok (.invokevirtual 172, 3) := by decide +kernel
theorem dX10_plain_426 : decode cX10_plain 426 = .ok (.ireturn, 1) := by decide +kernel
theorem dX10_plain_427 : decode cX10_plain 427 = .ok (.aload_n 0, 1) := by decide +kernel
theorem dX10_plain_428 : decode cX10_plain 428 = .ok (.iconst 2, 1) := by decide +kernel
theorem dX10_plain_429 : decode cX10_plain 429 = .ok (.iconst 1, 1) := by decide +kernel
theorem dX10_plain_430 : decode cX10_plain 430 = .ok (.invokevirtual 172, 3) := by decide +kernel
theorem dX10_plain_433 : decode cX10_plain 433 = .ok (.ireturn, 1) := by decide +kernel
theorem dX10_plain_434 : decode cX10_plain 434 = .ok (.iload_n 1, 1) := by decide +kernel
theorem dX10_plain_435 : decode cX10_plain 435 = .ok (.bipush 40, 2) := by decide +kernel
theorem dX10_plain_437 : decode cX10_plain 437 = .ok (.isub, 1) := by decide +kernel
theorem dX10_plain_438 : decode cX10_plain 438 = .ok (.bipush 13, 2) := by decide +kernel
theorem dX10_plain_440 : decode cX10_plain 440 = .ok (.invokestatic 110, 3) := by decide +kernel
theorem dX10_plain_443 : decode cX10_plain 443 = .ok (.ifCond .eq 12, 3) := by decide +kernel
theorem dX10_plain_446 : decode cX10_plain 446 = .ok (.aload_n 0, 1) := by decide +kernel
theorem dX10_plain_447 : decode cX10_plain 447 = .ok (.iconst 1, 1) := by decide +kernel
theorem dX10_plain_448 : decode cX10_plain 448 = .ok (.iconst 1, 1) := by decide +kernel
theorem dX10_plain_449 : decode cX10_plain 449 = .ok (.invokevirtual 172, 3) := by decide +kernel
theorem dX10_plain_452 : decode cX10_plain 452 = .ok (.goto 29, 3) := by decide +kernel
theorem dX10_plain_455 : decode cX10_plain 455 = .ok (.iload_n 1, 1) := by decide +kernel
theorem dX10_plain_456 : decode cX10_plain 456 = .ok (.bipush 54, 2) := by decide +kernel
theorem dX10_plain_458 : decode cX10_plain 458 = .ok (.isub, 1) := by decide +kernel
theorem dX10_plain_459 : decode cX10_plain 459 = .ok (.bipush 8, 2) := by decide +kernel
theorem dX10_plain_461 : decode cX10_plain 461 = .ok (.invokestatic 110, 3) := by decide +kernel
theorem dX10_plain_464 : decode cX10_plain 464 = .ok (.ifCond .eq 16, 3) := by decide +kernel
theorem dX10_plain_467 : decode cX10_plain 467 = .ok (.aload_n 0, 1) := by decide +kernel
theorem dX10_plain_468 : decode cX10_plain 468 = .ok (.iconst 2, 1) := by decide +kernel
theorem dX10_plain_469 : decode cX10_plain 469 = .ok (.iconst 0, 1) := by decide +kernel
theorem dX10_plain_470 : decode cX10_plain 470 = .ok (.invokevirtual 172, 3) := by decide +kernel
theorem dX10_plain_473 : decode cX10_plain 473 = .ok (.ifCond .eq 7, 3) := by decide +kernel
theorem dX10_plain_476 : decode cX10_plain 476 = .ok (.iconst 1, 1) := by decide +kernel
theorem dX10_plain_477 : decode cX10_plain 477 = .ok (.goto 4, 3) := by decide +kernel
theorem dX10_plain_480 : decode cX10_plain 480 = .ok (.iconst 0, 1) := by decide +kernel
theorem dX10_plain_481 : decode cX10_plain 481 = .ok (.ireturn, 1) := by decide +kernel
theorem dX10_code_0 : decode cX10_code 0 = .ok (.aload_n 0, 1) := by decide +kernel
theorem dX10_code_1 : decode cX10_code 1 = .ok (.getfield 103, 3) := by decide +kernel
theorem dX10_code_4 : decode cX10_code 4 = .ok (.ifCond .eq 13, 3) := by decide +kernel
theorem dX10_code_7 : decode cX10_code 7 = .ok (.aload_n 0, 1) := by decide +kernel
theorem dX10_code_8 : decode cX10_code 8 = .ok (.getfield 114, 3) := by decide +kernel
theorem dX10_code_11 : decode cX10_code 11 = .ok (.sipush 1500, 3) := by decide +kernel
theorem dX10_code_14 : decode cX10_code 14 = .ok (.if_icmp .ne 5, 3) := by decide +kernel
theorem dX10_code_17 : decode cX10_code 17 = .ok (.iconst (-1), 1) := by decide +kernel
theorem dX10_code_18 : decode cX10_code 18 = .ok (.ireturn, 1) := by decide +kernel
theorem dX10_code_19 : decode cX10_code 19 = .ok (.aload_n 0, 1) := by decide +kernel
theorem dX10_code_20 : decode cX10_code 20 = .ok (.getfield 120, 3) := by decide +kernel
theorem dX10_code_23 : decode cX10_code 23 = .ok (.ifCond .le 12, 3) := by decide +kernel
theorem dX10_code_26 : decode cX10_code 26 = .ok (.iload_n 1, 1) := by decide +kernel
theorem dX10_code_27 : decode cX10_code 27 = .ok (.bipush 6, 2) := by decide +kernel
theorem dX10_code_29 : decode cX10_code 29 = .ok (.if_icmp .eq 14, 3) := by decide +kernel
theorem dX10_code_32 : decode cX10_code 32 = .ok (.goto 9, 3) := by decide +kernel
theorem dX10_code_35 : decode cX10_code 35 = .ok (.iload_n 1, 1) := by decide +kernel
theorem dX10_code_36 : decode cX10_code 36 = .ok (.bipush 6, 2) := by decide +kernel
theorem dX10_code_38 : decode cX10_code 38 = .ok (.if_icmp .ne 5, 3) := by decide +kernel
theorem dX10_code_41 : decode cX10_code 41 = .ok (.iconst (-1), 1) := by decide +kernel
theorem dX10_code_42 : decode cX10_code 42 = .ok (.ireturn, 1) := by decide +kernel
theorem dX10_code_43 : decode cX10_code 43 = .ok (.iload_n 1, 1) := by decide +kernel
theorem dX10_code_44 : decode cX10_code 44 = .ok (.bipush 6, 2) := by decide +kernel
theorem dX10_code_46 : decode cX10_code 46 = .ok (.if_icmp .ne 11, 3) := by decide +kernel
theorem dX10_code_49 : decode cX10_code 49 = .ok (.aload_n 0, 1) := by decide +kernel
theorem dX10_code_50 : decode cX10_code 50 = .ok (.iload_n 2, 1) := by decide +kernel
theorem dX10_code_51 : decode cX10_code 51 = .ok (.invokevirtual 178, 3) := by decide +kernel
theorem dX10_code_54 : decode cX10_code 54 = .ok (.goto 54, 3) := by decide +kernel
theorem dX10_code_57 : decode cX10_code 57 = .ok (.iload_n 1, 1) := by decide +kernel
theorem dX10_code_58 : decode cX10_code 58 = .ok (.bipush 6, 2) := by decide +kernel
theorem dX10_code_60 : decode cX10_code 60 = .ok (.if_icmp .lt 20, 3) := by decide +kernel
theorem dX10_code_63 : decode cX10_code 63 = .ok (.iload_n 1, 1) := by decide +kernel
theorem dX10_code_64 : decode cX10_code 64 = .ok (.bipush 11, 2) := by decide +kernel
theorem dX10_code_66 : decode cX10_code 66 = .ok (.if_icmp .eq 14, 3) := by decide +kernel
theorem dX10_code_69 : decode cX10_code 69 = .ok (.iload_n 1, 1) := by decide +kernel
theorem dX10_code_70 : decode cX10_code 70 = .ok (.bipush 12, 2) := by decide +kernel
theorem dX10_code_72 : decode cX10_code 72 = .ok (.isub, 1) := by decide +kernel
theorem dX10_code_73 : decode cX10_code 73 = .ok (.iconst 5, 1) := by decide +kernel
theorem dX10_code_74 : decode cX10_code 74 = .ok (.invokestatic 110, 3) := by decide +kernel
theorem dX10_code_77 : decode cX10_code 77 = .ok (.ifCond .eq 25, 3) := by decide +kernel
theorem dX10_code_80 : decode cX10_code 80 = .ok (.iload_n 1, 1) := by decide +kernel
theorem dX10_code_81 : decode cX10_code 81 = .ok (.ifCond .lt 17, 3) := by decide +kernel
theorem dX10_code_84 : decode cX10_code 84 = .ok (.aload_n 0, 1) := by decide +kernel
theorem dX10_code_85 : decode cX10_code 85 = .ok (.iload_n 1, 1) := by decide +kernel
theorem dX10_code_86 : decode cX10_code 86 = .ok (.iload_n 2, 1) := by decide +kernel
theorem dX10_code_87 : decode cX10_code 87 = .ok (.iload_n 3, 1) := by decide +kernel
theorem dX10_code_88 : decode cX10_code 88 = .ok (.invokevirtual 181, 3) := by decide +kernel
theorem dX10_code_91 : decode cX10_code 91 = .ok (.ifCond .eq 7, 3) := by decide +kernel
theorem dX10_code_94 : decode cX10_code 94 = .ok (.iconst 1, 1) := by decide +kernel
theorem dX10_code_95 : decode cX10_code 95 = .ok (.goto 13, 3) := by decide +kernel
theorem dX10_code_98 : decode cX10_code 98 = .ok (.iconst 0, 1) := by decide +kernel
theorem dX10_code_99 : decode cX10_code 99 = .ok (.goto 9, 3) := by decide +kernel
theorem dX10_code_102 : decode cX10_code 102 = .ok (.aload_n 0, 1) := by decide +kernel
theorem dX10_code_103 : decode cX10_code 103 = .ok (.iload_n 1, 1) := by decide +kernel
theorem dX10_code_104 : decode cX10_code 104 = .ok (.iload_n 2, 1) := by decide +kernel
theorem dX10_code_105 : decode cX10_code 105 = .ok (.invokevirtual 184, 3) := by decide +kernel
theorem dX10_code_108 : decode cX10_code 108 = .ok (.istore 4, 2) := by decide +kernel
theorem dX10_code_110 : decode cX10_code 110 = .ok (.iload 4, 2) := by decide +kernel
theorem dX10_code_112 : decode cX10_code 112 = .ok (.ifCond .ne 5, 3) := by decide +kernel
theorem dX10_code_115 : decode cX10_code 115 = .ok (.iconst (-1), 1) := by decide +kernel
theorem dX10_code_116 : decode cX10_code 116 = .ok (.ireturn, 1) := by decide +kernel
theorem dX10_code_117 : decode cX10_code 117 = .ok (.aload_n 0, 1) := by decide +kernel
theorem dX10_code_118 : decode cX10_code 118 = .ok (.getfield 28, 3) := by decide +kernel
theorem dX10_code_121 : decode cX10_code 121 = .ok (.aload_n 0, 1) := by decide +kernel
theorem dX10_code_122 : decode cX10_code 122 = .ok (.getfield 114, 3) := by decide +kernel
theorem dX10_code_125 : decode cX10_code 125 = .ok (.iload_n 1, 1) := by decide +kernel
theorem dX10_code_126 : decode cX10_code 126 = .ok (.iastore, 1) := by decide +kernel
theorem dX10_code_127 : decode cX10_code 127 = .ok (.aload_n 0, 1) := by decide +kernel
theorem dX10_code_128 : decode cX10_code 128 = .ok (.getfield 31, 3) := by decide +kernel
theorem dX10_code_131 : decode cX10_code 131 = .ok (.aload_n 0, 1) := by decide +kernel
theorem dX10_code_132 : decode cX10_code 132 = .ok (.getfield 114, 3) := by decide +kernel
theorem dX10_code_135 : decode cX10_code 135 = .ok (.iload_n 2, 1) := by decide +kernel
theorem dX10_code_136 : decode cX10_code 136 = .ok (.iastore, 1) := by decide +kernel
theorem dX10_code_137 : decode cX10_code 137 = .ok (.aload_n 0, 1) := by decide +kernel
theorem dX10_code_138 : decode cX10_code 138 = .ok (.getfield 34, 3) := by decide +kernel
theorem dX10_code_141 : decode cX10_code 141 = .ok (.aload_n 0, 1) := by decide +kernel
theorem dX10_code_142 : decode cX10_code 142 = .ok (.getfield 114, 3) := by decide +kernel
theorem dX10_code_145 : decode cX10_code 145 = .ok (.iload_n 3, 1) := by decide +kernel
theorem dX10_code_146 : decode cX10_code 146 = .ok (.iastore, 1) := by decide +kernel
theorem dX10_code_147 : decode cX10_code 147 = .ok (.aload_n 0, 1) := by decide +kernel
theorem dX10_code_148 : decode cX10_code 148 = .ok (.dup, 1) := by decide +kernel
theorem dX10_code_149 : decode cX10_code 149 = .ok (.getfield 114, 3) := by decide +kernel
theorem dX10_code_152 : decode cX10_code 152 = .ok (.iconst 1, 1) := by decide +kernel
theorem dX10_code_153 : decode cX10_code 153 = .ok (.iadd, 1) := by decide +kernel
theorem dX10_code_154 : decode cX10_code 154 = .ok (.putfield 114, 3) := by decide +kernel
theorem dX10_code_157 : decode cX10_code 157 = .ok (.aload_n 0, 1) := by decide +kernel
theorem dX10_code_158 : decode cX10_code 158 = .ok (.getfield 107, 3) := by decide +kernel
theorem dX10_code_161 : decode cX10_code 161 = .ok (.iconst 1, 1) := by decide +kernel
theorem dX10_code_162 : decode cX10_code 162 = .ok (.isub, 1) := by decide +kernel
theorem dX10_code_163 : decode cX10_code 163 = .ok (.istore 5, 2) := by decide +kernel
theorem dX10_code_165 : decode cX10_code 165 = .ok (.aload_n 0, 1) := by decide +kernel
theorem dX10_code_166 : decode cX10_code 166 = .ok (.getfield 13, 3) := by decide +kernel
theorem dX10_code_169 : decode cX10_code 169 = .ok (.iload 5, 2) := by decide +kernel
theorem dX10_code_171 : decode cX10_code 171 = .ok (.aload_n 0, 1) := by decide +kernel
theorem dX10_code_172 : decode cX10_code 172 = .ok (.getfield 114, 3) := by decide +kernel
theorem dX10_code_175 : decode cX10_code 175 = .ok (.aload_n 0, 1) := by decide +kernel
theorem dX10_code_176 : decode cX10_code 176 = .ok (.getfield 7, 3) := by decide +kernel
theorem dX10_code_179 : decode cX10_code 179 = .ok (.iload 5, 2) := by decide +kernel
theorem dX10_code_181 : decode cX10_code 181 = .ok (.iaload, 1) := by decide +kernel
theorem dX10_code_182 : decode cX10_code 182 = .ok (.isub, 1) := by decide +kernel
theorem dX10_code_183 : decode cX10_code 183 = .ok (.iastore, 1) := by decide +kernel
theorem dX10_code_184 : decode cX10_code 184 = .ok (.aload_n 0, 1) := by decide +kernel
theorem dX10_code_185 : decode cX10_code 185 = .ok (.getfield 117, 3) := by decide +kernel
theorem dX10_code_188 : decode cX10_code 188 = .ok (.ifCond .ne 11, 3) := by decide +kernel
theorem dX10_code_191 : decode cX10_code 191 = .ok (.aload_n 0, 1) := by decide +kernel
theorem dX10_code_192 : decode cX10_code 192 = .ok (.iconst 0, 1) := by decide +kernel
theorem dX10_code_193 : decode cX10_code 193 = .ok (.putfield 103, 3) := by decide +kernel
theorem dX10_code_196 : decode cX10_code 196 = .ok (.goto 55, 3) := by decide +kernel
theorem dX10_code_199 : decode cX10_code 199 = .ok (.aload_n 0, 1) := by decide +kernel
theorem dX10_code_200 : decode cX10_code 200 = .ok (.getfield 49, 3) := by decide +kernel
theorem dX10_code_203 : decode cX10_code 203 = .ok (.aload_n 0, 1) := by decide +kernel
theorem dX10_code_204 : decode cX10_code 204 = .ok (.invokevirtual 127, 3) := by decide +kernel
theorem dX10_code_207 : decode cX10_code 207 = .ok (.iaload, 1) := by decide +kernel
theorem dX10_code_208 : decode cX10_code 208 = .ok (.aload_n 0, 1) := by decide +kernel
theorem dX10_code_209 : decode cX10_code 209 = .ok (.getfield 52, 3) := by decide +kernel
theorem dX10_code_212 : decode cX10_code 212 = .ok (.aload_n 0, 1) := by decide +kernel
theorem dX10_code_213 : decode cX10_code 213 = .ok (.invokevirtual 127, 3) := by decide +kernel
theorem dX10_code_216 : decode cX10_code 216 = .ok (.iaload, 1) := by decide +kernel
theorem dX10_code_217 : decode cX10_code 217 = .ok (.iadd, 1) := by decide +kernel
theorem dX10_code_218 : decode cX10_code 218 = .ok (.istore 6, 2) := by decide +kernel
theorem dX10_code_220 : decode cX10_code 220 = .ok (.aload_n 0, 1) := by decide +kernel
theorem dX10_code_221 : decode cX10_code 221 = .ok (.getfield 25, 3) := by decide +kernel
theorem dX10_code_224 : decode cX10_code 224 = .ok (.iload 5, 2) := by decide +kernel
theorem dX10_code_226 : decode cX10_code 226 = .ok (.iload 6, 2) := by decide +kernel
theorem dX10_code_228 : decode cX10_code 228 = .ok (.aload_n 0, 1) := by decide +kernel
theorem dX10_code_229 : decode cX10_code 229 = .ok (.getfield 25, 3) := by decide +kernel
theorem dX10_code_232 : decode cX10_code 232 = .ok (.iload 5, 2) := by decide +kernel
theorem dX10_code_234 : decode cX10_code 234 = .ok (.iaload, 1) := by decide +kernel
theorem dX10_code_235 : decode cX10_code 235 = .ok (.if_icmp .le 8, 3) := by decide +kernel
theorem dX10_code_238 : decode cX10_code 238 = .ok (.iload 6, 2) := by decide +kernel
theorem dX10_code_240 : decode cX10_code 240 = .ok (.goto 10, 3) := by decide +kernel
theorem dX10_code_243 : decode cX10_code 243 = .ok (.aload_n 0, 1) := by decide +kernel
theorem dX10_code_244 : decode cX10_code 244 = .ok (.getfield 25, 3) := by decide +kernel
theorem dX10_code_247 : decode cX10_code 247 = .ok (.iload 5, 2) := by decide +kernel
theorem dX10_code_249 : decode cX10_code 249 = .ok (.iaload, 1) := by decide +kernel
theorem dX10_code_250 : decode cX10_code 250 = .ok (.iastore, 1) := by decide +kernel
theorem dX10_code_251 : decode cX10_code 251 = .ok (.aload_n 0, 1) := by decide +kernel
theorem dX10_code_252 : decode cX10_code 252 = .ok (.getfield 114, 3) := by decide +kernel
theorem dX10_code_255 : decode cX10_code 255 = .ok (.ireturn, 1) := by decide +kernel
theorem dX10_drop_0 : decode cX10_drop 0 = .ok (.aload_n 0, 1) := by decide +kernel
theorem dX10_drop_1 : decode cX10_drop 1 = .ok (.getfield 103, 3) := by decide +kernel
theorem dX10_drop_4 : decode cX10_drop 4 = .ok (.ifCond .ne 5, 3) := by decide +kernel
theorem dX10_drop_7 : decode cX10_drop 7 = .ok (.iconst 0, 1) := by decide +kernel
theorem dX10_drop_8 : decode cX10_drop 8 = .ok (.ireturn, 1) := by decide +kernel
theorem dX10_drop_9 : decode cX10_drop 9 = .ok (.aload_n 0, 1) := by decide +kernel
theorem dX10_drop_10 : decode cX10_drop 10 = .ok (.dup, 1) := by decide +kernel
theorem dX10_drop_11 : decode cX10_drop 11 = .ok (.getfield 107, 3) := by decide +kernel
theorem dX10_drop_14 : decode cX10_drop 14 = .ok (.iconst 1, 1) := by decide +kernel
theorem dX10_drop_15 : decode cX10_drop 15 = .ok (.isub, 1) := by decide +kernel
theorem dX10_drop_16 : decode cX10_drop 16 = .ok (.putfield 107, 3) := by decide +kernel
theorem dX10_drop_19 : decode cX10_drop 19 = .ok (.aload_n 0, 1) := by decide +kernel
theorem dX10_drop_20 : decode cX10_drop 20 = .ok (.aload_n 0, 1) := by decide +kernel
theorem dX10_drop_21 : decode cX10_drop 21 = .ok (.getfield 7, 3) := by decide +kernel
theorem dX10_drop_24 : decode cX10_drop 24 = .ok (.aload_n 0, 1) := by decide +kernel
theorem dX10_drop_25 : decode cX10_drop 25 = .ok (.getfield 107, 3) := by decide +kernel
theorem dX10_drop_28 : decode cX10_drop 28 = .ok (.iaload, 1) := by decide +kernel
theorem dX10_drop_29 : decode cX10_drop 29 = .ok (.putfield 114, 3) := by decide +kernel
theorem dX10_drop_32 : decode cX10_drop 32 = .ok (.aload_n 0, 1) := by decide +kernel
theorem dX10_drop_33 : decode cX10_drop 33 = .ok (.iconst 0, 1) := by decide +kernel
theorem dX10_drop_34 : decode cX10_drop 34 = .ok (.putfield 103, 3) := by decide +kernel
theorem dX10_drop_37 : decode cX10_drop 37 = .ok (.aload_n 0, 1) := by decide +kernel
theorem dX10_drop_38 : decode cX10_drop 38 = .ok (.iconst 0, 1) := by decide +kernel
theorem dX10_drop_39 : decode cX10_drop 39 = .ok (.putfield 117, 3) := by decide +kernel
theorem dX10_drop_42 : decode cX10_drop 42 = .ok (.iconst 1, 1) := by decide +kernel
theorem dX10_drop_43 : decode cX10_drop 43 = .ok (.ireturn, 1) := by decide +kernel
theorem dX10_isWhole_0 : decode cX10_isWhole 0 = .ok (.iload_n 1, 1) := by decide +kernel
theorem dX10_isWhole_1 : decode cX10_isWhole 1 = .ok (.ifCond .lt 31, 3) := by decide +kernel
theorem dX10_isWhole_4 : decode cX10_isWhole 4 = .ok (.iload_n 1, 1) := by decide +kernel
theorem dX10_isWhole_5 : decode cX10_isWhole 5 = .ok (.aload_n 0, 1) := by decide +kernel
theorem dX10_isWhole_6 : decode cX10_isWhole 6 = .ok (.getfield 103, 3) := by decide +kernel
theorem dX10_isWhole_9 : decode cX10_isWhole 9 = .ok (.ifCond .eq 12, 3) := by decide +kernel
theorem dX10_isWhole_12 : decode cX10_isWhole 12 = .ok (.aload_n 0, 1) := by decide +kernel
theorem dX10_isWhole_13 : decode cX10_isWhole 13 = .ok (.getfield 107, 3) := by decide +kernel
theorem dX10_isWhole_16 : decode cX10_isWhole 16 = .ok (.iconst 1, 1) := by decide +kernel
theorem dX10_isWhole_17 : decode cX10_isWhole 17 = .ok (.isub, 1) := by decide +kernel
theorem dX10_isWhole_18 : decode cX10_isWhole 18 = .ok (.goto 7, 3) := by decide +kernel
theorem dX10_isWhole_21 : decode cX10_isWhole 21 = .ok (.aload_n 0, 1) := by decide +kernel
theorem dX10_isWhole_22 : decode cX10_isWhole 22 = .ok (.getfield 107, 3) := by decide +kernel
theorem dX10_isWhole_25 : decode cX10_isWhole 25 = .ok (.if_icmp .ge 7, 3) := by decide +kernel
theorem dX10_isWhole_28 : decode cX10_isWhole 28 = .ok (.iconst 1, 1) := by decide +kernel
theorem dX10_isWhole_29 : decode cX10_isWhole 29 = .ok (.goto 4, 3) := by decide +kernel
theorem dX10_isWhole_32 : decode cX10_isWhole 32 = .ok (.iconst 0, 1) := by decide +kernel
theorem dX10_isWhole_33 : decode cX10_isWhole 33 = .ok (.ireturn, 1) := by decide +kernel
theorem dX10_entry_0 : decode cX10_entry 0 = .ok (.iload_n 1, 1) := by decide +kernel
theorem dX10_entry_1 : decode cX10_entry 1 = .ok (.bipush 29, 2) := by decide +kernel
theorem dX10_entry_3 : decode cX10_entry 3 = .ok (.invokestatic 110, 3) := by decide +kernel
theorem dX10_entry_6 : decode cX10_entry 6 = .ok (.ifCond .eq 16, 3) := by decide +kernel
theorem dX10_entry_9 : decode cX10_entry 9 = .ok (.iload_n 2, 1) := by decide +kernel
theorem dX10_entry_10 : decode cX10_entry 10 = .ok (.iconst (-1), 1) := by decide +kernel
theorem dX10_entry_11 : decode cX10_entry 11 = .ok (.if_icmp .eq 13, 3) := by decide +kernel
theorem dX10_entry_14 : decode cX10_entry 14 = .ok (.aload_n 0, 1) := by decide +kernel
theorem dX10_entry_15 : decode cX10_entry 15 = .ok (.iload_n 2, 1) := by decide +kernel
theorem dX10_entry_16 : decode cX10_entry 16 = .ok (.invokevirtual 187, 3) := by decide +kernel
theorem dX10_entry_19 : decode cX10_entry 19 = .ok (.ifCond .ne 5, 3) := by decide +kernel
theorem dX10_entry_22 : decode cX10_entry 22 = .ok (.iconst 0, 1) := by decide +kernel
theorem dX10_entry_23 : decode cX10_entry 23 = .ok (.ireturn, 1) := by decide +kernel
theorem dX10_entry_24 : decode cX10_entry 24 = .ok (.aload_n 0, 1) := by decide +kernel
theorem dX10_entry_25 : decode cX10_entry 25 = .ok (.getfield 59, 3) := by decide +kernel
theorem dX10_entry_28 : decode cX10_entry 28 = .ok (.iload_n 1, 1) := by decide +kernel
theorem dX10_entry_29 : decode cX10_entry 29 = .ok (.iload_n 2, 1) := by decide +kernel
theorem dX10_entry_30 : decode cX10_entry 30 = .ok (.iastore, 1) := by decide +kernel
theorem dX10_entry_31 : decode cX10_entry 31 = .ok (.iconst 1, 1) := by decide +kernel
theorem dX10_entry_32 : decode cX10_entry 32 = .ok (.ireturn, 1) := by decide +kernel
theorem dX10_begins_0 : decode cX10_begins 0 = .ok (.iload_n 0, 1) := by decide +kernel
theorem dX10_begins_1 : decode cX10_begins 1 = .ok (.iconst 1, 1) := by decide +kernel
theorem dX10_begins_2 : decode cX10_begins 2 = .ok (.if_icmp .le 12, 3) := by decide +kernel
theorem dX10_begins_5 : decode cX10_begins 5 = .ok (.iload_n 0, 1) := by decide +kernel
theorem dX10_begins_6 : decode cX10_begins 6 = .ok (.iconst 5, 1) := by decide +kernel
theorem dX10_begins_7 : decode cX10_begins 7 = .ok (.if_icmp .ge 7, 3) := by decide +kernel
theorem dX10_begins_10 : decode cX10_begins 10 = .ok (.iconst 1, 1) := by decide +kernel
theorem dX10_begins_11 : decode cX10_begins 11 = .ok (.goto 4, 3) := by decide +kernel
theorem dX10_begins_14 : decode cX10_begins 14 = .ok (.iconst 0, 1) := by decide +kernel
theorem dX10_begins_15 : decode cX10_begins 15 = .ok (.ireturn, 1) := by decide +kernel
theorem dX10_beginOf_0 : decode cX10_beginOf 0 = .ok (.iconst 0, 1) := by decide +kernel
theorem dX10_beginOf_1 : decode cX10_beginOf 1 = .ok (.istore_n 3, 1) := by decide +kernel
theorem dX10_beginOf_2 : decode cX10_beginOf 2 = .ok (.iload_n 2, 1) := by decide +kernel
theorem dX10_beginOf_3 : decode cX10_beginOf 3 = .ok (.istore 4, 2) := by decide +kernel
theorem dX10_beginOf_5 : decode cX10_beginOf 5 = .ok (.iload_n 1, 1) := by decide +kernel
theorem dX10_beginOf_6 : decode cX10_beginOf 6 = .ok (.iconst 1, 1) := by decide +kernel
theorem dX10_beginOf_7 : decode cX10_beginOf 7 = .ok (.isub, 1) := by decide +kernel
theorem dX10_beginOf_8 : decode cX10_beginOf 8 = .ok (.istore 5, 2) := by decide +kernel
theorem dX10_beginOf_10 : decode cX10_beginOf 10 = .ok (.iload 5, 2) := by decide +kernel
theorem dX10_beginOf_12 : decode cX10_beginOf 12 = .ok (.aload_n 0, 1) := by decide +kernel
theorem dX10_beginOf_13 : decode cX10_beginOf 13 = .ok (.getfield 7, 3) := by decide +kernel
theorem dX10_beginOf_16 : decode cX10_beginOf 16 = .ok (.aload_n 0, 1) := by decide +kernel
theorem dX10_beginOf_17 : decode cX10_beginOf 17 = .ok (.getfield 79, 3) := by decide +kernel
theorem dX10_beginOf_20 : decode cX10_beginOf 20 = .ok (.aload_n 0, 1) := by decide +kernel
theorem dX10_beginOf_21 : decode cX10_beginOf 21 = .ok (.getfield 190, 3) := by decide +kernel
theorem dX10_beginOf_24 : decode cX10_beginOf 24 = .ok (.iconst 1, 1) := by decide +kernel
theorem dX10_beginOf_25 : decode cX10_beginOf 25 = .ok (.isub, 1) := by decide +kernel
theorem dX10_beginOf_26 : decode cX10_beginOf 26 = .ok (.iaload, 1) := by decide +kernel
theorem dX10_beginOf_27 : decode cX10_beginOf 27 = .ok (.iaload, 1) := by decide +kernel
theorem dX10_beginOf_28 : decode cX10_beginOf 28 = .ok (.if_icmp .lt 75, 3) := by decide +kernel
theorem dX10_beginOf_31 : decode cX10_beginOf 31 = .ok (.aload_n 0, 1) := by decide +kernel
theorem dX10_beginOf_32 : decode cX10_beginOf 32 = .ok (.getfield 28, 3) := by decide +kernel
theorem dX10_beginOf_35 : decode cX10_beginOf 35 = .ok (.iload 5, 2) := by decide +kernel
theorem dX10_beginOf_37 : decode cX10_beginOf 37 = .ok (.iaload, 1) := by decide +kernel
theorem dX10_beginOf_38 : decode cX10_beginOf 38 = .ok (.bipush 11, 2) := by decide +kernel
theorem dX10_beginOf_40 : decode cX10_beginOf 40 = .ok (.if_icmp .ne 6, 3) := by decide +kernel
theorem dX10_beginOf_43 : decode cX10_beginOf 43 = .ok (.iinc 3 1, 3) := by decide +kernel
theorem dX10_beginOf_46 : decode cX10_beginOf 46 = .ok (.aload_n 0, 1) := by decide +kernel
theorem dX10_beginOf_47 : decode cX10_beginOf 47 = .ok (.getfield 28, 3) := by decide +kernel
theorem dX10_beginOf_50 : decode cX10_beginOf 50 = .ok (.iload 5, 2) := by decide +kernel
theorem dX10_beginOf_52 : decode cX10_beginOf 52 = .ok (.iaload, 1) := by decide +kernel
theorem dX10_beginOf_53 : decode cX10_beginOf 53 = .ok (.invokestatic 193, 3) := by decide +kernel
theorem dX10_beginOf_56 : decode cX10_beginOf 56 = .ok (.ifCond .eq 41, 3) := by decide +kernel
theorem dX10_beginOf_59 : decode cX10_beginOf 59 = .ok (.iload_n 3, 1) := by decide +kernel
theorem dX10_beginOf_60 : decode cX10_beginOf 60 = .ok (.ifCond .ne 11, 3) := by decide +kernel
theorem dX10_beginOf_63 : decode cX10_beginOf 63 = .ok (.iload 4, 2) := by decide +kernel
theorem dX10_beginOf_65 : decode cX10_beginOf 65 = .ok (.ifCond .ne 6, 3) := by decide +kernel
theorem dX10_beginOf_68 : decode cX10_beginOf 68 = .ok (.iload 5, 2) := by decide +kernel
theorem dX10_beginOf_70 : decode cX10_beginOf 70 = .ok (.ireturn, 1) := by decide +kernel
theorem dX10_beginOf_71 : decode cX10_beginOf 71 = .ok (.iload 4, 2) := by decide +kernel
theorem dX10_beginOf_73 : decode cX10_beginOf 73 = .ok (.iload_n 3, 1) := by decide +kernel
theorem dX10_beginOf_74 : decode cX10_beginOf 74 = .ok (.ifCond .ne 7, 3) := by decide +kernel
theorem dX10_beginOf_77 : decode cX10_beginOf 77 = .ok (.iconst 1, 1) := by decide +kernel
theorem dX10_beginOf_78 : decode cX10_beginOf 78 = .ok (.goto 4, 3) := by decide +kernel
theorem dX10_beginOf_81 : decode cX10_beginOf 81 = .ok (.iconst 0, 1) := by decide +kernel
theorem dX10_beginOf_82 : decode cX10_beginOf 82 = .ok (.isub, 1) := by decide +kernel
theorem dX10_beginOf_83 : decode cX10_beginOf 83 = .ok (.istore 4, 2) := by decide +kernel
theorem dX10_beginOf_85 : decode cX10_beginOf 85 = .ok (.iload_n 3, 1) := by decide +kernel
theorem dX10_beginOf_86 : decode cX10_beginOf 86 = .ok (.iload_n 3, 1) := by decide +kernel
theorem dX10_beginOf_87 : decode cX10_beginOf 87 = .ok (.ifCond .le 7, 3) := by decide +kernel
theorem dX10_beginOf_90 : decode cX10_beginOf 90 = .ok (.iconst 1, 1) := by decide +kernel
theorem dX10_beginOf_91 : decode cX10_beginOf 91 = .ok (.goto 4, 3) := by decide +kernel
theorem dX10_beginOf_94 : decode cX10_beginOf 94 = .ok (.iconst 0, 1) := by decide +kernel
theorem dX10_beginOf_95 : decode cX10_beginOf 95 = .ok (.isub, 1) := by decide +kernel
theorem dX10_beginOf_96 : decode cX10_beginOf 96 = .ok (.istore_n 3, 1) := by decide +kernel
theorem dX10_beginOf_97 : decode cX10_beginOf 97 = .ok (.iinc 5 (-1), 3) := by decide +kernel
theorem dX10_beginOf_100 : decode cX10_beginOf 100 = .ok (.goto (-90), 3) := by decide +kernel
theorem dX10_beginOf_103 : decode cX10_beginOf 103 = .ok (.iconst (-1), 1) := by decide +kernel
theorem dX10_beginOf_104 : decode cX10_beginOf 104 = .ok (.ireturn, 1) := by decide +kernel
theorem dX10_endOf_0 : decode cX10_endOf 0 = .ok (.iconst 0, 1) := by decide +kernel
theorem dX10_endOf_1 : decode cX10_endOf 1 = .ok (.istore_n 3, 1) := by decide +kernel
theorem dX10_endOf_2 : decode cX10_endOf 2 = .ok (.iload_n 1, 1) := by decide +kernel
theorem dX10_endOf_3 : decode cX10_endOf 3 = .ok (.istore 4, 2) := by decide +kernel
theorem dX10_endOf_5 : decode cX10_endOf 5 = .ok (.iload_n 3, 1) := by decide +kernel
theorem dX10_endOf_6 : decode cX10_endOf 6 = .ok (.ifCond .gt 30, 3) := by decide +kernel
theorem dX10_endOf_9 : decode cX10_endOf 9 = .ok (.aload_n 0, 1) := by decide +kernel
theorem dX10_endOf_10 : decode cX10_endOf 10 = .ok (.getfield 28, 3) := by decide +kernel
theorem dX10_endOf_13 : decode cX10_endOf 13 = .ok (.iload 4, 2) := by decide +kernel
theorem dX10_endOf_15 : decode cX10_endOf 15 = .ok (.iaload, 1) := by decide +kernel
theorem dX10_endOf_16 : decode cX10_endOf 16 = .ok (.bipush 11, 2) := by decide +kernel
theorem dX10_endOf_18 : decode cX10_endOf 18 = .ok (.if_icmp .eq 61, 3) := by decide +kernel
theorem dX10_endOf_21 : decode cX10_endOf 21 = .ok (.iload_n 2, 1) := by decide +kernel
theorem dX10_endOf_22 : decode cX10_endOf 22 = .ok (.ifCond .eq 14, 3) := by decide +kernel
theorem dX10_endOf_25 : decode cX10_endOf 25 = .ok (.aload_n 0, 1) := by decide +kernel
theorem dX10_endOf_26 : decode cX10_endOf 26 = .ok (.getfield 28, 3) := by decide +kernel
theorem dX10_endOf_29 : decode cX10_endOf 29 = .ok (.iload 4, 2) := by decide +kernel
theorem dX10_endOf_31 : decode cX10_endOf 31 = .ok (.iaload, 1) := by decide +kernel
theorem dX10_endOf_32 : decode cX10_endOf 32 = .ok (.iconst 5, 1) := by decide +kernel
theorem dX10_endOf_33 : decode cX10_endOf 33 = .ok (.if_icmp .eq 46, 3) := by decide +kernel
theorem dX10_endOf_36 : decode cX10_endOf 36 = .ok (.iload_n 3, 1) := by decide +kernel
theorem dX10_endOf_37 : decode cX10_endOf 37 = .ok (.aload_n 0, 1) := by decide +kernel
theorem dX10_endOf_38 : decode cX10_endOf 38 = .ok (.getfield 28, 3) := by decide +kernel
theorem dX10_endOf_41 : decode cX10_endOf 41 = .ok (.iload 4, 2) := by decide +kernel
theorem dX10_endOf_43 : decode cX10_endOf 43 = .ok (.iaload, 1) := by decide +kernel
theorem dX10_endOf_44 : decode cX10_endOf 44 = .ok (.invokestatic 193, 3) := by decide +kernel
theorem dX10_endOf_47 : decode cX10_endOf 47 = .ok (.ifCond .eq 7, 3) := by decide +kernel
theorem dX10_endOf_50 : decode cX10_endOf 50 = .ok (.iconst 1, 1) := by decide +kernel
theorem dX10_endOf_51 : decode cX10_endOf 51 = .ok (.goto 20, 3) := by decide +kernel
theorem dX10_endOf_54 : decode cX10_endOf 54 = .ok (.aload_n 0, 1) := by decide +kernel
theorem dX10_endOf_55 : decode cX10_endOf 55 = .ok (.getfield 28, 3) := by decide +kernel
theorem dX10_endOf_58 : decode cX10_endOf 58 = .ok (.iload 4, 2) := by decide +kernel
theorem dX10_endOf_60 : decode cX10_endOf 60 = .ok (.iaload, 1) := by decide +kernel
theorem dX10_endOf_61 : decode cX10_endOf 61 = .ok (.bipush 11, 2) := by decide +kernel
theorem dX10_endOf_63 : decode cX10_endOf 63 = .ok (.if_icmp .ne 7, 3) := by decide +kernel
theorem dX10_endOf_66 : decode cX10_endOf 66 = .ok (.iconst (-1), 1) := by decide +kernel
theorem dX10_endOf_67 : decode cX10_endOf 67 = .ok (.goto 4, 3) := by decide +kernel
theorem dX10_endOf_70 : decode cX10_endOf 70 = .ok (.iconst 0, 1) := by decide +kernel
theorem dX10_endOf_71 : decode cX10_endOf 71 = .ok (.iadd, 1) := by decide +kernel
theorem dX10_endOf_72 : decode cX10_endOf 72 = .ok (.istore_n 3, 1) := by decide +kernel
theorem dX10_endOf_73 : decode cX10_endOf 73 = .ok (.iinc 4 1, 3) := by decide +kernel
theorem dX10_endOf_76 : decode cX10_endOf 76 = .ok (.goto (-71), 3) := by decide +kernel
theorem dX10_endOf_79 : decode cX10_endOf 79 = .ok (.iload 4, 2) := by decide +kernel
theorem dX10_endOf_81 : decode cX10_endOf 81 = .ok (.ireturn, 1) := by decide +kernel
theorem dX10_namesOf_0 : decode cX10_namesOf 0 = .ok (.aload_n 0, 1) := by decide +kernel
theorem dX10_namesOf_1 : decode cX10_namesOf 1 = .ok (.getfield 16, 3) := by decide +kernel
theorem dX10_namesOf_4 : decode cX10_namesOf 4 = .ok (.iload_n 1, 1) := by decide +kernel
theorem dX10_namesOf_5 : decode cX10_namesOf 5 = .ok (.iaload, 1) := by decide +kernel
theorem dX10_namesOf_6 : decode cX10_namesOf 6 = .ok (.aload_n 0, 1) := by decide +kernel
theorem dX10_namesOf_7 : decode cX10_namesOf 7 = .ok (.getfield 22, 3) := by decide +kernel
theorem dX10_namesOf_10 : decode cX10_namesOf 10 = .ok (.iload_n 1, 1) := by decide +kernel
theorem dX10_namesOf_11 : decode cX10_namesOf 11 = .ok (.iaload, 1) := by decide +kernel
theorem dX10_namesOf_12 : decode cX10_namesOf 12 = .ok (.iadd, 1) := by decide +kernel
theorem dX10_namesOf_13 : decode cX10_namesOf 13 = .ok (.ireturn, 1) := by decide +kernel
theorem dX10_asks_0 : decode cX10_asks 0 = .ok (.aload_n 0, 1) := by decide +kernel
theorem dX10_asks_1 : decode cX10_asks 1 = .ok (.iload_n 1, 1) := by decide +kernel
theorem dX10_asks_2 : decode cX10_asks 2 = .ok (.invokevirtual 196, 3) := by decide +kernel
theorem dX10_asks_5 : decode cX10_asks 5 = .ok (.aload_n 0, 1) := by decide +kernel
theorem dX10_asks_6 : decode cX10_asks 6 = .ok (.getfield 25, 3) := by decide +kernel
theorem dX10_asks_9 : decode cX10_asks 9 = .ok (.iload_n 1, 1) := by decide +kernel
theorem dX10_asks_10 : decode cX10_asks 10 = .ok (.iaload, 1) := by decide +kernel
theorem dX10_asks_11 : decode cX10_asks 11 = .ok (.iadd, 1) := by decide +kernel
theorem dX10_asks_12 : decode cX10_asks 12 = .ok (.ireturn, 1) := by decide +kernel
theorem dX10_base_0 : decode cX10_base 0 = .ok (.aload_n 0, 1) := by decide +kernel
theorem dX10_base_1 : decode cX10_base 1 = .ok (.getfield 82, 3) := by decide +kernel
theorem dX10_base_4 : decode cX10_base 4 = .ok (.aload_n 0, 1) := by decide +kernel
theorem dX10_base_5 : decode cX10_base 5 = .ok (.getfield 190, 3) := by decide +kernel
theorem dX10_base_8 : decode cX10_base 8 = .ok (.iconst 1, 1) := by decide +kernel
theorem dX10_base_9 : decode cX10_base 9 = .ok (.isub, 1) := by decide +kernel
theorem dX10_base_10 : decode cX10_base 10 = .ok (.iaload, 1) := by decide +kernel
theorem dX10_base_11 : decode cX10_base 11 = .ok (.aload_n 0, 1) := by decide +kernel
theorem dX10_base_12 : decode cX10_base 12 = .ok (.aload_n 0, 1) := by decide +kernel
theorem dX10_base_13 : decode cX10_base 13 = .ok (.getfield 79, 3) := by decide +kernel
theorem dX10_base_16 : decode cX10_base 16 = .ok (.aload_n 0, 1) := by decide +kernel
theorem dX10_base_17 : decode cX10_base 17 = .ok (.getfield 190, 3) := by decide +kernel
theorem dX10_base_20 : decode cX10_base 20 = .ok (.iconst 1, 1) := by decide +kernel
theorem dX10_base_21 : decode cX10_base 21 = .ok (.isub, 1) := by decide +kernel
theorem dX10_base_22 : decode cX10_base 22 = .ok (.iaload, 1) := by decide +kernel
theorem dX10_base_23 : decode cX10_base 23 = .ok (.invokevirtual 196, 3) := by decide +kernel
theorem dX10_base_26 : decode cX10_base 26 = .ok (.iadd, 1) := by decide +kernel
theorem dX10_base_27 : decode cX10_base 27 = .ok (.ireturn, 1) := by decide +kernel
theorem dX10_pop_0 : decode cX10_pop 0 = .ok (.aload_n 0, 1) := by decide +kernel
theorem dX10_pop_1 : decode cX10_pop 1 = .ok (.dup, 1) := by decide +kernel
theorem dX10_pop_2 : decode cX10_pop 2 = .ok (.getfield 199, 3) := by decide +kernel
theorem dX10_pop_5 : decode cX10_pop 5 = .ok (.iconst 1, 1) := by decide +kernel
theorem dX10_pop_6 : decode cX10_pop 6 = .ok (.isub, 1) := by decide +kernel
theorem dX10_pop_7 : decode cX10_pop 7 = .ok (.putfield 199, 3) := by decide +kernel
theorem dX10_pop_10 : decode cX10_pop 10 = .ok (.aload_n 0, 1) := by decide +kernel
theorem dX10_pop_11 : decode cX10_pop 11 = .ok (.getfield 76, 3) := by decide +kernel
theorem dX10_pop_14 : decode cX10_pop 14 = .ok (.aload_n 0, 1) := by decide +kernel
theorem dX10_pop_15 : decode cX10_pop 15 = .ok (.getfield 199, 3) := by decide +kernel
theorem dX10_pop_18 : decode cX10_pop 18 = .ok (.laload, 1) := by decide +kernel
theorem dX10_pop_19 : decode cX10_pop 19 = .ok (.lreturn, 1) := by decide +kernel
theorem dX10_push_0 : decode cX10_push 0 = .ok (.aload_n 0, 1) := by decide +kernel
theorem dX10_push_1 : decode cX10_push 1 = .ok (.getfield 76, 3) := by decide +kernel
theorem dX10_push_4 : decode cX10_push 4 = .ok (.aload_n 0, 1) := by decide +kernel
theorem dX10_push_5 : decode cX10_push 5 = .ok (.getfield 199, 3) := by decide +kernel
theorem dX10_push_8 : decode cX10_push 8 = .ok (.lload_n 1, 1) := by decide +kernel
theorem dX10_push_9 : decode cX10_push 9 = .ok (.lastore, 1) := by decide +kernel
theorem dX10_push_10 : decode cX10_push 10 = .ok (.aload_n 0, 1) := by decide +kernel
theorem dX10_push_11 : decode cX10_push 11 = .ok (.dup, 1) := by decide +kernel
theorem dX10_push_12 : decode cX10_push 12 = .ok (.getfield 199, 3) := by decide +kernel
theorem dX10_push_15 : decode cX10_push 15 = .ok (.iconst 1, 1) := by decide +kernel
theorem dX10_push_16 : decode cX10_push 16 = .ok (.iadd, 1) := by decide +kernel
theorem dX10_push_17 : decode cX10_push 17 = .ok (.putfield 199, 3) := by decide +kernel
theorem dX10_push_20 : decode cX10_push 20 = .ok (.return_, 1) := by decide +kernel
theorem dX10_keep_0 : decode cX10_keep 0 = .ok (.iconst 0, 1) := by decide +kernel
theorem dX10_keep_1 : decode cX10_keep 1 = .ok (.istore_n 3, 1) := by decide +kernel
theorem dX10_keep_2 : decode cX10_keep 2 = .ok (.iload_n 3, 1) := by decide +kernel
theorem dX10_keep_3 : decode cX10_keep 3 = .ok (.iload_n 1, 1) := by decide +kernel
theorem dX10_keep_4 : decode cX10_keep 4 = .ok (.if_icmp .ge 30, 3) := by decide +kernel
theorem dX10_keep_7 : decode cX10_keep 7 = .ok (.aload_n 0, 1) := by decide +kernel
theorem dX10_keep_8 : decode cX10_keep 8 = .ok (.getfield 76, 3) := by decide +kernel
theorem dX10_keep_11 : decode cX10_keep 11 = .ok (.iload_n 2, 1) := by decide +kernel
theorem dX10_keep_12 : decode cX10_keep 12 = .ok (.iload_n 3, 1) := by decide +kernel
theorem dX10_keep_13 : decode cX10_keep 13 = .ok (.iadd, 1) := by decide +kernel
theorem dX10_keep_14 : decode cX10_keep 14 = .ok (.aload_n 0, 1) := by decide +kernel
theorem dX10_keep_15 : decode cX10_keep 15 = .ok (.getfield 76, 3) := by decide +kernel
theorem dX10_keep_18 : decode cX10_keep 18 = .ok (.aload_n 0, 1) := by decide +kernel
theorem dX10_keep_19 : decode cX10_keep 19 = .ok (.getfield 199, 3) := by decide +kernel
theorem dX10_keep_22 : decode cX10_keep 22 = .ok (.iload_n 1, 1) := by decide +kernel
theorem dX10_keep_23 : decode cX10_keep 23 = .ok (.isub, 1) := by decide +kernel
theorem dX10_keep_24 : decode cX10_keep 24 = .ok (.iload_n 3, 1) := by decide +kernel
theorem dX10_keep_25 : decode cX10_keep 25 = .ok (.iadd, 1) := by decide +kernel
theorem dX10_keep_26 : decode cX10_keep 26 = .ok (.laload, 1) := by decide +kernel
theorem dX10_keep_27 : decode cX10_keep 27 = .ok (.lastore, 1) := by decide +kernel
theorem dX10_keep_28 : decode cX10_keep 28 = .ok (.iinc 3 1, 3) := by decide +kernel
theorem dX10_keep_31 : decode cX10_keep 31 = .ok (.goto (-29), 3) := by decide +kernel
theorem dX10_keep_34 : decode cX10_keep 34 = .ok (.aload_n 0, 1) := by decide +kernel
theorem dX10_keep_35 : decode cX10_keep 35 = .ok (.iload_n 2, 1) := by decide +kernel
theorem dX10_keep_36 : decode cX10_keep 36 = .ok (.iload_n 1, 1) := by decide +kernel
theorem dX10_keep_37 : decode cX10_keep 37 = .ok (.iadd, 1) := by decide +kernel
theorem dX10_keep_38 : decode cX10_keep 38 = .ok (.putfield 199, 3) := by decide +kernel
theorem dX10_keep_41 : decode cX10_keep 41 = .ok (.return_, 1) := by decide +kernel
theorem dX10_back_0 : decode cX10_back 0 = .ok (.aload_n 0, 1) := by decide +kernel
