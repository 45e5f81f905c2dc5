theorem dX1_turn_57 : decode cX1_turn 57 = .ok (.iload_n 2, 1) := by decide +kernel
theorem dX1_turn_58 : decode cX1_turn 58 = .ok (.iaload, 1) := by decide +kernel
theorem dX1_turn_59 : decode cX1_turn 59 = .ok (.aload_n 0, 1) := by decide +kernel
theorem dX1_turn_60 : decode cX1_turn 60 = .ok (.getfield 38, 3) := by decide +kernel
theorem dX1_turn_63 : decode cX1_turn 63 = .ok (.getfield 95, 3) := by decide +kernel
theorem dX1_turn_66 : decode cX1_turn 66 = .ok (.iload_n 2, 1) := by decide +kernel
theorem dX1_turn_67 : decode cX1_turn 67 = .ok (.iaload, 1) := by decide +kernel
theorem dX1_turn_68 : decode cX1_turn 68 = .ok (.iadd, 1) := by decide +kernel
theorem dX1_turn_69 : decode cX1_turn 69 = .ok (.invokevirtual 139, 3) := by decide +kernel
theorem dX1_turn_72 : decode cX1_turn 72 = .ok (.return_, 1) := by decide +kernel
theorem dX1_end_0 : decode cX1_end 0 = .ok (.aload_n 0, 1) := by decide +kernel
theorem dX1_end_1 : decode cX1_end 1 = .ok (.getfield 35, 3) := by decide +kernel
theorem dX1_end_4 : decode cX1_end 4 = .ok (.ifCond .le 14, 3) := by decide +kernel
theorem dX1_end_7 : decode cX1_end 7 = .ok (.aload_n 0, 1) := by decide +kernel
theorem dX1_end_8 : decode cX1_end 8 = .ok (.dup, 1) := by decide +kernel
theorem dX1_end_9 : decode cX1_end 9 = .ok (.getfield 35, 3) := by decide +kernel
theorem dX1_end_12 : decode cX1_end 12 = .ok (.iconst 1, 1) := by decide +kernel
theorem dX1_end_13 : decode cX1_end 13 = .ok (.isub, 1) := by decide +kernel
theorem dX1_end_14 : decode cX1_end 14 = .ok (.putfield 35, 3) := by decide +kernel
theorem dX1_end_17 : decode cX1_end 17 = .ok (.return_, 1) := by decide +kernel
theorem dX1_end_18 : decode cX1_end 18 = .ok (.aload_n 0, 1) := by decide +kernel
theorem dX1_end_19 : decode cX1_end 19 = .ok (.getfield 38, 3) := by decide +kernel
theorem dX1_end_22 : decode cX1_end 22 = .ok (.getfield 126, 3) := by decide +kernel
theorem dX1_end_25 : decode cX1_end 25 = .ok (.iload_n 1, 1) := by decide +kernel
theorem dX1_end_26 : decode cX1_end 26 = .ok (.iaload, 1) := by decide +kernel
theorem dX1_end_27 : decode cX1_end 27 = .ok (.istore_n 2, 1) := by decide +kernel
theorem dX1_end_28 : decode cX1_end 28 = .ok (.aload_n 0, 1) := by decide +kernel
theorem dX1_end_29 : decode cX1_end 29 = .ok (.getfield 31, 3) := by decide +kernel
theorem dX1_end_32 : decode cX1_end 32 = .ok (.ifCond .eq 31, 3) := by decide +kernel
theorem dX1_end_35 : decode cX1_end 35 = .ok (.aload_n 0, 1) := by decide +kernel
theorem dX1_end_36 : decode cX1_end 36 = .ok (.iconst 0, 1) := by decide +kernel
theorem dX1_end_37 : decode cX1_end 37 = .ok (.invokevirtual 120, 3) := by decide +kernel
theorem dX1_end_40 : decode cX1_end 40 = .ok (.iload_n 2, 1) := by decide +kernel
theorem dX1_end_41 : decode cX1_end 41 = .ok (.iconst (-1), 1) := by decide +kernel
theorem dX1_end_42 : decode cX1_end 42 = .ok (.if_icmp .ne 17, 3) := by decide +kernel
theorem dX1_end_45 : decode cX1_end 45 = .ok (.aload_n 0, 1) := by decide +kernel
theorem dX1_end_46 : decode cX1_end 46 = .ok (.bipush 15, 2) := by decide +kernel
theorem dX1_end_48 : decode cX1_end 48 = .ok (.iconst 0, 1) := by decide +kernel
theorem dX1_end_49 : decode cX1_end 49 = .ok (.aload_n 0, 1) := by decide +kernel
theorem dX1_end_50 : decode cX1_end 50 = .ok (.getfield 22, 3) := by decide +kernel
theorem dX1_end_53 : decode cX1_end 53 = .ok (.iconst 0, 1) := by decide +kernel
theorem dX1_end_54 : decode cX1_end 54 = .ok (.iconst 0, 1) := by decide +kernel
theorem dX1_end_55 : decode cX1_end 55 = .ok (.invokevirtual 129, 3) := by decide +kernel
theorem dX1_end_58 : decode cX1_end 58 = .ok (.return_, 1) := by decide +kernel
theorem dX1_end_59 : decode cX1_end 59 = .ok (.aload_n 0, 1) := by decide +kernel
theorem dX1_end_60 : decode cX1_end 60 = .ok (.invokevirtual 133, 3) := by decide +kernel
theorem dX1_end_63 : decode cX1_end 63 = .ok (.iload_n 2, 1) := by decide +kernel
theorem dX1_end_64 : decode cX1_end 64 = .ok (.iconst (-1), 1) := by decide +kernel
theorem dX1_end_65 : decode cX1_end 65 = .ok (.if_icmp .eq 27, 3) := by decide +kernel
theorem dX1_end_68 : decode cX1_end 68 = .ok (.aload_n 0, 1) := by decide +kernel
theorem dX1_end_69 : decode cX1_end 69 = .ok (.iload_n 1, 1) := by decide +kernel
theorem dX1_end_70 : decode cX1_end 70 = .ok (.aload_n 0, 1) := by decide +kernel
theorem dX1_end_71 : decode cX1_end 71 = .ok (.getfield 38, 3) := by decide +kernel
theorem dX1_end_74 : decode cX1_end 74 = .ok (.getfield 136, 3) := by decide +kernel
theorem dX1_end_77 : decode cX1_end 77 = .ok (.iload_n 2, 1) := by decide +kernel
theorem dX1_end_78 : decode cX1_end 78 = .ok (.iaload, 1) := by decide +kernel
theorem dX1_end_79 : decode cX1_end 79 = .ok (.aload_n 0, 1) := by decide +kernel
theorem dX1_end_80 : decode cX1_end 80 = .ok (.getfield 38, 3) := by decide +kernel
theorem dX1_end_83 : decode cX1_end 83 = .ok (.getfield 142, 3) := by decide +kernel
theorem dX1_end_86 : decode cX1_end 86 = .ok (.iload_n 2, 1) := by decide +kernel
theorem dX1_end_87 : decode cX1_end 87 = .ok (.iaload, 1) := by decide +kernel
theorem dX1_end_88 : decode cX1_end 88 = .ok (.iadd, 1) := by decide +kernel
theorem dX1_end_89 : decode cX1_end 89 = .ok (.invokevirtual 139, 3) := by decide +kernel
theorem dX1_end_92 : decode cX1_end 92 = .ok (.return_, 1) := by decide +kernel
theorem dX1_comeToLife_0 : decode cX1_comeToLife 0 = .ok (.aload_n 0, 1) := by decide +kernel
theorem dX1_comeToLife_1 : decode cX1_comeToLife 1 = .ok (.getfield 15, 3) := by decide +kernel
theorem dX1_comeToLife_4 : decode cX1_comeToLife 4 = .ok (.iload_n 1, 1) := by decide +kernel
theorem dX1_comeToLife_5 : decode cX1_comeToLife 5 = .ok (.aload_n 0, 1) := by decide +kernel
theorem dX1_comeToLife_6 : decode cX1_comeToLife 6 = .ok (.getfield 42, 3) := by decide +kernel
theorem dX1_comeToLife_9 : decode cX1_comeToLife 9 = .ok (.getfield 46, 3) := by decide +kernel
theorem dX1_comeToLife_12 : decode cX1_comeToLife 12 = .ok (.iastore, 1) := by decide +kernel
theorem dX1_comeToLife_13 : decode cX1_comeToLife 13 = .ok (.aload_n 0, 1) := by decide +kernel
theorem dX1_comeToLife_14 : decode cX1_comeToLife 14 = .ok (.iconst 1, 1) := by decide +kernel
theorem dX1_comeToLife_15 : decode cX1_comeToLife 15 = .ok (.putfield 31, 3) := by decide +kernel
theorem dX1_comeToLife_18 : decode cX1_comeToLife 18 = .ok (.aload_n 0, 1) := by decide +kernel
theorem dX1_comeToLife_19 : decode cX1_comeToLife 19 = .ok (.iconst 0, 1) := by decide +kernel
theorem dX1_comeToLife_20 : decode cX1_comeToLife 20 = .ok (.putfield 25, 3) := by decide +kernel
theorem dX1_comeToLife_23 : decode cX1_comeToLife 23 = .ok (.aload_n 0, 1) := by decide +kernel
theorem dX1_comeToLife_24 : decode cX1_comeToLife 24 = .ok (.iload_n 2, 1) := by decide +kernel
theorem dX1_comeToLife_25 : decode cX1_comeToLife 25 = .ok (.invokevirtual 145, 3) := by decide +kernel
theorem dX1_comeToLife_28 : decode cX1_comeToLife 28 = .ok (.return_, 1) := by decide +kernel
theorem dX1_operate_0 : decode cX1_operate 0 = .ok (.iload_n 1, 1) := by decide +kernel
theorem dX1_operate_1 : decode cX1_operate 1 = .ok (.invokestatic 148, 3) := by decide +kernel
theorem dX1_operate_4 : decode cX1_operate 4 = .ok (.iconst 2, 1) := by decide +kernel
theorem dX1_operate_5 : decode cX1_operate 5 = .ok (.if_icmp .ne 10, 3) := by decide +kernel
theorem dX1_operate_8 : decode cX1_operate 8 = .ok (.aload_n 0, 1) := by decide +kernel
theorem dX1_operate_9 : decode cX1_operate 9 = .ok (.invokevirtual 116, 3) := by decide +kernel
theorem dX1_operate_12 : decode cX1_operate 12 = .ok (.goto 4, 3) := by decide +kernel
theorem dX1_operate_15 : decode cX1_operate 15 = .ok (.iconst 0, 1) := by decide +kernel
theorem dX1_operate_16 : decode cX1_operate 16 = .ok (.istore_n 2, 1) := by decide +kernel
theorem dX1_operate_17 : decode cX1_operate 17 = .ok (.aload_n 0, 1) := by decide +kernel
theorem dX1_operate_18 : decode cX1_operate 18 = .ok (.invokevirtual 116, 3) := by decide +kernel
theorem dX1_operate_21 : decode cX1_operate 21 = .ok (.istore_n 3, 1) := by decide +kernel
theorem dX1_operate_22 : decode cX1_operate 22 = .ok (.aload_n 0, 1) := by decide +kernel
theorem dX1_operate_23 : decode cX1_operate 23 = .ok (.iload_n 1, 1) := by decide +kernel
theorem dX1_operate_24 : decode cX1_operate 24 = .ok (.aload_n 0, 1) := by decide +kernel
theorem dX1_operate_25 : decode cX1_operate 25 = .ok (.getfield 22, 3) := by decide +kernel
theorem dX1_operate_28 : decode cX1_operate 28 = .ok (.aload_n 0, 1) := by decide +kernel
theorem dX1_operate_29 : decode cX1_operate 29 = .ok (.getfield 25, 3) := by decide +kernel
theorem dX1_operate_32 : decode cX1_operate 32 = .ok (.iadd, 1) := by decide +kernel
theorem dX1_operate_33 : decode cX1_operate 33 = .ok (.iload_n 3, 1) := by decide +kernel
theorem dX1_operate_34 : decode cX1_operate 34 = .ok (.iload_n 2, 1) := by decide +kernel
theorem dX1_operate_35 : decode cX1_operate 35 = .ok (.iconst 0, 1) := by decide +kernel
theorem dX1_operate_36 : decode cX1_operate 36 = .ok (.invokevirtual 129, 3) := by decide +kernel
theorem dX1_operate_39 : decode cX1_operate 39 = .ok (.aload_n 0, 1) := by decide +kernel
theorem dX1_operate_40 : decode cX1_operate 40 = .ok (.iconst 1, 1) := by decide +kernel
theorem dX1_operate_41 : decode cX1_operate 41 = .ok (.invokevirtual 145, 3) := by decide +kernel
theorem dX1_operate_44 : decode cX1_operate 44 = .ok (.return_, 1) := by decide +kernel
theorem dX1_useMemory_0 : decode cX1_useMemory 0 = .ok (.iload_n 1, 1) := by decide +kernel
theorem dX1_useMemory_1 : decode cX1_useMemory 1 = .ok (.bipush 54, 2) := by decide +kernel
theorem dX1_useMemory_3 : decode cX1_useMemory 3 = .ok (.if_icmp .lt 31, 3) := by decide +kernel
theorem dX1_useMemory_6 : decode cX1_useMemory 6 = .ok (.iload_n 1, 1) := by decide +kernel
theorem dX1_useMemory_7 : decode cX1_useMemory 7 = .ok (.bipush 62, 2) := by decide +kernel
theorem dX1_useMemory_9 : decode cX1_useMemory 9 = .ok (.if_icmp .gt 25, 3) := by decide +kernel
theorem dX1_useMemory_12 : decode cX1_useMemory 12 = .ok (.aload_n 0, 1) := by decide +kernel
theorem dX1_useMemory_13 : decode cX1_useMemory 13 = .ok (.invokevirtual 116, 3) := by decide +kernel
theorem dX1_useMemory_16 : decode cX1_useMemory 16 = .ok (.istore_n 3, 1) := by decide +kernel
theorem dX1_useMemory_17 : decode cX1_useMemory 17 = .ok (.aload_n 0, 1) := by decide +kernel
theorem dX1_useMemory_18 : decode cX1_useMemory 18 = .ok (.invokevirtual 116, 3) := by decide +kernel
theorem dX1_useMemory_21 : decode cX1_useMemory 21 = .ok (.istore 4, 2) := by decide +kernel
theorem dX1_useMemory_23 : decode cX1_useMemory 23 = .ok (.aload_n 0, 1) := by decide +kernel
theorem dX1_useMemory_24 : decode cX1_useMemory 24 = .ok (.iload_n 1, 1) := by decide +kernel
theorem dX1_useMemory_25 : decode cX1_useMemory 25 = .ok (.iconst 0, 1) := by decide +kernel
theorem dX1_useMemory_26 : decode cX1_useMemory 26 = .ok (.iload 4, 2) := by decide +kernel
theorem dX1_useMemory_28 : decode cX1_useMemory 28 = .ok (.iload_n 3, 1) := by decide +kernel
theorem dX1_useMemory_29 : decode cX1_useMemory 29 = .ok (.iload_n 2, 1) := by decide +kernel
theorem dX1_useMemory_30 : decode cX1_useMemory 30 = .ok (.invokevirtual 129, 3) := by decide +kernel
theorem dX1_useMemory_33 : decode cX1_useMemory 33 = .ok (.return_, 1) := by decide +kernel
theorem dX1_useMemory_34 : decode cX1_useMemory 34 = .ok (.iload_n 1, 1) := by decide +kernel
theorem dX1_useMemory_35 : decode cX1_useMemory 35 = .ok (.bipush 63, 2) := by decide +kernel
theorem dX1_useMemory_37 : decode cX1_useMemory 37 = .ok (.if_icmp .ne 7, 3) := by decide +kernel
theorem dX1_useMemory_40 : decode cX1_useMemory 40 = .ok (.iconst 0, 1) := by decide +kernel
theorem dX1_useMemory_41 : decode cX1_useMemory 41 = .ok (.goto 7, 3) := by decide +kernel
theorem dX1_useMemory_44 : decode cX1_useMemory 44 = .ok (.aload_n 0, 1) := by decide +kernel
theorem dX1_useMemory_45 : decode cX1_useMemory 45 = .ok (.invokevirtual 116, 3) := by decide +kernel
theorem dX1_useMemory_48 : decode cX1_useMemory 48 = .ok (.istore_n 3, 1) := by decide +kernel
theorem dX1_useMemory_49 : decode cX1_useMemory 49 = .ok (.aload_n 0, 1) := by decide +kernel
theorem dX1_useMemory_50 : decode cX1_useMemory 50 = .ok (.iload_n 1, 1) := by decide +kernel
theorem dX1_useMemory_51 : decode cX1_useMemory 51 = .ok (.aload_n 0, 1) := by decide +kernel
theorem dX1_useMemory_52 : decode cX1_useMemory 52 = .ok (.getfield 22, 3) := by decide +kernel
theorem dX1_useMemory_55 : decode cX1_useMemory 55 = .ok (.aload_n 0, 1) := by decide +kernel
theorem dX1_useMemory_56 : decode cX1_useMemory 56 = .ok (.getfield 25, 3) := by decide +kernel
theorem dX1_useMemory_59 : decode cX1_useMemory 59 = .ok (.iadd, 1) := by decide +kernel
theorem dX1_useMemory_60 : decode cX1_useMemory 60 = .ok (.iload_n 3, 1) := by decide +kernel
theorem dX1_useMemory_61 : decode cX1_useMemory 61 = .ok (.iconst 0, 1) := by decide +kernel
theorem dX1_useMemory_62 : decode cX1_useMemory 62 = .ok (.iload_n 2, 1) := by decide +kernel
theorem dX1_useMemory_63 : decode cX1_useMemory 63 = .ok (.invokevirtual 129, 3) := by decide +kernel
theorem dX1_useMemory_66 : decode cX1_useMemory 66 = .ok (.aload_n 0, 1) := by decide +kernel
theorem dX1_useMemory_67 : decode cX1_useMemory 67 = .ok (.iconst 1, 1) := by decide +kernel
theorem dX1_useMemory_68 : decode cX1_useMemory 68 = .ok (.invokevirtual 145, 3) := by decide +kernel
theorem dX1_useMemory_71 : decode cX1_useMemory 71 = .ok (.return_, 1) := by decide +kernel
theorem dX1_useVariable_0 : decode cX1_useVariable 0 = .ok (.iload_n 1, 1) := by decide +kernel
theorem dX1_useVariable_1 : decode cX1_useVariable 1 = .ok (.tableswitch 153 26 36 #[59, 67, 153, 153, 153, 153, 74, 82, 94, 113, 138], 59) := by decide +kernel
theorem dX1_useVariable_60 : decode cX1_useVariable 60 = .ok (.aload_n 0, 1) := by decide +kernel
theorem dX1_useVariable_61 : decode cX1_useVariable 61 = .ok (.invokevirtual 116, 3) := by decide +kernel
theorem dX1_useVariable_64 : decode cX1_useVariable 64 = .ok (.pop, 1) := by decide +kernel
theorem dX1_useVariable_65 : decode cX1_useVariable 65 = .ok (.goto 89, 3) := by decide +kernel
theorem dX1_useVariable_68 : decode cX1_useVariable 68 = .ok (.aload_n 0, 1) := by decide +kernel
theorem dX1_useVariable_69 : decode cX1_useVariable 69 = .ok (.invokevirtual 153, 3) := by decide +kernel
theorem dX1_useVariable_72 : decode cX1_useVariable 72 = .ok (.goto 82, 3) := by decide +kernel
theorem dX1_useVariable_75 : decode cX1_useVariable 75 = .ok (.aload_n 0, 1) := by decide +kernel
theorem dX1_useVariable_76 : decode cX1_useVariable 76 = .ok (.iload_n 2, 1) := by decide +kernel
theorem dX1_useVariable_77 : decode cX1_useVariable 77 = .ok (.invokevirtual 92, 3) := by decide +kernel
theorem dX1_useVariable_80 : decode cX1_useVariable 80 = .ok (.goto 74, 3) := by decide +kernel
theorem dX1_useVariable_83 : decode cX1_useVariable 83 = .ok (.aload_n 0, 1) := by decide +kernel
theorem dX1_useVariable_84 : decode cX1_useVariable 84 = .ok (.iload_n 2, 1) := by decide +kernel
theorem dX1_useVariable_85 : decode cX1_useVariable 85 = .ok (.aload_n 0, 1) := by decide +kernel
theorem dX1_useVariable_86 : decode cX1_useVariable 86 = .ok (.invokevirtual 116, 3) := by decide +kernel
theorem dX1_useVariable_89 : decode cX1_useVariable 89 = .ok (.invokevirtual 156, 3) := by decide +kernel
theorem dX1_useVariable_92 : decode cX1_useVariable 92 = .ok (.goto 62, 3) := by decide +kernel
theorem dX1_useVariable_95 : decode cX1_useVariable 95 = .ok (.aload_n 0, 1) := by decide +kernel
theorem dX1_useVariable_96 : decode cX1_useVariable 96 = .ok (.invokevirtual 116, 3) := by decide +kernel
theorem dX1_useVariable_99 : decode cX1_useVariable 99 = .ok (.istore_n 3, 1) := by decide +kernel
theorem dX1_useVariable_100 : decode cX1_useVariable 100 = .ok (.aload_n 0, 1) := by decide +kernel
theorem dX1_useVariable_101 : decode cX1_useVariable 101 = .ok (.iload_n 2, 1) := by decide +kernel
theorem dX1_useVariable_102 : decode cX1_useVariable 102 = .ok (.iload_n 3, 1) := by decide +kernel
theorem dX1_useVariable_103 : decode cX1_useVariable 103 = .ok (.invokevirtual 156, 3) := by decide +kernel
theorem dX1_useVariable_106 : decode cX1_useVariable 106 = .ok (.aload_n 0, 1) := by decide +kernel
theorem dX1_useVariable_107 : decode cX1_useVariable 107 = .ok (.iload_n 3, 1) := by decide +kernel
theorem dX1_useVariable_108 : decode cX1_useVariable 108 = .ok (.invokevirtual 92, 3) := by decide +kernel
theorem dX1_useVariable_111 : decode cX1_useVariable 111 = .ok (.goto 43, 3) := by decide +kernel
theorem dX1_useVariable_114 : decode cX1_useVariable 114 = .ok (.aload_n 0, 1) := by decide +kernel
theorem dX1_useVariable_115 : decode cX1_useVariable 115 = .ok (.iload_n 1, 1) := by decide +kernel
theorem dX1_useVariable_116 : decode cX1_useVariable 116 = .ok (.aload_n 0, 1) := by decide +kernel
theorem dX1_useVariable_117 : decode cX1_useVariable 117 = .ok (.getfield 22, 3) := by decide +kernel
theorem dX1_useVariable_120 : decode cX1_useVariable 120 = .ok (.aload_n 0, 1) := by decide +kernel
theorem dX1_useVariable_121 : decode cX1_useVariable 121 = .ok (.getfield 25, 3) := by decide +kernel
theorem dX1_useVariable_124 : decode cX1_useVariable 124 = .ok (.iadd, 1) := by decide +kernel
theorem dX1_useVariable_125 : decode cX1_useVariable 125 = .ok (.iconst 0, 1) := by decide +kernel
theorem dX1_useVariable_126 : decode cX1_useVariable 126 = .ok (.iconst 0, 1) := by decide +kernel
theorem dX1_useVariable_127 : decode cX1_useVariable 127 = .ok (.iload_n 2, 1) := by decide +kernel
theorem dX1_useVariable_128 : decode cX1_useVariable 128 = .ok (.invokevirtual 129, 3) := by decide +kernel
theorem dX1_useVariable_131 : decode cX1_useVariable 131 = .ok (.aload_n 0, 1) := by decide +kernel
theorem dX1_useVariable_132 : decode cX1_useVariable 132 = .ok (.iconst 1, 1) := by decide +kernel
theorem dX1_useVariable_133 : decode cX1_useVariable 133 = .ok (.invokevirtual 145, 3) := by decide +kernel
theorem dX1_useVariable_136 : decode cX1_useVariable 136 = .ok (.goto 18, 3) := by decide +kernel
theorem dX1_useVariable_139 : decode cX1_useVariable 139 = .ok (.aload_n 0, 1) := by decide +kernel
theorem dX1_useVariable_140 : decode cX1_useVariable 140 = .ok (.iload_n 1, 1) := by decide +kernel
theorem dX1_useVariable_141 : decode cX1_useVariable 141 = .ok (.iconst 0, 1) := by decide +kernel
theorem dX1_useVariable_142 : decode cX1_useVariable 142 = .ok (.aload_n 0, 1) := by decide +kernel
theorem dX1_useVariable_143 : decode cX1_useVariable 143 = .ok (.invokevirtual 116, 3) := by decide +kernel
theorem dX1_useVariable_146 : decode cX1_useVariable 146 = .ok (.iconst 0, 1) := by decide +kernel
theorem dX1_useVariable_147 : decode cX1_useVariable 147 = .ok (.iload_n 2, 1) := by decide +kernel
theorem dX1_useVariable_148 : decode cX1_useVariable 148 = .ok (.invokevirtual 129, 3) := by decide +kernel
theorem dX1_useVariable_151 : decode cX1_useVariable 151 = .ok (.goto 3, 3) := by decide +kernel
theorem dX1_useVariable_154 : decode cX1_useVariable 154 = .ok (.return_, 1) := by decide +kernel
theorem dX1_select_0 : decode cX1_select 0 = .ok (.aload_n 0, 1) := by decide +kernel
theorem dX1_select_1 : decode cX1_select 1 = .ok (.invokevirtual 116, 3) := by decide +kernel
theorem dX1_select_4 : decode cX1_select 4 = .ok (.istore_n 1, 1) := by decide +kernel
theorem dX1_select_5 : decode cX1_select 5 = .ok (.aload_n 0, 1) := by decide +kernel
theorem dX1_select_6 : decode cX1_select 6 = .ok (.invokevirtual 116, 3) := by decide +kernel
theorem dX1_select_9 : decode cX1_select 9 = .ok (.istore_n 2, 1) := by decide +kernel
theorem dX1_select_10 : decode cX1_select 10 = .ok (.aload_n 0, 1) := by decide +kernel
theorem dX1_select_11 : decode cX1_select 11 = .ok (.invokevirtual 116, 3) := by decide +kernel
theorem dX1_select_14 : decode cX1_select 14 = .ok (.istore_n 3, 1) := by decide +kernel
theorem dX1_select_15 : decode cX1_select 15 = .ok (.aload_n 0, 1) := by decide +kernel
theorem dX1_select_16 : decode cX1_select 16 = .ok (.bipush 27, 2) := by decide +kernel
theorem dX1_select_18 : decode cX1_select 18 = .ok (.aload_n 0, 1) := by decide +kernel
theorem dX1_select_19 : decode cX1_select 19 = .ok (.getfield 22, 3) := by decide +kernel
theorem dX1_select_22 : decode cX1_select 22 = .ok (.aload_n 0, 1) := by decide +kernel
theorem dX1_select_23 : decode cX1_select 23 = .ok (.getfield 25, 3) := by decide +kernel
theorem dX1_select_26 : decode cX1_select 26 = .ok (.iadd, 1) := by decide +kernel
theorem dX1_select_27 : decode cX1_select 27 = .ok (.iload_n 3, 1) := by decide +kernel
theorem dX1_select_28 : decode cX1_select 28 = .ok (.iload_n 2, 1) := by decide +kernel
theorem dX1_select_29 : decode cX1_select 29 = .ok (.iload_n 1, 1) := by decide +kernel
theorem dX1_select_30 : decode cX1_select 30 = .ok (.invokevirtual 129, 3) := by decide +kernel
theorem dX1_select_33 : decode cX1_select 33 = .ok (.aload_n 0, 1) := by decide +kernel
theorem dX1_select_34 : decode cX1_select 34 = .ok (.iconst 1, 1) := by decide +kernel
theorem dX1_select_35 : decode cX1_select 35 = .ok (.invokevirtual 145, 3) := by decide +kernel
theorem dX1_select_38 : decode cX1_select 38 = .ok (.return_, 1) := by decide +kernel
theorem dX1_setLocal_0 : decode cX1_setLocal 0 = .ok (.iload_n 2, 1) := by decide +kernel
theorem dX1_setLocal_1 : decode cX1_setLocal 1 = .ok (.iload_n 1, 1) := by decide +kernel
theorem dX1_setLocal_2 : decode cX1_setLocal 2 = .ok (.if_icmp .ne 4, 3) := by decide +kernel
theorem dX1_setLocal_5 : decode cX1_setLocal 5 = .ok (.return_, 1) := by decide +kernel
theorem dX1_setLocal_6 : decode cX1_setLocal 6 = .ok (.iconst 0, 1) := by decide +kernel
theorem dX1_setLocal_7 : decode cX1_setLocal 7 = .ok (.istore_n 3, 1) := by decide +kernel
theorem dX1_setLocal_8 : decode cX1_setLocal 8 = .ok (.iload_n 3, 1) := by decide +kernel
theorem dX1_setLocal_9 : decode cX1_setLocal 9 = .ok (.aload_n 0, 1) := by decide +kernel
theorem dX1_setLocal_10 : decode cX1_setLocal 10 = .ok (.getfield 25, 3) := by decide +kernel
theorem dX1_setLocal_13 : decode cX1_setLocal 13 = .ok (.if_icmp .ge 47, 3) := by decide +kernel
theorem dX1_setLocal_16 : decode cX1_setLocal 16 = .ok (.aload_n 0, 1) := by decide +kernel
theorem dX1_setLocal_17 : decode cX1_setLocal 17 = .ok (.getfield 9, 3) := by decide +kernel
theorem dX1_setLocal_20 : decode cX1_setLocal 20 = .ok (.iload_n 3, 1) := by decide +kernel
theorem dX1_setLocal_21 : decode cX1_setLocal 21 = .ok (.iaload, 1) := by decide +kernel
theorem dX1_setLocal_22 : decode cX1_setLocal 22 = .ok (.iload_n 1, 1) := by decide +kernel
theorem dX1_setLocal_23 : decode cX1_setLocal 23 = .ok (.if_icmp .ne 31, 3) := by decide +kernel
theorem dX1_setLocal_26 : decode cX1_setLocal 26 = .ok (.aload_n 0, 1) := by decide +kernel
theorem dX1_setLocal_27 : decode cX1_setLocal 27 = .ok (.sipush 200, 3) := by decide +kernel
theorem dX1_setLocal_30 : decode cX1_setLocal 30 = .ok (.aload_n 0, 1) := by decide +kernel
theorem dX1_setLocal_31 : decode cX1_setLocal 31 = .ok (.getfield 22, 3) := by decide +kernel
theorem dX1_setLocal_34 : decode cX1_setLocal 34 = .ok (.iload_n 3, 1) := by decide +kernel
theorem dX1_setLocal_35 : decode cX1_setLocal 35 = .ok (.iadd, 1) := by decide +kernel
theorem dX1_setLocal_36 : decode cX1_setLocal 36 = .ok (.iload_n 1, 1) := by decide +kernel
theorem dX1_setLocal_37 : decode cX1_setLocal 37 = .ok (.iconst 0, 1) := by decide +kernel
theorem dX1_setLocal_38 : decode cX1_setLocal 38 = .ok (.iconst 0, 1) := by decide +kernel
theorem dX1_setLocal_39 : decode cX1_setLocal 39 = .ok (.invokevirtual 129, 3) := by decide +kernel
theorem dX1_setLocal_42 : decode cX1_setLocal 42 = .ok (.aload_n 0, 1) := by decide +kernel
theorem dX1_setLocal_43 : decode cX1_setLocal 43 = .ok (.getfield 9, 3) := by decide +kernel
theorem dX1_setLocal_46 : decode cX1_setLocal 46 = .ok (.iload_n 3, 1) := by decide +kernel
theorem dX1_setLocal_47 : decode cX1_setLocal 47 = .ok (.aload_n 0, 1) := by decide +kernel
theorem dX1_setLocal_48 : decode cX1_setLocal 48 = .ok (.getfield 22, 3) := by decide +kernel
theorem dX1_setLocal_51 : decode cX1_setLocal 51 = .ok (.iload_n 3, 1) := by decide +kernel
theorem dX1_setLocal_52 : decode cX1_setLocal 52 = .ok (.iadd, 1) := by decide +kernel
theorem dX1_setLocal_53 : decode cX1_setLocal 53 = .ok (.iastore, 1) := by decide +kernel
theorem dX1_setLocal_54 : decode cX1_setLocal 54 = .ok (.iinc 3 1, 3) := by decide +kernel
theorem dX1_setLocal_57 : decode cX1_setLocal 57 = .ok (.goto (-49), 3) := by decide +kernel
theorem dX1_setLocal_60 : decode cX1_setLocal 60 = .ok (.aload_n 0, 1) := by decide +kernel
theorem dX1_setLocal_61 : decode cX1_setLocal 61 = .ok (.sipush 200, 3) := by decide +kernel
theorem dX1_setLocal_64 : decode cX1_setLocal 64 = .ok (.iload_n 1, 1) := by decide +kernel
theorem dX1_setLocal_65 : decode cX1_setLocal 65 = .ok (.iload_n 2, 1) := by decide +kernel
theorem dX1_setLocal_66 : decode cX1_setLocal 66 = .ok (.iconst 0, 1) := by decide +kernel
theorem dX1_setLocal_67 : decode cX1_setLocal 67 = .ok (.iconst 0, 1) := by decide +kernel
theorem dX1_setLocal_68 : decode cX1_setLocal 68 = .ok (.invokevirtual 129, 3) := by decide +kernel
theorem dX1_setLocal_71 : decode cX1_setLocal 71 = .ok (.return_, 1) := by decide +kernel
theorem dX1_control_0 : decode cX1_control 0 = .ok (.iload_n 1, 1) := by decide +kernel
theorem dX1_control_1 : decode cX1_control 1 = .ok (.tableswitch 349 0 17 #[87, 349, 349, 349, 349, 349, 349, 349, 349, 349, 349, 349, 104, 146, 154, 162, 222, 324], 87) := by decide +kernel
theorem dX1_control_88 : decode cX1_control 88 = .ok (.aload_n 0, 1) := by decide +kernel
theorem dX1_control_89 : decode cX1_control 89 = .ok (.iconst 0, 1) := by decide +kernel
theorem dX1_control_90 : decode cX1_control 90 = .ok (.iconst 0, 1) := by decide +kernel
theorem dX1_control_91 : decode cX1_control 91 = .ok (.iconst 0, 1) := by decide +kernel
theorem dX1_control_92 : decode cX1_control 92 = .ok (.iconst 0, 1) := by decide +kernel
theorem dX1_control_93 : decode cX1_control 93 = .ok (.iconst 0, 1) := by decide +kernel
theorem dX1_control_94 : decode cX1_control 94 = .ok (.invokevirtual 129, 3) := by decide +kernel
theorem dX1_control_97 : decode cX1_control 97 = .ok (.aload_n 0, 1) := by decide +kernel
theorem dX1_control_98 : decode cX1_control 98 = .ok (.iconst 0, 1) := by decide +kernel
theorem dX1_control_99 : decode cX1_control 99 = .ok (.putfield 31, 3) := by decide +kernel
theorem dX1_control_102 : decode cX1_control 102 = .ok (.goto 248, 3) := by decide +kernel
theorem dX1_control_105 : decode cX1_control 105 = .ok (.aload_n 0, 1) := by decide +kernel
theorem dX1_control_106 : decode cX1_control 106 = .ok (.aload_n 0, 1) := by decide +kernel
theorem dX1_control_107 : decode cX1_control 107 = .ok (.getfield 25, 3) := by decide +kernel
theorem dX1_control_110 : decode cX1_control 110 = .ok (.aload_n 0, 1) := by decide +kernel
theorem dX1_control_111 : decode cX1_control 111 = .ok (.getfield 38, 3) := by decide +kernel
theorem dX1_control_114 : decode cX1_control 114 = .ok (.aload_n 0, 1) := by decide +kernel
theorem dX1_control_115 : decode cX1_control 115 = .ok (.getfield 38, 3) := by decide +kernel
theorem dX1_control_118 : decode cX1_control 118 = .ok (.getfield 126, 3) := by decide +kernel
theorem dX1_control_121 : decode cX1_control 121 = .ok (.iload_n 2, 1) := by decide +kernel
theorem dX1_control_122 : decode cX1_control 122 = .ok (.iaload, 1) := by decide +kernel
theorem dX1_control_123 : decode cX1_control 123 = .ok (.aload_n 0, 1) := by decide +kernel
theorem dX1_control_124 : decode cX1_control 124 = .ok (.getfield 18, 3) := by decide +kernel
theorem dX1_control_127 : decode cX1_control 127 = .ok (.invokevirtual 159, 3) := by decide +kernel
theorem dX1_control_130 : decode cX1_control 130 = .ok (.isub, 1) := by decide +kernel
theorem dX1_control_131 : decode cX1_control 131 = .ok (.invokevirtual 120, 3) := by decide +kernel
theorem dX1_control_134 : decode cX1_control 134 = .ok (.aload_n 0, 1) := by decide +kernel
theorem dX1_control_135 : decode cX1_control 135 = .ok (.iload_n 2, 1) := by decide +kernel
theorem dX1_control_136 : decode cX1_control 136 = .ok (.invokevirtual 163, 3) := by decide +kernel
theorem dX1_control_139 : decode cX1_control 139 = .ok (.aload_n 0, 1) := by decide +kernel
theorem dX1_control_140 : decode cX1_control 140 = .ok (.iconst 0, 1) := by decide +kernel
theorem dX1_control_141 : decode cX1_control 141 = .ok (.putfield 31, 3) := by decide +kernel
theorem dX1_control_144 : decode cX1_control 144 = .ok (.goto 206, 3) := by decide +kernel
theorem dX1_control_147 : decode cX1_control 147 = .ok (.aload_n 0, 1) := by decide +kernel
theorem dX1_control_148 : decode cX1_control 148 = .ok (.iload_n 2, 1) := by decide +kernel
theorem dX1_control_149 : decode cX1_control 149 = .ok (.invokevirtual 166, 3) := by decide +kernel
theorem dX1_control_152 : decode cX1_control 152 = .ok (.goto 198, 3) := by decide +kernel
theorem dX1_control_155 : decode cX1_control 155 = .ok (.aload_n 0, 1) := by decide +kernel
theorem dX1_control_156 : decode cX1_control 156 = .ok (.iload_n 2, 1) := by decide +kernel
theorem dX1_control_157 : decode cX1_control 157 = .ok (.invokevirtual 169, 3) := by decide +kernel
theorem dX1_control_160 : decode cX1_control 160 = .ok (.goto 190, 3) := by decide +kernel
theorem dX1_control_163 : decode cX1_control 163 = .ok (.aload_n 0, 1) := by decide +kernel
theorem dX1_control_164 : decode cX1_control 164 = .ok (.aload_n 0, 1) := by decide +kernel
theorem dX1_control_165 : decode cX1_control 165 = .ok (.getfield 25, 3) := by decide +kernel
theorem dX1_control_168 : decode cX1_control 168 = .ok (.aload_n 0, 1) := by decide +kernel
theorem dX1_control_169 : decode cX1_control 169 = .ok (.getfield 38, 3) := by decide +kernel
theorem dX1_control_172 : decode cX1_control 172 = .ok (.getfield 172, 3) := by decide +kernel
theorem dX1_control_175 : decode cX1_control 175 = .ok (.aload_n 0, 1) := by decide +kernel
theorem dX1_control_176 : decode cX1_control 176 = .ok (.getfield 18, 3) := by decide +kernel
theorem dX1_control_179 : decode cX1_control 179 = .ok (.iaload, 1) := by decide +kernel
theorem dX1_control_180 : decode cX1_control 180 = .ok (.isub, 1) := by decide +kernel
theorem dX1_control_181 : decode cX1_control 181 = .ok (.invokevirtual 120, 3) := by decide +kernel
theorem dX1_control_184 : decode cX1_control 184 = .ok (.aload_n 0, 1) := by decide +kernel
theorem dX1_control_185 : decode cX1_control 185 = .ok (.bipush 15, 2) := by decide +kernel
theorem dX1_control_187 : decode cX1_control 187 = .ok (.iconst 0, 1) := by decide +kernel
theorem dX1_control_188 : decode cX1_control 188 = .ok (.aload_n 0, 1) := by decide +kernel
theorem dX1_control_189 : decode cX1_control 189 = .ok (.getfield 22, 3) := by decide +kernel
theorem dX1_control_192 : decode cX1_control 192 = .ok (.aload_n 0, 1) := by decide +kernel
theorem dX1_control_193 : decode cX1_control 193 = .ok (.getfield 25, 3) := by decide +kernel
theorem dX1_control_196 : decode cX1_control 196 = .ok (.iadd, 1) := by decide +kernel
theorem dX1_control_197 : decode cX1_control 197 = .ok (.aload_n 0, 1) := by decide +kernel
theorem dX1_control_198 : decode cX1_control 198 = .ok (.getfield 38, 3) := by decide +kernel
theorem dX1_control_201 : decode cX1_control 201 = .ok (.getfield 172, 3) := by decide +kernel
theorem dX1_control_204 : decode cX1_control 204 = .ok (.aload_n 0, 1) := by decide +kernel
theorem dX1_control_205 : decode cX1_control 205 = .ok (.getfield 18, 3) := by decide +kernel
theorem dX1_control_208 : decode cX1_control 208 = .ok (.iaload, 1) := by decide +kernel
theorem dX1_control_209 : decode cX1_control 209 = .ok (.isub, 1) := by decide +kernel
theorem dX1_control_210 : decode cX1_control 210 = .ok (.iconst 0, 1) := by decide +kernel
theorem dX1_control_211 : decode cX1_control 211 = .ok (.iconst 0, 1) := by decide +kernel
theorem dX1_control_212 : decode cX1_control 212 = .ok (.invokevirtual 129, 3) := by decide +kernel
theorem dX1_control_215 : decode cX1_control 215 = .ok (.aload_n 0, 1) := by decide +kernel
theorem dX1_control_216 : decode cX1_control 216 = .ok (.iconst 0, 1) := by decide +kernel
theorem dX1_control_217 : decode cX1_control 217 = .ok (.putfield 31, 3) := by decide +kernel
theorem dX1_control_220 : decode cX1_control 220 = .ok (.goto 130, 3) := by decide +kernel
theorem dX1_control_223 : decode cX1_control 223 = .ok (.aload_n 0, 1) := by decide +kernel
theorem dX1_control_224 : decode cX1_control 224 = .ok (.aload_n 0, 1) := by decide +kernel
theorem dX1_control_225 : decode cX1_control 225 = .ok (.getfield 25, 3) := by decide +kernel
theorem dX1_control_228 : decode cX1_control 228 = .ok (.aload_n 0, 1) := by decide +kernel
theorem dX1_control_229 : decode cX1_control 229 = .ok (.getfield 38, 3) := by decide +kernel
theorem dX1_control_232 : decode cX1_control 232 = .ok (.getfield 175, 3) := by decide +kernel
theorem dX1_control_235 : decode cX1_control 235 = .ok (.aload_n 0, 1) := by decide +kernel
theorem dX1_control_236 : decode cX1_control 236 = .ok (.getfield 38, 3) := by decide +kernel
theorem dX1_control_239 : decode cX1_control 239 = .ok (.getfield 95, 3) := by decide +kernel
theorem dX1_control_242 : decode cX1_control 242 = .ok (.iload_n 2, 1) := by decide +kernel
theorem dX1_control_243 : decode cX1_control 243 = .ok (.iaload, 1) := by decide +kernel
theorem dX1_control_244 : decode cX1_control 244 = .ok (.iaload, 1) := by decide +kernel
theorem dX1_control_245 : decode cX1_control 245 = .ok (.isub, 1) := by decide +kernel
theorem dX1_control_246 : decode cX1_control 246 = .ok (.invokevirtual 120, 3) := by decide +kernel
theorem dX1_control_249 : decode cX1_control 249 = .ok (.aload_n 0, 1) := by decide +kernel
theorem dX1_control_250 : decode cX1_control 250 = .ok (.dup, 1) := by decide +kernel
theorem dX1_control_251 : decode cX1_control 251 = .ok (.getfield 25, 3) := by decide +kernel
theorem dX1_control_254 : decode cX1_control 254 = .ok (.aload_n 0, 1) := by decide +kernel
theorem dX1_control_255 : decode cX1_control 255 = .ok (.getfield 38, 3) := by decide +kernel
theorem dX1_control_258 : decode cX1_control 258 = .ok (.getfield 175, 3) := by decide +kernel
theorem dX1_control_261 : decode cX1_control 261 = .ok (.aload_n 0, 1) := by decide +kernel
theorem dX1_control_262 : decode cX1_control 262 = .ok (.getfield 38, 3) := by decide +kernel
theorem dX1_control_265 : decode cX1_control 265 = .ok (.getfield 95, 3) := by decide +kernel
theorem dX1_control_268 : decode cX1_control 268 = .ok (.iload_n 2, 1) := by decide +kernel
theorem dX1_control_269 : decode cX1_control 269 = .ok (.iaload, 1) := by decide +kernel
theorem dX1_control_270 : decode cX1_control 270 = .ok (.iaload, 1) := by decide +kernel
theorem dX1_control_271 : decode cX1_control 271 = .ok (.isub, 1) := by decide +kernel
theorem dX1_control_272 : decode cX1_control 272 = .ok (.putfield 25, 3) := by decide +kernel
theorem dX1_control_275 : decode cX1_control 275 = .ok (.aload_n 0, 1) := by decide +kernel
theorem dX1_control_276 : decode cX1_control 276 = .ok (.bipush 16, 2) := by decide +kernel
theorem dX1_control_278 : decode cX1_control 278 = .ok (.iconst 0, 1) := by decide +kernel
theorem dX1_control_279 : decode cX1_control 279 = .ok (.aload_n 0, 1) := by decide +kernel
theorem dX1_control_280 : decode cX1_control 280 = .ok (.getfield 22, 3) := by decide +kernel
theorem dX1_control_283 : decode cX1_control 283 = .ok (.aload_n 0, 1) := by decide +kernel
theorem dX1_control_284 : decode cX1_control 284 = .ok (.getfield 25, 3) := by decide +kernel
theorem dX1_control_287 : decode cX1_control 287 = .ok (.iadd, 1) := by decide +kernel
theorem dX1_control_288 : decode cX1_control 288 = .ok (.aload_n 0, 1) := by decide +kernel
theorem dX1_control_289 : decode cX1_control 289 = .ok (.getfield 38, 3) := by decide +kernel
theorem dX1_control_292 : decode cX1_control 292 = .ok (.getfield 95, 3) := by decide +kernel
theorem dX1_control_295 : decode cX1_control 295 = .ok (.iload_n 2, 1) := by decide +kernel
theorem dX1_control_296 : decode cX1_control 296 = .ok (.iaload, 1) := by decide +kernel
theorem dX1_control_297 : decode cX1_control 297 = .ok (.iconst 0, 1) := by decide +kernel
theorem dX1_control_298 : decode cX1_control 298 = .ok (.invokevirtual 129, 3) := by decide +kernel
theorem dX1_control_301 : decode cX1_control 301 = .ok (.aload_n 0, 1) := by decide +kernel
theorem dX1_control_302 : decode cX1_control 302 = .ok (.aload_n 0, 1) := by decide +kernel
theorem dX1_control_303 : decode cX1_control 303 = .ok (.getfield 38, 3) := by decide +kernel
theorem dX1_control_306 : decode cX1_control 306 = .ok (.getfield 172, 3) := by decide +kernel
theorem dX1_control_309 : decode cX1_control 309 = .ok (.aload_n 0, 1) := by decide +kernel
theorem dX1_control_310 : decode cX1_control 310 = .ok (.getfield 38, 3) := by decide +kernel
theorem dX1_control_313 : decode cX1_control 313 = .ok (.getfield 95, 3) := by decide +kernel
theorem dX1_control_316 : decode cX1_control 316 = .ok (.iload_n 2, 1) := by decide +kernel
theorem dX1_control_317 : decode cX1_control 317 = .ok (.iaload, 1) := by decide +kernel
theorem dX1_control_318 : decode cX1_control 318 = .ok (.iaload, 1) := by decide +kernel
theorem dX1_control_319 : decode cX1_control 319 = .ok (.invokevirtual 145, 3) := by decide +kernel
theorem dX1_control_322 : decode cX1_control 322 = .ok (.goto 28, 3) := by decide +kernel
theorem dX1_control_325 : decode cX1_control 325 = .ok (.aload_n 0, 1) := by decide +kernel
theorem dX1_control_326 : decode cX1_control 326 = .ok (.aload_n 0, 1) := by decide +kernel
theorem dX1_control_327 : decode cX1_control 327 = .ok (.getfield 38, 3) := by decide +kernel
theorem dX1_control_330 : decode cX1_control 330 = .ok (.getfield 95, 3) := by decide +kernel
theorem dX1_control_333 : decode cX1_control 333 = .ok (.iload_n 2, 1) := by decide +kernel
theorem dX1_control_334 : decode cX1_control 334 = .ok (.iaload, 1) := by decide +kernel
theorem dX1_control_335 : decode cX1_control 335 = .ok (.aload_n 0, 1) := by decide +kernel
theorem dX1_control_336 : decode cX1_control 336 = .ok (.getfield 38, 3) := by decide +kernel
theorem dX1_control_339 : decode cX1_control 339 = .ok (.getfield 142, 3) := by decide +kernel
theorem dX1_control_342 : decode cX1_control 342 = .ok (.iload_n 2, 1) := by decide +kernel
theorem dX1_control_343 : decode cX1_control 343 = .ok (.iaload, 1) := by decide +kernel
theorem dX1_control_344 : decode cX1_control 344 = .ok (.invokevirtual 178, 3) := by decide +kernel
theorem dX1_control_347 : decode cX1_control 347 = .ok (.goto 3, 3) := by decide +kernel
theorem dX1_control_350 : decode cX1_control 350 = .ok (.return_, 1) := by decide +kernel
theorem dX1_branchIf_0 : decode cX1_branchIf 0 = .ok (.aload_n 0, 1) := by decide +kernel
theorem dX1_branchIf_1 : decode cX1_branchIf 1 = .ok (.invokevirtual 116, 3) := by decide +kernel
theorem dX1_branchIf_4 : decode cX1_branchIf 4 = .ok (.istore_n 2, 1) := by decide +kernel
theorem dX1_branchIf_5 : decode cX1_branchIf 5 = .ok (.aload_n 0, 1) := by decide +kernel
theorem dX1_branchIf_6 : decode cX1_branchIf 6 = .ok (.aload_n 0, 1) := by decide +kernel
theorem dX1_branchIf_7 : decode cX1_branchIf 7 = .ok (.getfield 25, 3) := by decide +kernel
theorem dX1_branchIf_10 : decode cX1_branchIf 10 = .ok (.aload_n 0, 1) := by decide +kernel
theorem dX1_branchIf_11 : decode cX1_branchIf 11 = .ok (.getfield 38, 3) := by decide +kernel
theorem dX1_branchIf_14 : decode cX1_branchIf 14 = .ok (.aload_n 0, 1) := by decide +kernel
theorem dX1_branchIf_15 : decode cX1_branchIf 15 = .ok (.getfield 38, 3) := by decide +kernel
theorem dX1_branchIf_18 : decode cX1_branchIf 18 = .ok (.getfield 126, 3) := by decide +kernel
theorem dX1_branchIf_21 : decode cX1_branchIf 21 = .ok (.iload_n 1, 1) := by decide +kernel
theorem dX1_branchIf_22 : decode cX1_branchIf 22 = .ok (.iaload, 1) := by decide +kernel
theorem dX1_branchIf_23 : decode cX1_branchIf 23 = .ok (.aload_n 0, 1) := by decide +kernel
theorem dX1_branchIf_24 : decode cX1_branchIf 24 = .ok (.getfield 18, 3) := by decide +kernel
theorem dX1_branchIf_27 : decode cX1_branchIf 27 = .ok (.invokevirtual 159, 3) := by decide +kernel
theorem dX1_branchIf_30 : decode cX1_branchIf 30 = .ok (.isub, 1) := by decide +kernel
theorem dX1_branchIf_31 : decode cX1_branchIf 31 = .ok (.invokevirtual 120, 3) := by decide +kernel
theorem dX1_branchIf_34 : decode cX1_branchIf 34 = .ok (.aload_n 0, 1) := by decide +kernel
theorem dX1_branchIf_35 : decode cX1_branchIf 35 = .ok (.bipush 13, 2) := by decide +kernel
theorem dX1_branchIf_37 : decode cX1_branchIf 37 = .ok (.iconst 0, 1) := by decide +kernel
theorem dX1_branchIf_38 : decode cX1_branchIf 38 = .ok (.iload_n 2, 1) := by decide +kernel
theorem dX1_branchIf_39 : decode cX1_branchIf 39 = .ok (.iconst 0, 1) := by decide +kernel
theorem dX1_branchIf_40 : decode cX1_branchIf 40 = .ok (.iconst 0, 1) := by decide +kernel
theorem dX1_branchIf_41 : decode cX1_branchIf 41 = .ok (.invokevirtual 129, 3) := by decide +kernel
theorem dX1_branchIf_44 : decode cX1_branchIf 44 = .ok (.aload_n 0, 1) := by decide +kernel
theorem dX1_branchIf_45 : decode cX1_branchIf 45 = .ok (.iload_n 1, 1) := by decide +kernel
theorem dX1_branchIf_46 : decode cX1_branchIf 46 = .ok (.invokevirtual 163, 3) := by decide +kernel
theorem dX1_branchIf_49 : decode cX1_branchIf 49 = .ok (.return_, 1) := by decide +kernel
theorem dX1_table_0 : decode cX1_table 0 = .ok (.aload_n 0, 1) := by decide +kernel
theorem dX1_table_1 : decode cX1_table 1 = .ok (.invokevirtual 116, 3) := by decide +kernel
theorem dX1_table_4 : decode cX1_table 4 = .ok (.istore_n 2, 1) := by decide +kernel
theorem dX1_table_5 : decode cX1_table 5 = .ok (.aload_n 0, 1) := by decide +kernel
theorem dX1_table_6 : decode cX1_table 6 = .ok (.aload_n 0, 1) := by decide +kernel
theorem dX1_table_7 : decode cX1_table 7 = .ok (.getfield 25, 3) := by decide +kernel
theorem dX1_table_10 : decode cX1_table 10 = .ok (.aload_n 0, 1) := by decide +kernel
theorem dX1_table_11 : decode cX1_table 11 = .ok (.getfield 38, 3) := by decide +kernel
theorem dX1_table_14 : decode cX1_table 14 = .ok (.aload_n 0, 1) := by decide +kernel
theorem dX1_table_15 : decode cX1_table 15 = .ok (.getfield 38, 3) := by decide +kernel
theorem dX1_table_18 : decode cX1_table 18 = .ok (.getfield 126, 3) := by decide +kernel
theorem dX1_table_21 : decode cX1_table 21 = .ok (.iload_n 1, 1) := by decide +kernel
theorem dX1_table_22 : decode cX1_table 22 = .ok (.iconst 1, 1) := by decide +kernel
theorem dX1_table_23 : decode cX1_table 23 = .ok (.iadd, 1) := by decide +kernel
theorem dX1_table_24 : decode cX1_table 24 = .ok (.iaload, 1) := by decide +kernel
theorem dX1_table_25 : decode cX1_table 25 = .ok (.aload_n 0, 1) := by decide +kernel
theorem dX1_table_26 : decode cX1_table 26 = .ok (.getfield 18, 3) := by decide +kernel
theorem dX1_table_29 : decode cX1_table 29 = .ok (.invokevirtual 159, 3) := by decide +kernel
theorem dX1_table_32 : decode cX1_table 32 = .ok (.isub, 1) := by decide +kernel
theorem dX1_table_33 : decode cX1_table 33 = .ok (.invokevirtual 120, 3) := by decide +kernel
theorem dX1_table_36 : decode cX1_table 36 = .ok (.aload_n 0, 1) := by decide +kernel
theorem dX1_table_37 : decode cX1_table 37 = .ok (.bipush 14, 2) := by decide +kernel
theorem dX1_table_39 : decode cX1_table 39 = .ok (.iconst 0, 1) := by decide +kernel
theorem dX1_table_40 : decode cX1_table 40 = .ok (.iload_n 2, 1) := by decide +kernel
theorem dX1_table_41 : decode cX1_table 41 = .ok (.aload_n 0, 1) := by decide +kernel
theorem dX1_table_42 : decode cX1_table 42 = .ok (.getfield 38, 3) := by decide +kernel
theorem dX1_table_45 : decode cX1_table 45 = .ok (.getfield 95, 3) := by decide +kernel
theorem dX1_table_48 : decode cX1_table 48 = .ok (.iload_n 1, 1) := by decide +kernel
theorem dX1_table_49 : decode cX1_table 49 = .ok (.iaload, 1) := by decide +kernel
theorem dX1_table_50 : decode cX1_table 50 = .ok (.iconst 0, 1) := by decide +kernel
theorem dX1_table_51 : decode cX1_table 51 = .ok (.invokevirtual 129, 3) := by decide +kernel
theorem dX1_table_54 : decode cX1_table 54 = .ok (.iconst 0, 1) := by decide +kernel
theorem dX1_table_55 : decode cX1_table 55 = .ok (.istore_n 3, 1) := by decide +kernel
theorem dX1_table_56 : decode cX1_table 56 = .ok (.iload_n 3, 1) := by decide +kernel
theorem dX1_table_57 : decode cX1_table 57 = .ok (.aload_n 0, 1) := by decide +kernel
theorem dX1_table_58 : decode cX1_table 58 = .ok (.getfield 38, 3) := by decide +kernel
theorem dX1_table_61 : decode cX1_table 61 = .ok (.getfield 95, 3) := by decide +kernel
theorem dX1_table_64 : decode cX1_table 64 = .ok (.iload_n 1, 1) := by decide +kernel
theorem dX1_table_65 : decode cX1_table 65 = .ok (.iaload, 1) := by decide +kernel
theorem dX1_table_66 : decode cX1_table 66 = .ok (.if_icmp .gt 18, 3) := by decide +kernel
theorem dX1_table_69 : decode cX1_table 69 = .ok (.aload_n 0, 1) := by decide +kernel
theorem dX1_table_70 : decode cX1_table 70 = .ok (.iload_n 1, 1) := by decide +kernel
theorem dX1_table_71 : decode cX1_table 71 = .ok (.iconst 1, 1) := by decide +kernel
theorem dX1_table_72 : decode cX1_table 72 = .ok (.iadd, 1) := by decide +kernel
theorem dX1_table_73 : decode cX1_table 73 = .ok (.iload_n 3, 1) := by decide +kernel
theorem dX1_table_74 : decode cX1_table 74 = .ok (.iadd, 1) := by decide +kernel
theorem dX1_table_75 : decode cX1_table 75 = .ok (.invokevirtual 163, 3) := by decide +kernel
theorem dX1_table_78 : decode cX1_table 78 = .ok (.iinc 3 1, 3) := by decide +kernel
theorem dX1_table_81 : decode cX1_table 81 = .ok (.goto (-25), 3) := by decide +kernel
theorem dX1_table_84 : decode cX1_table 84 = .ok (.aload_n 0, 1) := by decide +kernel
theorem dX1_table_85 : decode cX1_table 85 = .ok (.iconst 0, 1) := by decide +kernel
theorem dX1_table_86 : decode cX1_table 86 = .ok (.putfield 31, 3) := by decide +kernel
theorem dX1_table_89 : decode cX1_table 89 = .ok (.return_, 1) := by decide +kernel
theorem dX1_callEntry_0 : decode cX1_callEntry 0 = .ok (.aload_n 0, 1) := by decide +kernel
theorem dX1_callEntry_1 : decode cX1_callEntry 1 = .ok (.invokevirtual 116, 3) := by decide +kernel
theorem dX1_callEntry_4 : decode cX1_callEntry 4 = .ok (.istore_n 3, 1) := by decide +kernel
theorem dX1_callEntry_5 : decode cX1_callEntry 5 = .ok (.aload_n 0, 1) := by decide +kernel
theorem dX1_callEntry_6 : decode cX1_callEntry 6 = .ok (.aload_n 0, 1) := by decide +kernel
theorem dX1_callEntry_7 : decode cX1_callEntry 7 = .ok (.getfield 25, 3) := by decide +kernel
theorem dX1_callEntry_10 : decode cX1_callEntry 10 = .ok (.iload_n 1, 1) := by decide +kernel
theorem dX1_callEntry_11 : decode cX1_callEntry 11 = .ok (.isub, 1) := by decide +kernel
theorem dX1_callEntry_12 : decode cX1_callEntry 12 = .ok (.invokevirtual 120, 3) := by decide +kernel
theorem dX1_callEntry_15 : decode cX1_callEntry 15 = .ok (.aload_n 0, 1) := by decide +kernel
theorem dX1_callEntry_16 : decode cX1_callEntry 16 = .ok (.dup, 1) := by decide +kernel
theorem dX1_callEntry_17 : decode cX1_callEntry 17 = .ok (.getfield 25, 3) := by decide +kernel
theorem dX1_callEntry_20 : decode cX1_callEntry 20 = .ok (.iload_n 1, 1) := by decide +kernel
theorem dX1_callEntry_21 : decode cX1_callEntry 21 = .ok (.isub, 1) := by decide +kernel
theorem dX1_callEntry_22 : decode cX1_callEntry 22 = .ok (.putfield 25, 3) := by decide +kernel
theorem dX1_callEntry_25 : decode cX1_callEntry 25 = .ok (.aload_n 0, 1) := by decide +kernel
theorem dX1_callEntry_26 : decode cX1_callEntry 26 = .ok (.bipush 17, 2) := by decide +kernel
theorem dX1_callEntry_28 : decode cX1_callEntry 28 = .ok (.iload_n 1, 1) := by decide +kernel
theorem dX1_callEntry_29 : decode cX1_callEntry 29 = .ok (.aload_n 0, 1) := by decide +kernel
theorem dX1_callEntry_30 : decode cX1_callEntry 30 = .ok (.getfield 22, 3) := by decide +kernel
theorem dX1_callEntry_33 : decode cX1_callEntry 33 = .ok (.aload_n 0, 1) := by decide +kernel
theorem dX1_callEntry_34 : decode cX1_callEntry 34 = .ok (.getfield 25, 3) := by decide +kernel
theorem dX1_callEntry_37 : decode cX1_callEntry 37 = .ok (.iadd, 1) := by decide +kernel
theorem dX1_callEntry_38 : decode cX1_callEntry 38 = .ok (.iload_n 3, 1) := by decide +kernel
theorem dX1_callEntry_39 : decode cX1_callEntry 39 = .ok (.iload_n 2, 1) := by decide +kernel
theorem dX1_callEntry_40 : decode cX1_callEntry 40 = .ok (.invokevirtual 129, 3) := by decide +kernel
theorem dX1_callEntry_43 : decode cX1_callEntry 43 = .ok (.aload_n 0, 1) := by decide +kernel
theorem dX1_callEntry_44 : decode cX1_callEntry 44 = .ok (.iload_n 2, 1) := by decide +kernel
theorem dX1_callEntry_45 : decode cX1_callEntry 45 = .ok (.invokevirtual 145, 3) := by decide +kernel
theorem dX1_callEntry_48 : decode cX1_callEntry 48 = .ok (.return_, 1) := by decide +kernel
theorem dX1_emitBranch_0 : decode cX1_emitBranch 0 = .ok (.aload_n 0, 1) := by decide +kernel
theorem dX1_emitBranch_1 : decode cX1_emitBranch 1 = .ok (.getfield 38, 3) := by decide +kernel
theorem dX1_emitBranch_4 : decode cX1_emitBranch 4 = .ok (.getfield 126, 3) := by decide +kernel
theorem dX1_emitBranch_7 : decode cX1_emitBranch 7 = .ok (.iload_n 1, 1) := by decide +kernel
theorem dX1_emitBranch_8 : decode cX1_emitBranch 8 = .ok (.iaload, 1) := by decide +kernel
theorem dX1_emitBranch_9 : decode cX1_emitBranch 9 = .ok (.istore_n 2, 1) := by decide +kernel
theorem dX1_emitBranch_10 : decode cX1_emitBranch 10 = .ok (.aload_n 0, 1) := by decide +kernel
theorem dX1_emitBranch_11 : decode cX1_emitBranch 11 = .ok (.getfield 38, 3) := by decide +kernel
theorem dX1_emitBranch_14 : decode cX1_emitBranch 14 = .ok (.iload_n 2, 1) := by decide +kernel
theorem dX1_emitBranch_15 : decode cX1_emitBranch 15 = .ok (.aload_n 0, 1) := by decide +kernel
theorem dX1_emitBranch_16 : decode cX1_emitBranch 16 = .ok (.getfield 18, 3) := by decide +kernel
theorem dX1_emitBranch_19 : decode cX1_emitBranch 19 = .ok (.invokevirtual 159, 3) := by decide +kernel
theorem dX1_emitBranch_22 : decode cX1_emitBranch 22 = .ok (.istore_n 3, 1) := by decide +kernel
theorem dX1_emitBranch_23 : decode cX1_emitBranch 23 = .ok (.aload_n 0, 1) := by decide +kernel
theorem dX1_emitBranch_24 : decode cX1_emitBranch 24 = .ok (.getfield 22, 3) := by decide +kernel
theorem dX1_emitBranch_27 : decode cX1_emitBranch 27 = .ok (.aload_n 0, 1) := by decide +kernel
theorem dX1_emitBranch_28 : decode cX1_emitBranch 28 = .ok (.getfield 25, 3) := by decide +kernel
theorem dX1_emitBranch_31 : decode cX1_emitBranch 31 = .ok (.iadd, 1) := by decide +kernel
theorem dX1_emitBranch_32 : decode cX1_emitBranch 32 = .ok (.iload_n 3, 1) := by decide +kernel
theorem dX1_emitBranch_33 : decode cX1_emitBranch 33 = .ok (.isub, 1) := by decide +kernel
theorem dX1_emitBranch_34 : decode cX1_emitBranch 34 = .ok (.istore 4, 2) := by decide +kernel
theorem dX1_emitBranch_36 : decode cX1_emitBranch 36 = .ok (.iload_n 2, 1) := by decide +kernel
theorem dX1_emitBranch_37 : decode cX1_emitBranch 37 = .ok (.iconst (-1), 1) := by decide +kernel
theorem dX1_emitBranch_38 : decode cX1_emitBranch 38 = .ok (.if_icmp .ne 17, 3) := by decide +kernel
theorem dX1_emitBranch_41 : decode cX1_emitBranch 41 = .ok (.aload_n 0, 1) := by decide +kernel
theorem dX1_emitBranch_42 : decode cX1_emitBranch 42 = .ok (.bipush 15, 2) := by decide +kernel
theorem dX1_emitBranch_44 : decode cX1_emitBranch 44 = .ok (.iconst 0, 1) := by decide +kernel
theorem dX1_emitBranch_45 : decode cX1_emitBranch 45 = .ok (.iload 4, 2) := by decide +kernel
theorem dX1_emitBranch_47 : decode cX1_emitBranch 47 = .ok (.iconst 0, 1) := by decide +kernel
theorem dX1_emitBranch_48 : decode cX1_emitBranch 48 = .ok (.iconst 0, 1) := by decide +kernel
theorem dX1_emitBranch_49 : decode cX1_emitBranch 49 = .ok (.invokevirtual 129, 3) := by decide +kernel
theorem dX1_emitBranch_52 : decode cX1_emitBranch 52 = .ok (.goto 54, 3) := by decide +kernel
theorem dX1_emitBranch_55 : decode cX1_emitBranch 55 = .ok (.aload_n 0, 1) := by decide +kernel
theorem dX1_emitBranch_56 : decode cX1_emitBranch 56 = .ok (.getfield 38, 3) := by decide +kernel
theorem dX1_emitBranch_59 : decode cX1_emitBranch 59 = .ok (.iload_n 2, 1) := by decide +kernel
theorem dX1_emitBranch_60 : decode cX1_emitBranch 60 = .ok (.invokevirtual 181, 3) := by decide +kernel
theorem dX1_emitBranch_63 : decode cX1_emitBranch 63 = .ok (.ifCond .eq 7, 3) := by decide +kernel
theorem dX1_emitBranch_66 : decode cX1_emitBranch 66 = .ok (.iload_n 2, 1) := by decide +kernel
theorem dX1_emitBranch_67 : decode cX1_emitBranch 67 = .ok (.goto 12, 3) := by decide +kernel
theorem dX1_emitBranch_70 : decode cX1_emitBranch 70 = .ok (.aload_n 0, 1) := by decide +kernel
theorem dX1_emitBranch_71 : decode cX1_emitBranch 71 = .ok (.getfield 38, 3) := by decide +kernel
theorem dX1_emitBranch_74 : decode cX1_emitBranch 74 = .ok (.getfield 126, 3) := by decide +kernel
theorem dX1_emitBranch_77 : decode cX1_emitBranch 77 = .ok (.iload_n 2, 1) := by decide +kernel
theorem dX1_emitBranch_78 : decode cX1_emitBranch 78 = .ok (.iaload, 1) := by decide +kernel
theorem dX1_emitBranch_79 : decode cX1_emitBranch 79 = .ok (.istore 5, 2) := by decide +kernel
theorem dX1_emitBranch_81 : decode cX1_emitBranch 81 = .ok (.aload_n 0, 1) := by decide +kernel
theorem dX1_emitBranch_82 : decode cX1_emitBranch 82 = .ok (.bipush 12, 2) := by decide +kernel
theorem dX1_emitBranch_84 : decode cX1_emitBranch 84 = .ok (.aload_n 0, 1) := by decide +kernel
theorem dX1_emitBranch_85 : decode cX1_emitBranch 85 = .ok (.getfield 22, 3) := by decide +kernel
theorem dX1_emitBranch_88 : decode cX1_emitBranch 88 = .ok (.aload_n 0, 1) := by decide +kernel
theorem dX1_emitBranch_89 : decode cX1_emitBranch 89 = .ok (.getfield 38, 3) := by decide +kernel
theorem dX1_emitBranch_92 : decode cX1_emitBranch 92 = .ok (.getfield 136, 3) := by decide +kernel
theorem dX1_emitBranch_95 : decode cX1_emitBranch 95 = .ok (.iload_n 2, 1) := by decide +kernel
theorem dX1_emitBranch_96 : decode cX1_emitBranch 96 = .ok (.iaload, 1) := by decide +kernel
theorem dX1_emitBranch_97 : decode cX1_emitBranch 97 = .ok (.iadd, 1) := by decide +kernel
theorem dX1_emitBranch_98 : decode cX1_emitBranch 98 = .ok (.iload 4, 2) := by decide +kernel
theorem dX1_emitBranch_100 : decode cX1_emitBranch 100 = .ok (.iload_n 3, 1) := by decide +kernel
theorem dX1_emitBranch_101 : decode cX1_emitBranch 101 = .ok (.iload 5, 2) := by decide +kernel
theorem dX1_emitBranch_103 : decode cX1_emitBranch 103 = .ok (.invokevirtual 129, 3) := by decide +kernel
theorem dX1_emitBranch_106 : decode cX1_emitBranch 106 = .ok (.return_, 1) := by decide +kernel
theorem dX1_emitPending_0 : decode cX1_emitPending 0 = .ok (.aload_n 0, 1) := by decide +kernel
theorem dX1_emitPending_1 : decode cX1_emitPending 1 = .ok (.getfield 28, 3) := by decide +kernel
theorem dX1_emitPending_4 : decode cX1_emitPending 4 = .ok (.ifCond .le 12, 3) := by decide +kernel
theorem dX1_emitPending_7 : decode cX1_emitPending 7 = .ok (.aload_n 0, 1) := by decide +kernel
theorem dX1_emitPending_8 : decode cX1_emitPending 8 = .ok (.iconst 1, 1) := by decide +kernel
theorem dX1_emitPending_9 : decode cX1_emitPending 9 = .ok (.iconst 0, 1) := by decide +kernel
theorem dX1_emitPending_10 : decode cX1_emitPending 10 = .ok (.iconst 0, 1) := by decide +kernel
theorem dX1_emitPending_11 : decode cX1_emitPending 11 = .ok (.iconst 0, 1) := by decide +kernel
theorem dX1_emitPending_12 : decode cX1_emitPending 12 = .ok (.iconst 0, 1) := by decide +kernel
theorem dX1_emitPending_13 : decode cX1_emitPending 13 = .ok (.invokevirtual 129, 3) := by decide +kernel
theorem dX1_emitPending_16 : decode cX1_emitPending 16 = .ok (.return_, 1) := by decide +kernel
theorem dX1_emit_0 : decode cX1_emit 0 = .ok (.aload_n 0, 1) := by decide +kernel
theorem dX1_emit_1 : decode cX1_emit 1 = .ok (.getfield 42, 3) := by decide +kernel
theorem dX1_emit_4 : decode cX1_emit 4 = .ok (.getfield 46, 3) := by decide +kernel
theorem dX1_emit_7 : decode cX1_emit 7 = .ok (.istore 6, 2) := by decide +kernel
theorem dX1_emit_9 : decode cX1_emit 9 = .ok (.iload 6, 2) := by decide +kernel
theorem dX1_emit_11 : decode cX1_emit 11 = .ok (.aload_n 0, 1) := by decide +kernel
theorem dX1_emit_12 : decode cX1_emit 12 = .ok (.getfield 42, 3) := by decide +kernel
theorem dX1_emit_15 : decode cX1_emit 15 = .ok (.getfield 70, 3) := by decide +kernel
theorem dX1_emit_18 : decode cX1_emit 18 = .ok (.arraylength, 1) := by decide +kernel
theorem dX1_emit_19 : decode cX1_emit 19 = .ok (.if_icmp .lt 4, 3) := by decide +kernel
theorem dX1_emit_22 : decode cX1_emit 22 = .ok (.return_, 1) := by decide +kernel
theorem dX1_emit_23 : decode cX1_emit 23 = .ok (.aload_n 0, 1) := by decide +kernel
theorem dX1_emit_24 : decode cX1_emit 24 = .ok (.getfield 42, 3) := by decide +kernel
theorem dX1_emit_27 : decode cX1_emit 27 = .ok (.getfield 70, 3) := by decide +kernel
theorem dX1_emit_30 : decode cX1_emit 30 = .ok (.iload 6, 2) := by decide +kernel
theorem dX1_emit_32 : decode cX1_emit 32 = .ok (.iload_n 1, 1) := by decide +kernel
theorem dX1_emit_33 : decode cX1_emit 33 = .ok (.iastore, 1) := by decide +kernel
theorem dX1_emit_34 : decode cX1_emit 34 = .ok (.aload_n 0, 1) := by decide +kernel
theorem dX1_emit_35 : decode cX1_emit 35 = .ok (.getfield 42, 3) := by decide +kernel
theorem dX1_emit_38 : decode cX1_emit 38 = .ok (.getfield 185, 3) := by decide +kernel
theorem dX1_emit_41 : decode cX1_emit 41 = .ok (.iload 6, 2) := by decide +kernel
theorem dX1_emit_43 : decode cX1_emit 43 = .ok (.aload_n 0, 1) := by decide +kernel
theorem dX1_emit_44 : decode cX1_emit 44 = .ok (.getfield 28, 3) := by decide +kernel
theorem dX1_emit_47 : decode cX1_emit 47 = .ok (.iastore, 1) := by decide +kernel
theorem dX1_emit_48 : decode cX1_emit 48 = .ok (.aload_n 0, 1) := by decide +kernel
theorem dX1_emit_49 : decode cX1_emit 49 = .ok (.getfield 42, 3) := by decide +kernel
theorem dX1_emit_52 : decode cX1_emit 52 = .ok (.getfield 188, 3) := by decide +kernel
theorem dX1_emit_55 : decode cX1_emit 55 = .ok (.iload 6, 2) := by decide +kernel
theorem dX1_emit_57 : decode cX1_emit 57 = .ok (.iload_n 2, 1) := by decide +kernel
theorem dX1_emit_58 : decode cX1_emit 58 = .ok (.iastore, 1) := by decide +kernel
theorem dX1_emit_59 : decode cX1_emit 59 = .ok (.aload_n 0, 1) := by decide +kernel
theorem dX1_emit_60 : decode cX1_emit 60 = .ok (.getfield 42, 3) := by decide +kernel
theorem dX1_emit_63 : decode cX1_emit 63 = .ok (.getfield 191, 3) := by decide +kernel
theorem dX1_emit_66 : decode cX1_emit 66 = .ok (.iload 6, 2) := by decide +kernel
theorem dX1_emit_68 : decode cX1_emit 68 = .ok (.iload_n 3, 1) := by decide +kernel
theorem dX1_emit_69 : decode cX1_emit 69 = .ok (.iastore, 1) := by decide +kernel
theorem dX1_emit_70 : decode cX1_emit 70 = .ok (.aload_n 0, 1) := by decide +kernel
theorem dX1_emit_71 : decode cX1_emit 71 = .ok (.getfield 42, 3) := by decide +kernel
theorem dX1_emit_74 : decode cX1_emit 74 = .ok (.getfield 194, 3) := by decide +kernel
theorem dX1_emit_77 : decode cX1_emit 77 = .ok (.iload 6, 2) := by decide +kernel
theorem dX1_emit_79 : decode cX1_emit 79 = .ok (.iload 4, 2) := by decide +kernel
theorem dX1_emit_81 : decode cX1_emit 81 = .ok (.iastore, 1) := by decide +kernel
theorem dX1_emit_82 : decode cX1_emit 82 = .ok (.aload_n 0, 1) := by decide +kernel
theorem dX1_emit_83 : decode cX1_emit 83 = .ok (.getfield 42, 3) := by decide +kernel
theorem dX1_emit_86 : decode cX1_emit 86 = .ok (.getfield 73, 3) := by decide +kernel
theorem dX1_emit_89 : decode cX1_emit 89 = .ok (.iload 6, 2) := by decide +kernel
theorem dX1_emit_91 : decode cX1_emit 91 = .ok (.iload 5, 2) := by decide +kernel
theorem dX1_emit_93 : decode cX1_emit 93 = .ok (.iastore, 1) := by decide +kernel
theorem dX1_emit_94 : decode cX1_emit 94 = .ok (.aload_n 0, 1) := by decide +kernel
theorem dX1_emit_95 : decode cX1_emit 95 = .ok (.getfield 42, 3) := by decide +kernel
theorem dX1_emit_98 : decode cX1_emit 98 = .ok (.iload 6, 2) := by decide +kernel
theorem dX1_emit_100 : decode cX1_emit 100 = .ok (.iconst 1, 1) := by decide +kernel
theorem dX1_emit_101 : decode cX1_emit 101 = .ok (.iadd, 1) := by decide +kernel
theorem dX1_emit_102 : decode cX1_emit 102 = .ok (.putfield 46, 3) := by decide +kernel
theorem dX1_emit_105 : decode cX1_emit 105 = .ok (.aload_n 0, 1) := by decide +kernel
theorem dX1_emit_106 : decode cX1_emit 106 = .ok (.iconst 0, 1) := by decide +kernel
theorem dX1_emit_107 : decode cX1_emit 107 = .ok (.putfield 28, 3) := by decide +kernel
theorem dX1_emit_110 : decode cX1_emit 110 = .ok (.return_, 1) := by decide +kernel
theorem dX1_fillSlots_0 : decode cX1_fillSlots 0 = .ok (.iload_n 1, 1) := by decide +kernel
theorem dX1_fillSlots_1 : decode cX1_fillSlots 1 = .ok (.iconst 0, 1) := by decide +kernel
theorem dX1_fillSlots_2 : decode cX1_fillSlots 2 = .ok (.invokestatic 197, 3) := by decide +kernel
theorem dX1_fillSlots_5 : decode cX1_fillSlots 5 = .ok (.istore_n 2, 1) := by decide +kernel
theorem dX1_fillSlots_6 : decode cX1_fillSlots 6 = .ok (.iload_n 2, 1) := by decide +kernel
theorem dX1_fillSlots_7 : decode cX1_fillSlots 7 = .ok (.aload_n 0, 1) := by decide +kernel
theorem dX1_fillSlots_8 : decode cX1_fillSlots 8 = .ok (.getfield 25, 3) := by decide +kernel
theorem dX1_fillSlots_11 : decode cX1_fillSlots 11 = .ok (.if_icmp .ge 57, 3) := by decide +kernel
theorem dX1_fillSlots_14 : decode cX1_fillSlots 14 = .ok (.aload_n 0, 1) := by decide +kernel
theorem dX1_fillSlots_15 : decode cX1_fillSlots 15 = .ok (.getfield 9, 3) := by decide +kernel
theorem dX1_fillSlots_18 : decode cX1_fillSlots 18 = .ok (.iload_n 2, 1) := by decide +kernel
theorem dX1_fillSlots_19 : decode cX1_fillSlots 19 = .ok (.iaload, 1) := by decide +kernel
theorem dX1_fillSlots_20 : decode cX1_fillSlots 20 = .ok (.aload_n 0, 1) := by decide +kernel
theorem dX1_fillSlots_21 : decode cX1_fillSlots 21 = .ok (.getfield 22, 3) := by decide +kernel
theorem dX1_fillSlots_24 : decode cX1_fillSlots 24 = .ok (.iload_n 2, 1) := by decide +kernel
theorem dX1_fillSlots_25 : decode cX1_fillSlots 25 = .ok (.iadd, 1) := by decide +kernel
theorem dX1_fillSlots_26 : decode cX1_fillSlots 26 = .ok (.if_icmp .eq 36, 3) := by decide +kernel
theorem dX1_fillSlots_29 : decode cX1_fillSlots 29 = .ok (.aload_n 0, 1) := by decide +kernel
theorem dX1_fillSlots_30 : decode cX1_fillSlots 30 = .ok (.sipush 200, 3) := by decide +kernel
theorem dX1_fillSlots_33 : decode cX1_fillSlots 33 = .ok (.aload_n 0, 1) := by decide +kernel
theorem dX1_fillSlots_34 : decode cX1_fillSlots 34 = .ok (.getfield 22, 3) := by decide +kernel
theorem dX1_fillSlots_37 : decode cX1_fillSlots 37 = .ok (.iload_n 2, 1) := by decide +kernel
theorem dX1_fillSlots_38 : decode cX1_fillSlots 38 = .ok (.iadd, 1) := by decide +kernel
theorem dX1_fillSlots_39 : decode cX1_fillSlots 39 = .ok (.aload_n 0, 1) := by decide +kernel
theorem dX1_fillSlots_40 : decode cX1_fillSlots 40 = .ok (.getfield 9, 3) := by decide +kernel
theorem dX1_fillSlots_43 : decode cX1_fillSlots 43 = .ok (.iload_n 2, 1) := by decide +kernel
theorem dX1_fillSlots_44 : decode cX1_fillSlots 44 = .ok (.iaload, 1) := by decide +kernel
theorem dX1_fillSlots_45 : decode cX1_fillSlots 45 = .ok (.iconst 0, 1) := by decide +kernel
theorem dX1_fillSlots_46 : decode cX1_fillSlots 46 = .ok (.iconst 0, 1) := by decide +kernel
theorem dX1_fillSlots_47 : decode cX1_fillSlots 47 = .ok (.invokevirtual 129, 3) := by decide +kernel
theorem dX1_fillSlots_50 : decode cX1_fillSlots 50 = .ok (.aload_n 0, 1) := by decide +kernel
theorem dX1_fillSlots_51 : decode cX1_fillSlots 51 = .ok (.getfield 9, 3) := by decide +kernel
theorem dX1_fillSlots_54 : decode cX1_fillSlots 54 = .ok (.iload_n 2, 1) := by decide +kernel
theorem dX1_fillSlots_55 : decode cX1_fillSlots 55 = .ok (.aload_n 0, 1) := by decide +kernel
theorem dX1_fillSlots_56 : decode cX1_fillSlots 56 = .ok (.getfield 22, 3) := by decide +kernel
theorem dX1_fillSlots_59 : decode cX1_fillSlots 59 = .ok (.iload_n 2, 1) := by decide +kernel
theorem dX1_fillSlots_60 : decode cX1_fillSlots 60 = .ok (.iadd, 1) := by decide +kernel
theorem dX1_fillSlots_61 : decode cX1_fillSlots 61 = .ok (.iastore, 1) := by decide +kernel
theorem dX1_fillSlots_62 : decode cX1_fillSlots 62 = .ok (.iinc 2 1, 3) := by decide +kernel
theorem dX1_fillSlots_65 : decode cX1_fillSlots 65 = .ok (.goto (-59), 3) := by decide +kernel
theorem dX1_fillSlots_68 : decode cX1_fillSlots 68 = .ok (.return_, 1) := by decide +kernel
theorem dX1_push_0 : decode cX1_push 0 = .ok (.aload_n 0, 1) := by decide +kernel
theorem dX1_push_1 : decode cX1_push 1 = .ok (.getfield 25, 3) := by decide +kernel
theorem dX1_push_4 : decode cX1_push 4 = .ok (.sipush 220, 3) := by decide +kernel
theorem dX1_push_7 : decode cX1_push 7 = .ok (.if_icmp .ge 23, 3) := by decide +kernel
theorem dX1_push_10 : decode cX1_push 10 = .ok (.aload_n 0, 1) := by decide +kernel
theorem dX1_push_11 : decode cX1_push 11 = .ok (.getfield 9, 3) := by decide +kernel
theorem dX1_push_14 : decode cX1_push 14 = .ok (.aload_n 0, 1) := by decide +kernel
theorem dX1_push_15 : decode cX1_push 15 = .ok (.getfield 25, 3) := by decide +kernel
theorem dX1_push_18 : decode cX1_push 18 = .ok (.iload_n 1, 1) := by decide +kernel
theorem dX1_push_19 : decode cX1_push 19 = .ok (.iastore, 1) := by decide +kernel
theorem dX1_push_20 : decode cX1_push 20 = .ok (.aload_n 0, 1) := by decide +kernel
theorem dX1_push_21 : decode cX1_push 21 = .ok (.dup, 1) := by decide +kernel
theorem dX1_push_22 : decode cX1_push 22 = .ok (.getfield 25, 3) := by decide +kernel
theorem dX1_push_25 : decode cX1_push 25 = .ok (.iconst 1, 1) := by decide +kernel
theorem dX1_push_26 : decode cX1_push 26 = .ok (.iadd, 1) := by decide +kernel
theorem dX1_push_27 : decode cX1_push 27 = .ok (.putfield 25, 3) := by decide +kernel
theorem dX1_push_30 : decode cX1_push 30 = .ok (.return_, 1) := by decide +kernel
theorem dX1_putSlots_0 : decode cX1_putSlots 0 = .ok (.iconst 0, 1) := by decide +kernel
theorem dX1_putSlots_1 : decode cX1_putSlots 1 = .ok (.istore_n 2, 1) := by decide +kernel
theorem dX1_putSlots_2 : decode cX1_putSlots 2 = .ok (.iload_n 2, 1) := by decide +kernel
theorem dX1_putSlots_3 : decode cX1_putSlots 3 = .ok (.iload_n 1, 1) := by decide +kernel
theorem dX1_putSlots_4 : decode cX1_putSlots 4 = .ok (.if_icmp .ge 47, 3) := by decide +kernel
theorem dX1_putSlots_7 : decode cX1_putSlots 7 = .ok (.aload_n 0, 1) := by decide +kernel
theorem dX1_putSlots_8 : decode cX1_putSlots 8 = .ok (.getfield 25, 3) := by decide +kernel
theorem dX1_putSlots_11 : decode cX1_putSlots 11 = .ok (.sipush 220, 3) := by decide +kernel
theorem dX1_putSlots_14 : decode cX1_putSlots 14 = .ok (.if_icmp .ge 37, 3) := by decide +kernel
theorem dX1_putSlots_17 : decode cX1_putSlots 17 = .ok (.aload_n 0, 1) := by decide +kernel
theorem dX1_putSlots_18 : decode cX1_putSlots 18 = .ok (.getfield 9, 3) := by decide +kernel
theorem dX1_putSlots_21 : decode cX1_putSlots 21 = .ok (.aload_n 0, 1) := by decide +kernel
theorem dX1_putSlots_22 : decode cX1_putSlots 22 = .ok (.getfield 25, 3) := by decide +kernel
theorem dX1_putSlots_25 : decode cX1_putSlots 25 = .ok (.aload_n 0, 1) := by decide +kernel
theorem dX1_putSlots_26 : decode cX1_putSlots 26 = .ok (.getfield 22, 3) := by decide +kernel
theorem dX1_putSlots_29 : decode cX1_putSlots 29 = .ok (.aload_n 0, 1) := by decide +kernel
theorem dX1_putSlots_30 : decode cX1_putSlots 30 = .ok (.getfield 25, 3) := by decide +kernel
theorem dX1_putSlots_33 : decode cX1_putSlots 33 = .ok (.iadd, 1) := by decide +kernel
theorem dX1_putSlots_34 : decode cX1_putSlots 34 = .ok (.iastore, 1) := by decide +kernel
theorem dX1_putSlots_35 : decode cX1_putSlots 35 = .ok (.aload_n 0, 1) := by decide +kernel
theorem dX1_putSlots_36 : decode cX1_putSlots 36 = .ok (.dup, 1) := by decide +kernel
theorem dX1_putSlots_37 : decode cX1_putSlots 37 = .ok (.getfield 25, 3) := by decide +kernel
theorem dX1_putSlots_40 : decode cX1_putSlots 40 = .ok (.iconst 1, 1) := by decide +kernel
theorem dX1_putSlots_41 : decode cX1_putSlots 41 = .ok (.iadd, 1) := by decide +kernel
theorem dX1_putSlots_42 : decode cX1_putSlots 42 = .ok (.putfield 25, 3) := by decide +kernel
theorem dX1_putSlots_45 : decode cX1_putSlots 45 = .ok (.iinc 2 1, 3) := by decide +kernel
theorem dX1_putSlots_48 : decode cX1_putSlots 48 = .ok (.goto (-46), 3) := by decide +kernel
theorem dX1_putSlots_51 : decode cX1_putSlots 51 = .ok (.return_, 1) := by decide +kernel
theorem dX1_pop_0 : decode cX1_pop 0 = .ok (.aload_n 0, 1) := by decide +kernel
theorem dX1_pop_1 : decode cX1_pop 1 = .ok (.getfield 25, 3) := by decide +kernel
theorem dX1_pop_4 : decode cX1_pop 4 = .ok (.ifCond .gt 5, 3) := by decide +kernel
theorem dX1_pop_7 : decode cX1_pop 7 = .ok (.iconst 0, 1) := by decide +kernel
theorem dX1_pop_8 : decode cX1_pop 8 = .ok (.ireturn, 1) := by decide +kernel
theorem dX1_pop_9 : decode cX1_pop 9 = .ok (.aload_n 0, 1) := by decide +kernel
theorem dX1_pop_10 : decode cX1_pop 10 = .ok (.dup, 1) := by decide +kernel
theorem dX1_pop_11 : decode cX1_pop 11 = .ok (.getfield 25, 3) := by decide +kernel
theorem dX1_pop_14 : decode cX1_pop 14 = .ok (.iconst 1, 1) := by decide +kernel
theorem dX1_pop_15 : decode cX1_pop 15 = .ok (.isub, 1) := by decide +kernel
theorem dX1_pop_16 : decode cX1_pop 16 = .ok (.putfield 25, 3) := by decide +kernel
theorem dX1_pop_19 : decode cX1_pop 19 = .ok (.aload_n 0, 1) := by decide +kernel
theorem dX1_pop_20 : decode cX1_pop 20 = .ok (.getfield 9, 3) := by decide +kernel
theorem dX1_pop_23 : decode cX1_pop 23 = .ok (.aload_n 0, 1) := by decide +kernel
theorem dX1_pop_24 : decode cX1_pop 24 = .ok (.getfield 25, 3) := by decide +kernel
theorem dX1_pop_27 : decode cX1_pop 27 = .ok (.iaload, 1) := by decide +kernel
theorem dX1_pop_28 : decode cX1_pop 28 = .ok (.ireturn, 1) := by decide +kernel
theorem dX2_takes_0 : decode cX2_takes 0 = .ok (.iload_n 0, 1) := by decide +kernel
theorem dX2_takes_1 : decode cX2_takes 1 = .ok (.bipush 69, 2) := by decide +kernel
theorem dX2_takes_3 : decode cX2_takes 3 = .ok (.if_icmp .lt 8, 3) := by decide +kernel
theorem dX2_takes_6 : decode cX2_takes 6 = .ok (.iload_n 0, 1) := by decide +kernel
theorem dX2_takes_7 : decode cX2_takes 7 = .ok (.invokestatic 9, 3) := by decide +kernel
theorem dX2_takes_10 : decode cX2_takes 10 = .ok (.ireturn, 1) := by decide +kernel
theorem dX2_takes_11 : decode cX2_takes 11 = .ok (.iload_n 0, 1) := by decide +kernel
theorem dX2_takes_12 : decode cX2_takes 12 = .ok (.bipush 40, 2) := by decide +kernel
theorem dX2_takes_14 : decode cX2_takes 14 = .ok (.if_icmp .lt 11, 3) := by decide +kernel
theorem dX2_takes_17 : decode cX2_takes 17 = .ok (.iload_n 0, 1) := by decide +kernel
theorem dX2_takes_18 : decode cX2_takes 18 = .ok (.bipush 53, 2) := by decide +kernel
theorem dX2_takes_20 : decode cX2_takes 20 = .ok (.if_icmp .gt 5, 3) := by decide +kernel
theorem dX2_takes_23 : decode cX2_takes 23 = .ok (.iconst 1, 1) := by decide +kernel
theorem dX2_takes_24 : decode cX2_takes 24 = .ok (.ireturn, 1) := by decide +kernel
theorem dX2_takes_25 : decode cX2_takes 25 = .ok (.iload_n 0, 1) := by decide +kernel
theorem dX2_takes_26 : decode cX2_takes 26 = .ok (.bipush 54, 2) := by decide +kernel
theorem dX2_takes_28 : decode cX2_takes 28 = .ok (.if_icmp .lt 11, 3) := by decide +kernel
theorem dX2_takes_31 : decode cX2_takes 31 = .ok (.iload_n 0, 1) := by decide +kernel
theorem dX2_takes_32 : decode cX2_takes 32 = .ok (.bipush 62, 2) := by decide +kernel
theorem dX2_takes_34 : decode cX2_takes 34 = .ok (.if_icmp .gt 5, 3) := by decide +kernel
theorem dX2_takes_37 : decode cX2_takes 37 = .ok (.iconst 2, 1) := by decide +kernel
theorem dX2_takes_38 : decode cX2_takes 38 = .ok (.ireturn, 1) := by decide +kernel
theorem dX2_takes_39 : decode cX2_takes 39 = .ok (.iload_n 0, 1) := by decide +kernel
theorem dX2_takes_40 : decode cX2_takes 40 = .ok (.lookupswitch 114 #[(1, 108), (26, 110), (27, 112), (32, 108), (33, 110), (34, 110), (35, 108), (36, 110), (63, 108), (64, 110), (65, 108), (66, 108)], 108) := by decide +kernel
theorem dX2_takes_148 : decode cX2_takes 148 = .ok (.iconst 0, 1) := by decide +kernel
theorem dX2_takes_149 : decode cX2_takes 149 = .ok (.ireturn, 1) := by decide +kernel
theorem dX2_takes_150 : decode cX2_takes 150 = .ok (.iconst 1, 1) := by decide +kernel
theorem dX2_takes_151 : decode cX2_takes 151 = .ok (.ireturn, 1) := by decide +kernel
theorem dX2_takes_152 : decode cX2_takes 152 = .ok (.iconst 3, 1) := by decide +kernel
theorem dX2_takes_153 : decode cX2_takes 153 = .ok (.ireturn, 1) := by decide +kernel
theorem dX2_takes_154 : decode cX2_takes 154 = .ok (.iconst (-1), 1) := by decide +kernel
theorem dX2_takes_155 : decode cX2_takes 155 = .ok (.ireturn, 1) := by decide +kernel
theorem dX2_operatorTakes_0 : decode cX2_operatorTakes 0 = .ok (.iload_n 0, 1) := by decide +kernel
theorem dX2_operatorTakes_1 : decode cX2_operatorTakes 1 = .ok (.lookupswitch 167 #[(69, 163), (70, 165), (71, 165), (72, 165), (73, 165), (80, 163), (81, 165), (83, 165), (106, 165), (107, 165), (108, 165), (110, 165), (113, 165), (116, 165), (124, 165), (125, 165), (126, 165), (167, 163), (173, 163)], 163) := by decide +kernel
theorem dX2_operatorTakes_164 : decode cX2_operatorTakes 164 = .ok (.iconst 1, 1) := by decide +kernel
theorem dX2_operatorTakes_165 : decode cX2_operatorTakes 165 = .ok (.ireturn, 1) := by decide +kernel
theorem dX2_operatorTakes_166 : decode cX2_operatorTakes 166 = .ok (.iconst 2, 1) := by decide +kernel
