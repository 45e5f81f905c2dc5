theorem dX8_admitsBegin_118 : decode cX8_admitsBegin 118 = .ok (.aload_n 0, 1) := by decide +kernel
theorem dX8_admitsBegin_119 : decode cX8_admitsBegin 119 = .ok (.iload_n 1, 1) := by decide +kernel
theorem dX8_admitsBegin_120 : decode cX8_admitsBegin 120 = .ok (.invokevirtual 143, 3) := by decide +kernel
theorem dX8_admitsBegin_123 : decode cX8_admitsBegin 123 = .ok (.iconst 1, 1) := by decide +kernel
theorem dX8_admitsBegin_124 : decode cX8_admitsBegin 124 = .ok (.ireturn, 1) := by decide +kernel
theorem dX8_makeRoom_0 : decode cX8_makeRoom 0 = .ok (.aload_n 0, 1) := by decide +kernel
theorem dX8_makeRoom_1 : decode cX8_makeRoom 1 = .ok (.getfield 9, 3) := by decide +kernel
theorem dX8_makeRoom_4 : decode cX8_makeRoom 4 = .ok (.arraylength, 1) := by decide +kernel
theorem dX8_makeRoom_5 : decode cX8_makeRoom 5 = .ok (.istore_n 1, 1) := by decide +kernel
theorem dX8_makeRoom_6 : decode cX8_makeRoom 6 = .ok (.aload_n 0, 1) := by decide +kernel
theorem dX8_makeRoom_7 : decode cX8_makeRoom 7 = .ok (.getfield 19, 3) := by decide +kernel
theorem dX8_makeRoom_10 : decode cX8_makeRoom 10 = .ok (.iload_n 1, 1) := by decide +kernel
theorem dX8_makeRoom_11 : decode cX8_makeRoom 11 = .ok (.if_icmp .lt 73, 3) := by decide +kernel
theorem dX8_makeRoom_14 : decode cX8_makeRoom 14 = .ok (.aload_n 0, 1) := by decide +kernel
theorem dX8_makeRoom_15 : decode cX8_makeRoom 15 = .ok (.getfield 19, 3) := by decide +kernel
theorem dX8_makeRoom_18 : decode cX8_makeRoom 18 = .ok (.sipush 1501, 3) := by decide +kernel
theorem dX8_makeRoom_21 : decode cX8_makeRoom 21 = .ok (.if_icmp .ge 63, 3) := by decide +kernel
theorem dX8_makeRoom_24 : decode cX8_makeRoom 24 = .ok (.iconst 2, 1) := by decide +kernel
theorem dX8_makeRoom_25 : decode cX8_makeRoom 25 = .ok (.iload_n 1, 1) := by decide +kernel
theorem dX8_makeRoom_26 : decode cX8_makeRoom 26 = .ok (.imul, 1) := by decide +kernel
theorem dX8_makeRoom_27 : decode cX8_makeRoom 27 = .ok (.sipush 1501, 3) := by decide +kernel
theorem dX8_makeRoom_30 : decode cX8_makeRoom 30 = .ok (.invokestatic 146, 3) := by decide +kernel
theorem dX8_makeRoom_33 : decode cX8_makeRoom 33 = .ok (.istore_n 2, 1) := by decide +kernel
theorem dX8_makeRoom_34 : decode cX8_makeRoom 34 = .ok (.aload_n 0, 1) := by decide +kernel
theorem dX8_makeRoom_35 : decode cX8_makeRoom 35 = .ok (.getfield 15, 3) := by decide +kernel
theorem dX8_makeRoom_38 : decode cX8_makeRoom 38 = .ok (.astore_n 3, 1) := by decide +kernel
theorem dX8_makeRoom_39 : decode cX8_makeRoom 39 = .ok (.aload_n 0, 1) := by decide +kernel
theorem dX8_makeRoom_40 : decode cX8_makeRoom 40 = .ok (.aload_n 0, 1) := by decide +kernel
theorem dX8_makeRoom_41 : decode cX8_makeRoom 41 = .ok (.getfield 9, 3) := by decide +kernel
theorem dX8_makeRoom_44 : decode cX8_makeRoom 44 = .ok (.iload_n 2, 1) := by decide +kernel
theorem dX8_makeRoom_45 : decode cX8_makeRoom 45 = .ok (.invokestatic 152, 3) := by decide +kernel
theorem dX8_makeRoom_48 : decode cX8_makeRoom 48 = .ok (.putfield 9, 3) := by decide +kernel
theorem dX8_makeRoom_51 : decode cX8_makeRoom 51 = .ok (.aload_n 0, 1) := by decide +kernel
theorem dX8_makeRoom_52 : decode cX8_makeRoom 52 = .ok (.iload_n 2, 1) := by decide +kernel
theorem dX8_makeRoom_53 : decode cX8_makeRoom 53 = .ok (.newarray .boolean, 2) := by decide +kernel
theorem dX8_makeRoom_55 : decode cX8_makeRoom 55 = .ok (.putfield 15, 3) := by decide +kernel
theorem dX8_makeRoom_58 : decode cX8_makeRoom 58 = .ok (.iconst 0, 1) := by decide +kernel
theorem dX8_makeRoom_59 : decode cX8_makeRoom 59 = .ok (.istore 4, 2) := by decide +kernel
theorem dX8_makeRoom_61 : decode cX8_makeRoom 61 = .ok (.iload 4, 2) := by decide +kernel
theorem dX8_makeRoom_63 : decode cX8_makeRoom 63 = .ok (.iload_n 1, 1) := by decide +kernel
theorem dX8_makeRoom_64 : decode cX8_makeRoom 64 = .ok (.if_icmp .ge 20, 3) := by decide +kernel
theorem dX8_makeRoom_67 : decode cX8_makeRoom 67 = .ok (.aload_n 0, 1) := by decide +kernel
theorem dX8_makeRoom_68 : decode cX8_makeRoom 68 = .ok (.getfield 15, 3) := by decide +kernel
theorem dX8_makeRoom_71 : decode cX8_makeRoom 71 = .ok (.iload 4, 2) := by decide +kernel
theorem dX8_makeRoom_73 : decode cX8_makeRoom 73 = .ok (.aload_n 3, 1) := by decide +kernel
theorem dX8_makeRoom_74 : decode cX8_makeRoom 74 = .ok (.iload 4, 2) := by decide +kernel
theorem dX8_makeRoom_76 : decode cX8_makeRoom 76 = .ok (.baload, 1) := by decide +kernel
theorem dX8_makeRoom_77 : decode cX8_makeRoom 77 = .ok (.bastore, 1) := by decide +kernel
theorem dX8_makeRoom_78 : decode cX8_makeRoom 78 = .ok (.iinc 4 1, 3) := by decide +kernel
theorem dX8_makeRoom_81 : decode cX8_makeRoom 81 = .ok (.goto (-20), 3) := by decide +kernel
theorem dX8_makeRoom_84 : decode cX8_makeRoom 84 = .ok (.aload_n 0, 1) := by decide +kernel
theorem dX8_makeRoom_85 : decode cX8_makeRoom 85 = .ok (.getfield 19, 3) := by decide +kernel
theorem dX8_makeRoom_88 : decode cX8_makeRoom 88 = .ok (.aload_n 0, 1) := by decide +kernel
theorem dX8_makeRoom_89 : decode cX8_makeRoom 89 = .ok (.getfield 9, 3) := by decide +kernel
theorem dX8_makeRoom_92 : decode cX8_makeRoom 92 = .ok (.arraylength, 1) := by decide +kernel
theorem dX8_makeRoom_93 : decode cX8_makeRoom 93 = .ok (.if_icmp .ge 7, 3) := by decide +kernel
theorem dX8_makeRoom_96 : decode cX8_makeRoom 96 = .ok (.iconst 1, 1) := by decide +kernel
theorem dX8_makeRoom_97 : decode cX8_makeRoom 97 = .ok (.goto 4, 3) := by decide +kernel
theorem dX8_makeRoom_100 : decode cX8_makeRoom 100 = .ok (.iconst 0, 1) := by decide +kernel
theorem dX8_makeRoom_101 : decode cX8_makeRoom 101 = .ok (.ireturn, 1) := by decide +kernel
theorem dX8_admitsElse_0 : decode cX8_admitsElse 0 = .ok (.aload_n 0, 1) := by decide +kernel
theorem dX8_admitsElse_1 : decode cX8_admitsElse 1 = .ok (.getfield 9, 3) := by decide +kernel
theorem dX8_admitsElse_4 : decode cX8_admitsElse 4 = .ok (.aload_n 0, 1) := by decide +kernel
theorem dX8_admitsElse_5 : decode cX8_admitsElse 5 = .ok (.getfield 19, 3) := by decide +kernel
theorem dX8_admitsElse_8 : decode cX8_admitsElse 8 = .ok (.iconst 1, 1) := by decide +kernel
theorem dX8_admitsElse_9 : decode cX8_admitsElse 9 = .ok (.isub, 1) := by decide +kernel
theorem dX8_admitsElse_10 : decode cX8_admitsElse 10 = .ok (.iaload, 1) := by decide +kernel
theorem dX8_admitsElse_11 : decode cX8_admitsElse 11 = .ok (.istore_n 1, 1) := by decide +kernel
theorem dX8_admitsElse_12 : decode cX8_admitsElse 12 = .ok (.aload_n 0, 1) := by decide +kernel
theorem dX8_admitsElse_13 : decode cX8_admitsElse 13 = .ok (.iload_n 1, 1) := by decide +kernel
theorem dX8_admitsElse_14 : decode cX8_admitsElse 14 = .ok (.invokevirtual 158, 3) := by decide +kernel
theorem dX8_admitsElse_17 : decode cX8_admitsElse 17 = .ok (.ifCond .eq 10, 3) := by decide +kernel
theorem dX8_admitsElse_20 : decode cX8_admitsElse 20 = .ok (.aload_n 0, 1) := by decide +kernel
theorem dX8_admitsElse_21 : decode cX8_admitsElse 21 = .ok (.invokevirtual 161, 3) := by decide +kernel
theorem dX8_admitsElse_24 : decode cX8_admitsElse 24 = .ok (.ifCond .ne 5, 3) := by decide +kernel
theorem dX8_admitsElse_27 : decode cX8_admitsElse 27 = .ok (.iconst 0, 1) := by decide +kernel
theorem dX8_admitsElse_28 : decode cX8_admitsElse 28 = .ok (.ireturn, 1) := by decide +kernel
theorem dX8_admitsElse_29 : decode cX8_admitsElse 29 = .ok (.aload_n 0, 1) := by decide +kernel
theorem dX8_admitsElse_30 : decode cX8_admitsElse 30 = .ok (.getfield 32, 3) := by decide +kernel
theorem dX8_admitsElse_33 : decode cX8_admitsElse 33 = .ok (.getfield 66, 3) := by decide +kernel
theorem dX8_admitsElse_36 : decode cX8_admitsElse 36 = .ok (.istore_n 2, 1) := by decide +kernel
theorem dX8_admitsElse_37 : decode cX8_admitsElse 37 = .ok (.aload_n 0, 1) := by decide +kernel
theorem dX8_admitsElse_38 : decode cX8_admitsElse 38 = .ok (.getfield 32, 3) := by decide +kernel
theorem dX8_admitsElse_41 : decode cX8_admitsElse 41 = .ok (.getfield 140, 3) := by decide +kernel
theorem dX8_admitsElse_44 : decode cX8_admitsElse 44 = .ok (.iload_n 1, 1) := by decide +kernel
theorem dX8_admitsElse_45 : decode cX8_admitsElse 45 = .ok (.iload_n 2, 1) := by decide +kernel
theorem dX8_admitsElse_46 : decode cX8_admitsElse 46 = .ok (.iastore, 1) := by decide +kernel
theorem dX8_admitsElse_47 : decode cX8_admitsElse 47 = .ok (.aload_n 0, 1) := by decide +kernel
theorem dX8_admitsElse_48 : decode cX8_admitsElse 48 = .ok (.getfield 32, 3) := by decide +kernel
theorem dX8_admitsElse_51 : decode cX8_admitsElse 51 = .ok (.getfield 140, 3) := by decide +kernel
theorem dX8_admitsElse_54 : decode cX8_admitsElse 54 = .ok (.iload_n 2, 1) := by decide +kernel
theorem dX8_admitsElse_55 : decode cX8_admitsElse 55 = .ok (.iload_n 1, 1) := by decide +kernel
theorem dX8_admitsElse_56 : decode cX8_admitsElse 56 = .ok (.iastore, 1) := by decide +kernel
theorem dX8_admitsElse_57 : decode cX8_admitsElse 57 = .ok (.aload_n 0, 1) := by decide +kernel
theorem dX8_admitsElse_58 : decode cX8_admitsElse 58 = .ok (.getfield 32, 3) := by decide +kernel
theorem dX8_admitsElse_61 : decode cX8_admitsElse 61 = .ok (.getfield 137, 3) := by decide +kernel
theorem dX8_admitsElse_64 : decode cX8_admitsElse 64 = .ok (.iload_n 2, 1) := by decide +kernel
theorem dX8_admitsElse_65 : decode cX8_admitsElse 65 = .ok (.iconst (-1), 1) := by decide +kernel
theorem dX8_admitsElse_66 : decode cX8_admitsElse 66 = .ok (.iastore, 1) := by decide +kernel
theorem dX8_admitsElse_67 : decode cX8_admitsElse 67 = .ok (.aload_n 0, 1) := by decide +kernel
theorem dX8_admitsElse_68 : decode cX8_admitsElse 68 = .ok (.aload_n 0, 1) := by decide +kernel
theorem dX8_admitsElse_69 : decode cX8_admitsElse 69 = .ok (.getfield 32, 3) := by decide +kernel
theorem dX8_admitsElse_72 : decode cX8_admitsElse 72 = .ok (.getfield 135, 3) := by decide +kernel
theorem dX8_admitsElse_75 : decode cX8_admitsElse 75 = .ok (.iload_n 1, 1) := by decide +kernel
theorem dX8_admitsElse_76 : decode cX8_admitsElse 76 = .ok (.iaload, 1) := by decide +kernel
theorem dX8_admitsElse_77 : decode cX8_admitsElse 77 = .ok (.putfield 23, 3) := by decide +kernel
theorem dX8_admitsElse_80 : decode cX8_admitsElse 80 = .ok (.aload_n 0, 1) := by decide +kernel
theorem dX8_admitsElse_81 : decode cX8_admitsElse 81 = .ok (.getfield 15, 3) := by decide +kernel
theorem dX8_admitsElse_84 : decode cX8_admitsElse 84 = .ok (.aload_n 0, 1) := by decide +kernel
theorem dX8_admitsElse_85 : decode cX8_admitsElse 85 = .ok (.getfield 19, 3) := by decide +kernel
theorem dX8_admitsElse_88 : decode cX8_admitsElse 88 = .ok (.iconst 1, 1) := by decide +kernel
theorem dX8_admitsElse_89 : decode cX8_admitsElse 89 = .ok (.isub, 1) := by decide +kernel
theorem dX8_admitsElse_90 : decode cX8_admitsElse 90 = .ok (.iconst 0, 1) := by decide +kernel
theorem dX8_admitsElse_91 : decode cX8_admitsElse 91 = .ok (.bastore, 1) := by decide +kernel
theorem dX8_admitsElse_92 : decode cX8_admitsElse 92 = .ok (.aload_n 0, 1) := by decide +kernel
theorem dX8_admitsElse_93 : decode cX8_admitsElse 93 = .ok (.aload_n 0, 1) := by decide +kernel
theorem dX8_admitsElse_94 : decode cX8_admitsElse 94 = .ok (.getfield 32, 3) := by decide +kernel
theorem dX8_admitsElse_97 : decode cX8_admitsElse 97 = .ok (.getfield 83, 3) := by decide +kernel
theorem dX8_admitsElse_100 : decode cX8_admitsElse 100 = .ok (.iload_n 1, 1) := by decide +kernel
theorem dX8_admitsElse_101 : decode cX8_admitsElse 101 = .ok (.iaload, 1) := by decide +kernel
theorem dX8_admitsElse_102 : decode cX8_admitsElse 102 = .ok (.invokevirtual 143, 3) := by decide +kernel
theorem dX8_admitsElse_105 : decode cX8_admitsElse 105 = .ok (.iconst 1, 1) := by decide +kernel
theorem dX8_admitsElse_106 : decode cX8_admitsElse 106 = .ok (.ireturn, 1) := by decide +kernel
theorem dX8_admitsEnd_0 : decode cX8_admitsEnd 0 = .ok (.aload_n 0, 1) := by decide +kernel
theorem dX8_admitsEnd_1 : decode cX8_admitsEnd 1 = .ok (.getfield 9, 3) := by decide +kernel
theorem dX8_admitsEnd_4 : decode cX8_admitsEnd 4 = .ok (.aload_n 0, 1) := by decide +kernel
theorem dX8_admitsEnd_5 : decode cX8_admitsEnd 5 = .ok (.getfield 19, 3) := by decide +kernel
theorem dX8_admitsEnd_8 : decode cX8_admitsEnd 8 = .ok (.iconst 1, 1) := by decide +kernel
theorem dX8_admitsEnd_9 : decode cX8_admitsEnd 9 = .ok (.isub, 1) := by decide +kernel
theorem dX8_admitsEnd_10 : decode cX8_admitsEnd 10 = .ok (.iaload, 1) := by decide +kernel
theorem dX8_admitsEnd_11 : decode cX8_admitsEnd 11 = .ok (.istore_n 1, 1) := by decide +kernel
theorem dX8_admitsEnd_12 : decode cX8_admitsEnd 12 = .ok (.aload_n 0, 1) := by decide +kernel
theorem dX8_admitsEnd_13 : decode cX8_admitsEnd 13 = .ok (.iload_n 1, 1) := by decide +kernel
theorem dX8_admitsEnd_14 : decode cX8_admitsEnd 14 = .ok (.invokevirtual 158, 3) := by decide +kernel
theorem dX8_admitsEnd_17 : decode cX8_admitsEnd 17 = .ok (.ifCond .eq 28, 3) := by decide +kernel
theorem dX8_admitsEnd_20 : decode cX8_admitsEnd 20 = .ok (.aload_n 0, 1) := by decide +kernel
theorem dX8_admitsEnd_21 : decode cX8_admitsEnd 21 = .ok (.getfield 32, 3) := by decide +kernel
theorem dX8_admitsEnd_24 : decode cX8_admitsEnd 24 = .ok (.getfield 83, 3) := by decide +kernel
theorem dX8_admitsEnd_27 : decode cX8_admitsEnd 27 = .ok (.iload_n 1, 1) := by decide +kernel
theorem dX8_admitsEnd_28 : decode cX8_admitsEnd 28 = .ok (.iaload, 1) := by decide +kernel
theorem dX8_admitsEnd_29 : decode cX8_admitsEnd 29 = .ok (.aload_n 0, 1) := by decide +kernel
theorem dX8_admitsEnd_30 : decode cX8_admitsEnd 30 = .ok (.getfield 32, 3) := by decide +kernel
theorem dX8_admitsEnd_33 : decode cX8_admitsEnd 33 = .ok (.getfield 86, 3) := by decide +kernel
theorem dX8_admitsEnd_36 : decode cX8_admitsEnd 36 = .ok (.iload_n 1, 1) := by decide +kernel
theorem dX8_admitsEnd_37 : decode cX8_admitsEnd 37 = .ok (.iaload, 1) := by decide +kernel
theorem dX8_admitsEnd_38 : decode cX8_admitsEnd 38 = .ok (.if_icmp .eq 7, 3) := by decide +kernel
theorem dX8_admitsEnd_41 : decode cX8_admitsEnd 41 = .ok (.iconst 1, 1) := by decide +kernel
theorem dX8_admitsEnd_42 : decode cX8_admitsEnd 42 = .ok (.goto 4, 3) := by decide +kernel
theorem dX8_admitsEnd_45 : decode cX8_admitsEnd 45 = .ok (.iconst 0, 1) := by decide +kernel
theorem dX8_admitsEnd_46 : decode cX8_admitsEnd 46 = .ok (.istore_n 2, 1) := by decide +kernel
theorem dX8_admitsEnd_47 : decode cX8_admitsEnd 47 = .ok (.iload_n 2, 1) := by decide +kernel
theorem dX8_admitsEnd_48 : decode cX8_admitsEnd 48 = .ok (.ifCond .ne 10, 3) := by decide +kernel
theorem dX8_admitsEnd_51 : decode cX8_admitsEnd 51 = .ok (.aload_n 0, 1) := by decide +kernel
theorem dX8_admitsEnd_52 : decode cX8_admitsEnd 52 = .ok (.invokevirtual 161, 3) := by decide +kernel
theorem dX8_admitsEnd_55 : decode cX8_admitsEnd 55 = .ok (.ifCond .ne 5, 3) := by decide +kernel
theorem dX8_admitsEnd_58 : decode cX8_admitsEnd 58 = .ok (.iconst 0, 1) := by decide +kernel
theorem dX8_admitsEnd_59 : decode cX8_admitsEnd 59 = .ok (.ireturn, 1) := by decide +kernel
theorem dX8_admitsEnd_60 : decode cX8_admitsEnd 60 = .ok (.aload_n 0, 1) := by decide +kernel
theorem dX8_admitsEnd_61 : decode cX8_admitsEnd 61 = .ok (.getfield 32, 3) := by decide +kernel
theorem dX8_admitsEnd_64 : decode cX8_admitsEnd 64 = .ok (.getfield 66, 3) := by decide +kernel
theorem dX8_admitsEnd_67 : decode cX8_admitsEnd 67 = .ok (.istore_n 3, 1) := by decide +kernel
theorem dX8_admitsEnd_68 : decode cX8_admitsEnd 68 = .ok (.aload_n 0, 1) := by decide +kernel
theorem dX8_admitsEnd_69 : decode cX8_admitsEnd 69 = .ok (.getfield 32, 3) := by decide +kernel
theorem dX8_admitsEnd_72 : decode cX8_admitsEnd 72 = .ok (.getfield 137, 3) := by decide +kernel
theorem dX8_admitsEnd_75 : decode cX8_admitsEnd 75 = .ok (.iload_n 3, 1) := by decide +kernel
theorem dX8_admitsEnd_76 : decode cX8_admitsEnd 76 = .ok (.iload_n 1, 1) := by decide +kernel
theorem dX8_admitsEnd_77 : decode cX8_admitsEnd 77 = .ok (.iastore, 1) := by decide +kernel
theorem dX8_admitsEnd_78 : decode cX8_admitsEnd 78 = .ok (.iload_n 1, 1) := by decide +kernel
theorem dX8_admitsEnd_79 : decode cX8_admitsEnd 79 = .ok (.iconst (-1), 1) := by decide +kernel
theorem dX8_admitsEnd_80 : decode cX8_admitsEnd 80 = .ok (.if_icmp .ne 25, 3) := by decide +kernel
theorem dX8_admitsEnd_83 : decode cX8_admitsEnd 83 = .ok (.aload_n 0, 1) := by decide +kernel
theorem dX8_admitsEnd_84 : decode cX8_admitsEnd 84 = .ok (.getfield 32, 3) := by decide +kernel
theorem dX8_admitsEnd_87 : decode cX8_admitsEnd 87 = .ok (.getfield 164, 3) := by decide +kernel
theorem dX8_admitsEnd_90 : decode cX8_admitsEnd 90 = .ok (.aload_n 0, 1) := by decide +kernel
theorem dX8_admitsEnd_91 : decode cX8_admitsEnd 91 = .ok (.getfield 32, 3) := by decide +kernel
theorem dX8_admitsEnd_94 : decode cX8_admitsEnd 94 = .ok (.getfield 41, 3) := by decide +kernel
theorem dX8_admitsEnd_97 : decode cX8_admitsEnd 97 = .ok (.iload_n 3, 1) := by decide +kernel
theorem dX8_admitsEnd_98 : decode cX8_admitsEnd 98 = .ok (.iastore, 1) := by decide +kernel
theorem dX8_admitsEnd_99 : decode cX8_admitsEnd 99 = .ok (.aload_n 0, 1) := by decide +kernel
theorem dX8_admitsEnd_100 : decode cX8_admitsEnd 100 = .ok (.invokevirtual 69, 3) := by decide +kernel
theorem dX8_admitsEnd_103 : decode cX8_admitsEnd 103 = .ok (.iconst 1, 1) := by decide +kernel
theorem dX8_admitsEnd_104 : decode cX8_admitsEnd 104 = .ok (.ireturn, 1) := by decide +kernel
theorem dX8_admitsEnd_105 : decode cX8_admitsEnd 105 = .ok (.aload_n 0, 1) := by decide +kernel
theorem dX8_admitsEnd_106 : decode cX8_admitsEnd 106 = .ok (.getfield 32, 3) := by decide +kernel
theorem dX8_admitsEnd_109 : decode cX8_admitsEnd 109 = .ok (.getfield 137, 3) := by decide +kernel
theorem dX8_admitsEnd_112 : decode cX8_admitsEnd 112 = .ok (.iload_n 1, 1) := by decide +kernel
theorem dX8_admitsEnd_113 : decode cX8_admitsEnd 113 = .ok (.iload_n 3, 1) := by decide +kernel
theorem dX8_admitsEnd_114 : decode cX8_admitsEnd 114 = .ok (.iastore, 1) := by decide +kernel
theorem dX8_admitsEnd_115 : decode cX8_admitsEnd 115 = .ok (.aload_n 0, 1) := by decide +kernel
theorem dX8_admitsEnd_116 : decode cX8_admitsEnd 116 = .ok (.getfield 32, 3) := by decide +kernel
theorem dX8_admitsEnd_119 : decode cX8_admitsEnd 119 = .ok (.getfield 140, 3) := by decide +kernel
theorem dX8_admitsEnd_122 : decode cX8_admitsEnd 122 = .ok (.iload_n 1, 1) := by decide +kernel
theorem dX8_admitsEnd_123 : decode cX8_admitsEnd 123 = .ok (.iaload, 1) := by decide +kernel
theorem dX8_admitsEnd_124 : decode cX8_admitsEnd 124 = .ok (.iconst (-1), 1) := by decide +kernel
theorem dX8_admitsEnd_125 : decode cX8_admitsEnd 125 = .ok (.if_icmp .eq 21, 3) := by decide +kernel
theorem dX8_admitsEnd_128 : decode cX8_admitsEnd 128 = .ok (.aload_n 0, 1) := by decide +kernel
theorem dX8_admitsEnd_129 : decode cX8_admitsEnd 129 = .ok (.getfield 32, 3) := by decide +kernel
theorem dX8_admitsEnd_132 : decode cX8_admitsEnd 132 = .ok (.getfield 137, 3) := by decide +kernel
theorem dX8_admitsEnd_135 : decode cX8_admitsEnd 135 = .ok (.aload_n 0, 1) := by decide +kernel
theorem dX8_admitsEnd_136 : decode cX8_admitsEnd 136 = .ok (.getfield 32, 3) := by decide +kernel
theorem dX8_admitsEnd_139 : decode cX8_admitsEnd 139 = .ok (.getfield 140, 3) := by decide +kernel
theorem dX8_admitsEnd_142 : decode cX8_admitsEnd 142 = .ok (.iload_n 1, 1) := by decide +kernel
theorem dX8_admitsEnd_143 : decode cX8_admitsEnd 143 = .ok (.iaload, 1) := by decide +kernel
theorem dX8_admitsEnd_144 : decode cX8_admitsEnd 144 = .ok (.iload_n 3, 1) := by decide +kernel
theorem dX8_admitsEnd_145 : decode cX8_admitsEnd 145 = .ok (.iastore, 1) := by decide +kernel
theorem dX8_admitsEnd_146 : decode cX8_admitsEnd 146 = .ok (.aload_n 0, 1) := by decide +kernel
theorem dX8_admitsEnd_147 : decode cX8_admitsEnd 147 = .ok (.aload_n 0, 1) := by decide +kernel
theorem dX8_admitsEnd_148 : decode cX8_admitsEnd 148 = .ok (.invokevirtual 89, 3) := by decide +kernel
theorem dX8_admitsEnd_151 : decode cX8_admitsEnd 151 = .ok (.putfield 23, 3) := by decide +kernel
theorem dX8_admitsEnd_154 : decode cX8_admitsEnd 154 = .ok (.aload_n 0, 1) := by decide +kernel
theorem dX8_admitsEnd_155 : decode cX8_admitsEnd 155 = .ok (.dup, 1) := by decide +kernel
theorem dX8_admitsEnd_156 : decode cX8_admitsEnd 156 = .ok (.getfield 19, 3) := by decide +kernel
theorem dX8_admitsEnd_159 : decode cX8_admitsEnd 159 = .ok (.iconst 1, 1) := by decide +kernel
theorem dX8_admitsEnd_160 : decode cX8_admitsEnd 160 = .ok (.isub, 1) := by decide +kernel
theorem dX8_admitsEnd_161 : decode cX8_admitsEnd 161 = .ok (.putfield 19, 3) := by decide +kernel
theorem dX8_admitsEnd_164 : decode cX8_admitsEnd 164 = .ok (.aload_n 0, 1) := by decide +kernel
theorem dX8_admitsEnd_165 : decode cX8_admitsEnd 165 = .ok (.aload_n 0, 1) := by decide +kernel
theorem dX8_admitsEnd_166 : decode cX8_admitsEnd 166 = .ok (.getfield 32, 3) := by decide +kernel
theorem dX8_admitsEnd_169 : decode cX8_admitsEnd 169 = .ok (.getfield 86, 3) := by decide +kernel
theorem dX8_admitsEnd_172 : decode cX8_admitsEnd 172 = .ok (.iload_n 1, 1) := by decide +kernel
theorem dX8_admitsEnd_173 : decode cX8_admitsEnd 173 = .ok (.iaload, 1) := by decide +kernel
theorem dX8_admitsEnd_174 : decode cX8_admitsEnd 174 = .ok (.invokevirtual 143, 3) := by decide +kernel
theorem dX8_admitsEnd_177 : decode cX8_admitsEnd 177 = .ok (.iconst 1, 1) := by decide +kernel
theorem dX8_admitsEnd_178 : decode cX8_admitsEnd 178 = .ok (.ireturn, 1) := by decide +kernel
theorem dX8_admitsBranch_0 : decode cX8_admitsBranch 0 = .ok (.iload_n 1, 1) := by decide +kernel
theorem dX8_admitsBranch_1 : decode cX8_admitsBranch 1 = .ok (.aload_n 0, 1) := by decide +kernel
theorem dX8_admitsBranch_2 : decode cX8_admitsBranch 2 = .ok (.getfield 19, 3) := by decide +kernel
theorem dX8_admitsBranch_5 : decode cX8_admitsBranch 5 = .ok (.iconst 1, 1) := by decide +kernel
theorem dX8_admitsBranch_6 : decode cX8_admitsBranch 6 = .ok (.isub, 1) := by decide +kernel
theorem dX8_admitsBranch_7 : decode cX8_admitsBranch 7 = .ok (.invokestatic 44, 3) := by decide +kernel
theorem dX8_admitsBranch_10 : decode cX8_admitsBranch 10 = .ok (.ifCond .eq 15, 3) := by decide +kernel
theorem dX8_admitsBranch_13 : decode cX8_admitsBranch 13 = .ok (.aload_n 0, 1) := by decide +kernel
theorem dX8_admitsBranch_14 : decode cX8_admitsBranch 14 = .ok (.aload_n 0, 1) := by decide +kernel
theorem dX8_admitsBranch_15 : decode cX8_admitsBranch 15 = .ok (.iload_n 1, 1) := by decide +kernel
theorem dX8_admitsBranch_16 : decode cX8_admitsBranch 16 = .ok (.invokevirtual 167, 3) := by decide +kernel
theorem dX8_admitsBranch_19 : decode cX8_admitsBranch 19 = .ok (.invokevirtual 127, 3) := by decide +kernel
theorem dX8_admitsBranch_22 : decode cX8_admitsBranch 22 = .ok (.ifCond .ne 5, 3) := by decide +kernel
theorem dX8_admitsBranch_25 : decode cX8_admitsBranch 25 = .ok (.iconst 0, 1) := by decide +kernel
theorem dX8_admitsBranch_26 : decode cX8_admitsBranch 26 = .ok (.ireturn, 1) := by decide +kernel
theorem dX8_admitsBranch_27 : decode cX8_admitsBranch 27 = .ok (.aload_n 0, 1) := by decide +kernel
theorem dX8_admitsBranch_28 : decode cX8_admitsBranch 28 = .ok (.getfield 32, 3) := by decide +kernel
theorem dX8_admitsBranch_31 : decode cX8_admitsBranch 31 = .ok (.getfield 137, 3) := by decide +kernel
theorem dX8_admitsBranch_34 : decode cX8_admitsBranch 34 = .ok (.aload_n 0, 1) := by decide +kernel
theorem dX8_admitsBranch_35 : decode cX8_admitsBranch 35 = .ok (.getfield 32, 3) := by decide +kernel
theorem dX8_admitsBranch_38 : decode cX8_admitsBranch 38 = .ok (.getfield 66, 3) := by decide +kernel
theorem dX8_admitsBranch_41 : decode cX8_admitsBranch 41 = .ok (.aload_n 0, 1) := by decide +kernel
theorem dX8_admitsBranch_42 : decode cX8_admitsBranch 42 = .ok (.getfield 9, 3) := by decide +kernel
theorem dX8_admitsBranch_45 : decode cX8_admitsBranch 45 = .ok (.aload_n 0, 1) := by decide +kernel
theorem dX8_admitsBranch_46 : decode cX8_admitsBranch 46 = .ok (.getfield 19, 3) := by decide +kernel
theorem dX8_admitsBranch_49 : decode cX8_admitsBranch 49 = .ok (.iconst 1, 1) := by decide +kernel
theorem dX8_admitsBranch_50 : decode cX8_admitsBranch 50 = .ok (.isub, 1) := by decide +kernel
theorem dX8_admitsBranch_51 : decode cX8_admitsBranch 51 = .ok (.iload_n 1, 1) := by decide +kernel
theorem dX8_admitsBranch_52 : decode cX8_admitsBranch 52 = .ok (.isub, 1) := by decide +kernel
theorem dX8_admitsBranch_53 : decode cX8_admitsBranch 53 = .ok (.iaload, 1) := by decide +kernel
theorem dX8_admitsBranch_54 : decode cX8_admitsBranch 54 = .ok (.iastore, 1) := by decide +kernel
theorem dX8_admitsBranch_55 : decode cX8_admitsBranch 55 = .ok (.aload_n 0, 1) := by decide +kernel
theorem dX8_admitsBranch_56 : decode cX8_admitsBranch 56 = .ok (.invokevirtual 97, 3) := by decide +kernel
theorem dX8_admitsBranch_59 : decode cX8_admitsBranch 59 = .ok (.iconst 1, 1) := by decide +kernel
theorem dX8_admitsBranch_60 : decode cX8_admitsBranch 60 = .ok (.ireturn, 1) := by decide +kernel
theorem dX8_admitsBranchIf_0 : decode cX8_admitsBranchIf 0 = .ok (.iload_n 1, 1) := by decide +kernel
theorem dX8_admitsBranchIf_1 : decode cX8_admitsBranchIf 1 = .ok (.aload_n 0, 1) := by decide +kernel
theorem dX8_admitsBranchIf_2 : decode cX8_admitsBranchIf 2 = .ok (.getfield 19, 3) := by decide +kernel
theorem dX8_admitsBranchIf_5 : decode cX8_admitsBranchIf 5 = .ok (.iconst 1, 1) := by decide +kernel
theorem dX8_admitsBranchIf_6 : decode cX8_admitsBranchIf 6 = .ok (.isub, 1) := by decide +kernel
theorem dX8_admitsBranchIf_7 : decode cX8_admitsBranchIf 7 = .ok (.invokestatic 44, 3) := by decide +kernel
theorem dX8_admitsBranchIf_10 : decode cX8_admitsBranchIf 10 = .ok (.ifCond .eq 22, 3) := by decide +kernel
theorem dX8_admitsBranchIf_13 : decode cX8_admitsBranchIf 13 = .ok (.aload_n 0, 1) := by decide +kernel
theorem dX8_admitsBranchIf_14 : decode cX8_admitsBranchIf 14 = .ok (.aload_n 0, 1) := by decide +kernel
theorem dX8_admitsBranchIf_15 : decode cX8_admitsBranchIf 15 = .ok (.iload_n 1, 1) := by decide +kernel
theorem dX8_admitsBranchIf_16 : decode cX8_admitsBranchIf 16 = .ok (.invokevirtual 167, 3) := by decide +kernel
theorem dX8_admitsBranchIf_19 : decode cX8_admitsBranchIf 19 = .ok (.iconst 1, 1) := by decide +kernel
theorem dX8_admitsBranchIf_20 : decode cX8_admitsBranchIf 20 = .ok (.iadd, 1) := by decide +kernel
theorem dX8_admitsBranchIf_21 : decode cX8_admitsBranchIf 21 = .ok (.aload_n 0, 1) := by decide +kernel
theorem dX8_admitsBranchIf_22 : decode cX8_admitsBranchIf 22 = .ok (.iload_n 1, 1) := by decide +kernel
theorem dX8_admitsBranchIf_23 : decode cX8_admitsBranchIf 23 = .ok (.invokevirtual 167, 3) := by decide +kernel
theorem dX8_admitsBranchIf_26 : decode cX8_admitsBranchIf 26 = .ok (.invokevirtual 121, 3) := by decide +kernel
theorem dX8_admitsBranchIf_29 : decode cX8_admitsBranchIf 29 = .ok (.ifCond .ne 5, 3) := by decide +kernel
theorem dX8_admitsBranchIf_32 : decode cX8_admitsBranchIf 32 = .ok (.iconst 0, 1) := by decide +kernel
theorem dX8_admitsBranchIf_33 : decode cX8_admitsBranchIf 33 = .ok (.ireturn, 1) := by decide +kernel
theorem dX8_admitsBranchIf_34 : decode cX8_admitsBranchIf 34 = .ok (.aload_n 0, 1) := by decide +kernel
theorem dX8_admitsBranchIf_35 : decode cX8_admitsBranchIf 35 = .ok (.getfield 32, 3) := by decide +kernel
theorem dX8_admitsBranchIf_38 : decode cX8_admitsBranchIf 38 = .ok (.getfield 137, 3) := by decide +kernel
theorem dX8_admitsBranchIf_41 : decode cX8_admitsBranchIf 41 = .ok (.aload_n 0, 1) := by decide +kernel
theorem dX8_admitsBranchIf_42 : decode cX8_admitsBranchIf 42 = .ok (.getfield 32, 3) := by decide +kernel
theorem dX8_admitsBranchIf_45 : decode cX8_admitsBranchIf 45 = .ok (.getfield 66, 3) := by decide +kernel
theorem dX8_admitsBranchIf_48 : decode cX8_admitsBranchIf 48 = .ok (.aload_n 0, 1) := by decide +kernel
theorem dX8_admitsBranchIf_49 : decode cX8_admitsBranchIf 49 = .ok (.getfield 9, 3) := by decide +kernel
theorem dX8_admitsBranchIf_52 : decode cX8_admitsBranchIf 52 = .ok (.aload_n 0, 1) := by decide +kernel
theorem dX8_admitsBranchIf_53 : decode cX8_admitsBranchIf 53 = .ok (.getfield 19, 3) := by decide +kernel
theorem dX8_admitsBranchIf_56 : decode cX8_admitsBranchIf 56 = .ok (.iconst 1, 1) := by decide +kernel
theorem dX8_admitsBranchIf_57 : decode cX8_admitsBranchIf 57 = .ok (.isub, 1) := by decide +kernel
theorem dX8_admitsBranchIf_58 : decode cX8_admitsBranchIf 58 = .ok (.iload_n 1, 1) := by decide +kernel
theorem dX8_admitsBranchIf_59 : decode cX8_admitsBranchIf 59 = .ok (.isub, 1) := by decide +kernel
theorem dX8_admitsBranchIf_60 : decode cX8_admitsBranchIf 60 = .ok (.iaload, 1) := by decide +kernel
theorem dX8_admitsBranchIf_61 : decode cX8_admitsBranchIf 61 = .ok (.iastore, 1) := by decide +kernel
theorem dX8_admitsBranchIf_62 : decode cX8_admitsBranchIf 62 = .ok (.iconst 1, 1) := by decide +kernel
theorem dX8_admitsBranchIf_63 : decode cX8_admitsBranchIf 63 = .ok (.ireturn, 1) := by decide +kernel
theorem dX8_admitsTable_0 : decode cX8_admitsTable 0 = .ok (.iload_n 1, 1) := by decide +kernel
theorem dX8_admitsTable_1 : decode cX8_admitsTable 1 = .ok (.bipush 20, 2) := by decide +kernel
theorem dX8_admitsTable_3 : decode cX8_admitsTable 3 = .ok (.invokestatic 44, 3) := by decide +kernel
theorem dX8_admitsTable_6 : decode cX8_admitsTable 6 = .ok (.ifCond .eq 12, 3) := by decide +kernel
theorem dX8_admitsTable_9 : decode cX8_admitsTable 9 = .ok (.aload_n 0, 1) := by decide +kernel
theorem dX8_admitsTable_10 : decode cX8_admitsTable 10 = .ok (.iconst 1, 1) := by decide +kernel
theorem dX8_admitsTable_11 : decode cX8_admitsTable 11 = .ok (.iconst 0, 1) := by decide +kernel
theorem dX8_admitsTable_12 : decode cX8_admitsTable 12 = .ok (.invokevirtual 121, 3) := by decide +kernel
theorem dX8_admitsTable_15 : decode cX8_admitsTable 15 = .ok (.ifCond .ne 5, 3) := by decide +kernel
theorem dX8_admitsTable_18 : decode cX8_admitsTable 18 = .ok (.iconst 0, 1) := by decide +kernel
theorem dX8_admitsTable_19 : decode cX8_admitsTable 19 = .ok (.ireturn, 1) := by decide +kernel
theorem dX8_admitsTable_20 : decode cX8_admitsTable 20 = .ok (.aload_n 0, 1) := by decide +kernel
theorem dX8_admitsTable_21 : decode cX8_admitsTable 21 = .ok (.iload_n 1, 1) := by decide +kernel
theorem dX8_admitsTable_22 : decode cX8_admitsTable 22 = .ok (.iconst 1, 1) := by decide +kernel
theorem dX8_admitsTable_23 : decode cX8_admitsTable 23 = .ok (.iadd, 1) := by decide +kernel
theorem dX8_admitsTable_24 : decode cX8_admitsTable 24 = .ok (.putfield 26, 3) := by decide +kernel
theorem dX8_admitsTable_27 : decode cX8_admitsTable 27 = .ok (.aload_n 0, 1) := by decide +kernel
theorem dX8_admitsTable_28 : decode cX8_admitsTable 28 = .ok (.iconst (-1), 1) := by decide +kernel
theorem dX8_admitsTable_29 : decode cX8_admitsTable 29 = .ok (.putfield 29, 3) := by decide +kernel
theorem dX8_admitsTable_32 : decode cX8_admitsTable 32 = .ok (.iconst 1, 1) := by decide +kernel
theorem dX8_admitsTable_33 : decode cX8_admitsTable 33 = .ok (.ireturn, 1) := by decide +kernel
theorem dX8_admitsTableEntry_0 : decode cX8_admitsTableEntry 0 = .ok (.iload_n 1, 1) := by decide +kernel
theorem dX8_admitsTableEntry_1 : decode cX8_admitsTableEntry 1 = .ok (.aload_n 0, 1) := by decide +kernel
theorem dX8_admitsTableEntry_2 : decode cX8_admitsTableEntry 2 = .ok (.getfield 19, 3) := by decide +kernel
theorem dX8_admitsTableEntry_5 : decode cX8_admitsTableEntry 5 = .ok (.iconst 1, 1) := by decide +kernel
theorem dX8_admitsTableEntry_6 : decode cX8_admitsTableEntry 6 = .ok (.isub, 1) := by decide +kernel
theorem dX8_admitsTableEntry_7 : decode cX8_admitsTableEntry 7 = .ok (.invokestatic 44, 3) := by decide +kernel
theorem dX8_admitsTableEntry_10 : decode cX8_admitsTableEntry 10 = .ok (.ifCond .ne 5, 3) := by decide +kernel
theorem dX8_admitsTableEntry_13 : decode cX8_admitsTableEntry 13 = .ok (.iconst 0, 1) := by decide +kernel
theorem dX8_admitsTableEntry_14 : decode cX8_admitsTableEntry 14 = .ok (.ireturn, 1) := by decide +kernel
theorem dX8_admitsTableEntry_15 : decode cX8_admitsTableEntry 15 = .ok (.aload_n 0, 1) := by decide +kernel
theorem dX8_admitsTableEntry_16 : decode cX8_admitsTableEntry 16 = .ok (.iload_n 1, 1) := by decide +kernel
theorem dX8_admitsTableEntry_17 : decode cX8_admitsTableEntry 17 = .ok (.invokevirtual 167, 3) := by decide +kernel
theorem dX8_admitsTableEntry_20 : decode cX8_admitsTableEntry 20 = .ok (.istore_n 2, 1) := by decide +kernel
theorem dX8_admitsTableEntry_21 : decode cX8_admitsTableEntry 21 = .ok (.aload_n 0, 1) := by decide +kernel
theorem dX8_admitsTableEntry_22 : decode cX8_admitsTableEntry 22 = .ok (.iload_n 2, 1) := by decide +kernel
theorem dX8_admitsTableEntry_23 : decode cX8_admitsTableEntry 23 = .ok (.invokevirtual 127, 3) := by decide +kernel
theorem dX8_admitsTableEntry_26 : decode cX8_admitsTableEntry 26 = .ok (.ifCond .eq 19, 3) := by decide +kernel
theorem dX8_admitsTableEntry_29 : decode cX8_admitsTableEntry 29 = .ok (.aload_n 0, 1) := by decide +kernel
theorem dX8_admitsTableEntry_30 : decode cX8_admitsTableEntry 30 = .ok (.getfield 29, 3) := by decide +kernel
theorem dX8_admitsTableEntry_33 : decode cX8_admitsTableEntry 33 = .ok (.iconst (-1), 1) := by decide +kernel
theorem dX8_admitsTableEntry_34 : decode cX8_admitsTableEntry 34 = .ok (.if_icmp .eq 13, 3) := by decide +kernel
theorem dX8_admitsTableEntry_37 : decode cX8_admitsTableEntry 37 = .ok (.aload_n 0, 1) := by decide +kernel
theorem dX8_admitsTableEntry_38 : decode cX8_admitsTableEntry 38 = .ok (.getfield 29, 3) := by decide +kernel
theorem dX8_admitsTableEntry_41 : decode cX8_admitsTableEntry 41 = .ok (.iload_n 2, 1) := by decide +kernel
theorem dX8_admitsTableEntry_42 : decode cX8_admitsTableEntry 42 = .ok (.if_icmp .eq 5, 3) := by decide +kernel
theorem dX8_admitsTableEntry_45 : decode cX8_admitsTableEntry 45 = .ok (.iconst 0, 1) := by decide +kernel
theorem dX8_admitsTableEntry_46 : decode cX8_admitsTableEntry 46 = .ok (.ireturn, 1) := by decide +kernel
theorem dX8_admitsTableEntry_47 : decode cX8_admitsTableEntry 47 = .ok (.aload_n 0, 1) := by decide +kernel
theorem dX8_admitsTableEntry_48 : decode cX8_admitsTableEntry 48 = .ok (.getfield 32, 3) := by decide +kernel
theorem dX8_admitsTableEntry_51 : decode cX8_admitsTableEntry 51 = .ok (.getfield 137, 3) := by decide +kernel
theorem dX8_admitsTableEntry_54 : decode cX8_admitsTableEntry 54 = .ok (.aload_n 0, 1) := by decide +kernel
theorem dX8_admitsTableEntry_55 : decode cX8_admitsTableEntry 55 = .ok (.getfield 32, 3) := by decide +kernel
theorem dX8_admitsTableEntry_58 : decode cX8_admitsTableEntry 58 = .ok (.getfield 66, 3) := by decide +kernel
theorem dX8_admitsTableEntry_61 : decode cX8_admitsTableEntry 61 = .ok (.aload_n 0, 1) := by decide +kernel
theorem dX8_admitsTableEntry_62 : decode cX8_admitsTableEntry 62 = .ok (.getfield 9, 3) := by decide +kernel
theorem dX8_admitsTableEntry_65 : decode cX8_admitsTableEntry 65 = .ok (.aload_n 0, 1) := by decide +kernel
theorem dX8_admitsTableEntry_66 : decode cX8_admitsTableEntry 66 = .ok (.getfield 19, 3) := by decide +kernel
theorem dX8_admitsTableEntry_69 : decode cX8_admitsTableEntry 69 = .ok (.iconst 1, 1) := by decide +kernel
theorem dX8_admitsTableEntry_70 : decode cX8_admitsTableEntry 70 = .ok (.isub, 1) := by decide +kernel
theorem dX8_admitsTableEntry_71 : decode cX8_admitsTableEntry 71 = .ok (.iload_n 1, 1) := by decide +kernel
theorem dX8_admitsTableEntry_72 : decode cX8_admitsTableEntry 72 = .ok (.isub, 1) := by decide +kernel
theorem dX8_admitsTableEntry_73 : decode cX8_admitsTableEntry 73 = .ok (.iaload, 1) := by decide +kernel
theorem dX8_admitsTableEntry_74 : decode cX8_admitsTableEntry 74 = .ok (.iastore, 1) := by decide +kernel
theorem dX8_admitsTableEntry_75 : decode cX8_admitsTableEntry 75 = .ok (.aload_n 0, 1) := by decide +kernel
theorem dX8_admitsTableEntry_76 : decode cX8_admitsTableEntry 76 = .ok (.iload_n 2, 1) := by decide +kernel
theorem dX8_admitsTableEntry_77 : decode cX8_admitsTableEntry 77 = .ok (.putfield 29, 3) := by decide +kernel
theorem dX8_admitsTableEntry_80 : decode cX8_admitsTableEntry 80 = .ok (.aload_n 0, 1) := by decide +kernel
theorem dX8_admitsTableEntry_81 : decode cX8_admitsTableEntry 81 = .ok (.dup, 1) := by decide +kernel
theorem dX8_admitsTableEntry_82 : decode cX8_admitsTableEntry 82 = .ok (.getfield 26, 3) := by decide +kernel
theorem dX8_admitsTableEntry_85 : decode cX8_admitsTableEntry 85 = .ok (.iconst 1, 1) := by decide +kernel
theorem dX8_admitsTableEntry_86 : decode cX8_admitsTableEntry 86 = .ok (.isub, 1) := by decide +kernel
theorem dX8_admitsTableEntry_87 : decode cX8_admitsTableEntry 87 = .ok (.putfield 26, 3) := by decide +kernel
theorem dX8_admitsTableEntry_90 : decode cX8_admitsTableEntry 90 = .ok (.aload_n 0, 1) := by decide +kernel
theorem dX8_admitsTableEntry_91 : decode cX8_admitsTableEntry 91 = .ok (.getfield 26, 3) := by decide +kernel
theorem dX8_admitsTableEntry_94 : decode cX8_admitsTableEntry 94 = .ok (.ifCond .ne 7, 3) := by decide +kernel
theorem dX8_admitsTableEntry_97 : decode cX8_admitsTableEntry 97 = .ok (.aload_n 0, 1) := by decide +kernel
theorem dX8_admitsTableEntry_98 : decode cX8_admitsTableEntry 98 = .ok (.invokevirtual 97, 3) := by decide +kernel
theorem dX8_admitsTableEntry_101 : decode cX8_admitsTableEntry 101 = .ok (.iconst 1, 1) := by decide +kernel
theorem dX8_admitsTableEntry_102 : decode cX8_admitsTableEntry 102 = .ok (.ireturn, 1) := by decide +kernel
theorem dX8_admitsReturn_0 : decode cX8_admitsReturn 0 = .ok (.aload_n 0, 1) := by decide +kernel
theorem dX8_admitsReturn_1 : decode cX8_admitsReturn 1 = .ok (.aload_n 0, 1) := by decide +kernel
theorem dX8_admitsReturn_2 : decode cX8_admitsReturn 2 = .ok (.getfield 32, 3) := by decide +kernel
theorem dX8_admitsReturn_5 : decode cX8_admitsReturn 5 = .ok (.getfield 51, 3) := by decide +kernel
theorem dX8_admitsReturn_8 : decode cX8_admitsReturn 8 = .ok (.aload_n 0, 1) := by decide +kernel
theorem dX8_admitsReturn_9 : decode cX8_admitsReturn 9 = .ok (.getfield 32, 3) := by decide +kernel
theorem dX8_admitsReturn_12 : decode cX8_admitsReturn 12 = .ok (.getfield 41, 3) := by decide +kernel
theorem dX8_admitsReturn_15 : decode cX8_admitsReturn 15 = .ok (.iaload, 1) := by decide +kernel
theorem dX8_admitsReturn_16 : decode cX8_admitsReturn 16 = .ok (.invokevirtual 127, 3) := by decide +kernel
theorem dX8_admitsReturn_19 : decode cX8_admitsReturn 19 = .ok (.ifCond .ne 5, 3) := by decide +kernel
theorem dX8_admitsReturn_22 : decode cX8_admitsReturn 22 = .ok (.iconst 0, 1) := by decide +kernel
theorem dX8_admitsReturn_23 : decode cX8_admitsReturn 23 = .ok (.ireturn, 1) := by decide +kernel
theorem dX8_admitsReturn_24 : decode cX8_admitsReturn 24 = .ok (.aload_n 0, 1) := by decide +kernel
theorem dX8_admitsReturn_25 : decode cX8_admitsReturn 25 = .ok (.invokevirtual 97, 3) := by decide +kernel
theorem dX8_admitsReturn_28 : decode cX8_admitsReturn 28 = .ok (.iconst 1, 1) := by decide +kernel
theorem dX8_admitsReturn_29 : decode cX8_admitsReturn 29 = .ok (.ireturn, 1) := by decide +kernel
theorem dX8_admitsPlain_0 : decode cX8_admitsPlain 0 = .ok (.iload_n 1, 1) := by decide +kernel
theorem dX8_admitsPlain_1 : decode cX8_admitsPlain 1 = .ok (.bipush 32, 2) := by decide +kernel
theorem dX8_admitsPlain_3 : decode cX8_admitsPlain 3 = .ok (.if_icmp .lt 13, 3) := by decide +kernel
theorem dX8_admitsPlain_6 : decode cX8_admitsPlain 6 = .ok (.iload_n 1, 1) := by decide +kernel
theorem dX8_admitsPlain_7 : decode cX8_admitsPlain 7 = .ok (.bipush 34, 2) := by decide +kernel
theorem dX8_admitsPlain_9 : decode cX8_admitsPlain 9 = .ok (.if_icmp .gt 7, 3) := by decide +kernel
theorem dX8_admitsPlain_12 : decode cX8_admitsPlain 12 = .ok (.iconst 1, 1) := by decide +kernel
theorem dX8_admitsPlain_13 : decode cX8_admitsPlain 13 = .ok (.goto 4, 3) := by decide +kernel
theorem dX8_admitsPlain_16 : decode cX8_admitsPlain 16 = .ok (.iconst 0, 1) := by decide +kernel
theorem dX8_admitsPlain_17 : decode cX8_admitsPlain 17 = .ok (.istore_n 3, 1) := by decide +kernel
theorem dX8_admitsPlain_18 : decode cX8_admitsPlain 18 = .ok (.iload_n 1, 1) := by decide +kernel
theorem dX8_admitsPlain_19 : decode cX8_admitsPlain 19 = .ok (.bipush 35, 2) := by decide +kernel
theorem dX8_admitsPlain_21 : decode cX8_admitsPlain 21 = .ok (.if_icmp .eq 9, 3) := by decide +kernel
theorem dX8_admitsPlain_24 : decode cX8_admitsPlain 24 = .ok (.iload_n 1, 1) := by decide +kernel
theorem dX8_admitsPlain_25 : decode cX8_admitsPlain 25 = .ok (.bipush 36, 2) := by decide +kernel
theorem dX8_admitsPlain_27 : decode cX8_admitsPlain 27 = .ok (.if_icmp .ne 7, 3) := by decide +kernel
theorem dX8_admitsPlain_30 : decode cX8_admitsPlain 30 = .ok (.iconst 1, 1) := by decide +kernel
theorem dX8_admitsPlain_31 : decode cX8_admitsPlain 31 = .ok (.goto 4, 3) := by decide +kernel
theorem dX8_admitsPlain_34 : decode cX8_admitsPlain 34 = .ok (.iconst 0, 1) := by decide +kernel
theorem dX8_admitsPlain_35 : decode cX8_admitsPlain 35 = .ok (.istore 4, 2) := by decide +kernel
theorem dX8_admitsPlain_37 : decode cX8_admitsPlain 37 = .ok (.iload_n 3, 1) := by decide +kernel
theorem dX8_admitsPlain_38 : decode cX8_admitsPlain 38 = .ok (.ifCond .eq 28, 3) := by decide +kernel
theorem dX8_admitsPlain_41 : decode cX8_admitsPlain 41 = .ok (.iload_n 2, 1) := by decide +kernel
theorem dX8_admitsPlain_42 : decode cX8_admitsPlain 42 = .ok (.aload_n 0, 1) := by decide +kernel
theorem dX8_admitsPlain_43 : decode cX8_admitsPlain 43 = .ok (.getfield 32, 3) := by decide +kernel
theorem dX8_admitsPlain_46 : decode cX8_admitsPlain 46 = .ok (.aload_n 0, 1) := by decide +kernel
theorem dX8_admitsPlain_47 : decode cX8_admitsPlain 47 = .ok (.getfield 32, 3) := by decide +kernel
theorem dX8_admitsPlain_50 : decode cX8_admitsPlain 50 = .ok (.getfield 41, 3) := by decide +kernel
theorem dX8_admitsPlain_53 : decode cX8_admitsPlain 53 = .ok (.invokevirtual 171, 3) := by decide +kernel
theorem dX8_admitsPlain_56 : decode cX8_admitsPlain 56 = .ok (.iconst 1, 1) := by decide +kernel
theorem dX8_admitsPlain_57 : decode cX8_admitsPlain 57 = .ok (.isub, 1) := by decide +kernel
theorem dX8_admitsPlain_58 : decode cX8_admitsPlain 58 = .ok (.invokestatic 44, 3) := by decide +kernel
theorem dX8_admitsPlain_61 : decode cX8_admitsPlain 61 = .ok (.ifCond .ne 5, 3) := by decide +kernel
theorem dX8_admitsPlain_64 : decode cX8_admitsPlain 64 = .ok (.iconst 0, 1) := by decide +kernel
theorem dX8_admitsPlain_65 : decode cX8_admitsPlain 65 = .ok (.ireturn, 1) := by decide +kernel
theorem dX8_admitsPlain_66 : decode cX8_admitsPlain 66 = .ok (.iload 4, 2) := by decide +kernel
theorem dX8_admitsPlain_68 : decode cX8_admitsPlain 68 = .ok (.ifCond .eq 14, 3) := by decide +kernel
theorem dX8_admitsPlain_71 : decode cX8_admitsPlain 71 = .ok (.iload_n 2, 1) := by decide +kernel
theorem dX8_admitsPlain_72 : decode cX8_admitsPlain 72 = .ok (.bipush 7, 2) := by decide +kernel
theorem dX8_admitsPlain_74 : decode cX8_admitsPlain 74 = .ok (.invokestatic 44, 3) := by decide +kernel
theorem dX8_admitsPlain_77 : decode cX8_admitsPlain 77 = .ok (.ifCond .ne 5, 3) := by decide +kernel
theorem dX8_admitsPlain_80 : decode cX8_admitsPlain 80 = .ok (.iconst 0, 1) := by decide +kernel
theorem dX8_admitsPlain_81 : decode cX8_admitsPlain 81 = .ok (.ireturn, 1) := by decide +kernel
theorem dX8_admitsPlain_82 : decode cX8_admitsPlain 82 = .ok (.iload_n 1, 1) := by decide +kernel
theorem dX8_admitsPlain_83 : decode cX8_admitsPlain 83 = .ok (.invokestatic 174, 3) := by decide +kernel
theorem dX8_admitsPlain_86 : decode cX8_admitsPlain 86 = .ok (.istore 5, 2) := by decide +kernel
theorem dX8_admitsPlain_88 : decode cX8_admitsPlain 88 = .ok (.iload 5, 2) := by decide +kernel
theorem dX8_admitsPlain_90 : decode cX8_admitsPlain 90 = .ok (.iconst (-1), 1) := by decide +kernel
theorem dX8_admitsPlain_91 : decode cX8_admitsPlain 91 = .ok (.if_icmp .eq 20, 3) := by decide +kernel
theorem dX8_admitsPlain_94 : decode cX8_admitsPlain 94 = .ok (.aload_n 0, 1) := by decide +kernel
theorem dX8_admitsPlain_95 : decode cX8_admitsPlain 95 = .ok (.iload 5, 2) := by decide +kernel
theorem dX8_admitsPlain_97 : decode cX8_admitsPlain 97 = .ok (.iload_n 1, 1) := by decide +kernel
theorem dX8_admitsPlain_98 : decode cX8_admitsPlain 98 = .ok (.invokestatic 179, 3) := by decide +kernel
theorem dX8_admitsPlain_101 : decode cX8_admitsPlain 101 = .ok (.invokevirtual 121, 3) := by decide +kernel
theorem dX8_admitsPlain_104 : decode cX8_admitsPlain 104 = .ok (.ifCond .eq 7, 3) := by decide +kernel
theorem dX8_admitsPlain_107 : decode cX8_admitsPlain 107 = .ok (.iconst 1, 1) := by decide +kernel
theorem dX8_admitsPlain_108 : decode cX8_admitsPlain 108 = .ok (.goto 4, 3) := by decide +kernel
theorem dX8_admitsPlain_111 : decode cX8_admitsPlain 111 = .ok (.iconst 0, 1) := by decide +kernel
theorem dX8_admitsPlain_112 : decode cX8_admitsPlain 112 = .ok (.ireturn, 1) := by decide +kernel
theorem dX8_isIfWithoutElse_0 : decode cX8_isIfWithoutElse 0 = .ok (.iload_n 1, 1) := by decide +kernel
theorem dX8_isIfWithoutElse_1 : decode cX8_isIfWithoutElse 1 = .ok (.iconst (-1), 1) := by decide +kernel
theorem dX8_isIfWithoutElse_2 : decode cX8_isIfWithoutElse 2 = .ok (.if_icmp .eq 33, 3) := by decide +kernel
theorem dX8_isIfWithoutElse_5 : decode cX8_isIfWithoutElse 5 = .ok (.aload_n 0, 1) := by decide +kernel
theorem dX8_isIfWithoutElse_6 : decode cX8_isIfWithoutElse 6 = .ok (.getfield 32, 3) := by decide +kernel
theorem dX8_isIfWithoutElse_9 : decode cX8_isIfWithoutElse 9 = .ok (.getfield 80, 3) := by decide +kernel
theorem dX8_isIfWithoutElse_12 : decode cX8_isIfWithoutElse 12 = .ok (.iload_n 1, 1) := by decide +kernel
theorem dX8_isIfWithoutElse_13 : decode cX8_isIfWithoutElse 13 = .ok (.iaload, 1) := by decide +kernel
theorem dX8_isIfWithoutElse_14 : decode cX8_isIfWithoutElse 14 = .ok (.iconst 4, 1) := by decide +kernel
theorem dX8_isIfWithoutElse_15 : decode cX8_isIfWithoutElse 15 = .ok (.if_icmp .ne 20, 3) := by decide +kernel
theorem dX8_isIfWithoutElse_18 : decode cX8_isIfWithoutElse 18 = .ok (.aload_n 0, 1) := by decide +kernel
theorem dX8_isIfWithoutElse_19 : decode cX8_isIfWithoutElse 19 = .ok (.getfield 32, 3) := by decide +kernel
theorem dX8_isIfWithoutElse_22 : decode cX8_isIfWithoutElse 22 = .ok (.getfield 140, 3) := by decide +kernel
theorem dX8_isIfWithoutElse_25 : decode cX8_isIfWithoutElse 25 = .ok (.iload_n 1, 1) := by decide +kernel
theorem dX8_isIfWithoutElse_26 : decode cX8_isIfWithoutElse 26 = .ok (.iaload, 1) := by decide +kernel
theorem dX8_isIfWithoutElse_27 : decode cX8_isIfWithoutElse 27 = .ok (.iconst (-1), 1) := by decide +kernel
theorem dX8_isIfWithoutElse_28 : decode cX8_isIfWithoutElse 28 = .ok (.if_icmp .ne 7, 3) := by decide +kernel
theorem dX8_isIfWithoutElse_31 : decode cX8_isIfWithoutElse 31 = .ok (.iconst 1, 1) := by decide +kernel
theorem dX8_isIfWithoutElse_32 : decode cX8_isIfWithoutElse 32 = .ok (.goto 4, 3) := by decide +kernel
theorem dX8_isIfWithoutElse_35 : decode cX8_isIfWithoutElse 35 = .ok (.iconst 0, 1) := by decide +kernel
theorem dX8_isIfWithoutElse_36 : decode cX8_isIfWithoutElse 36 = .ok (.ireturn, 1) := by decide +kernel
theorem dX8_isReadyToEnd_0 : decode cX8_isReadyToEnd 0 = .ok (.aload_n 0, 1) := by decide +kernel
theorem dX8_isReadyToEnd_1 : decode cX8_isReadyToEnd 1 = .ok (.getfield 32, 3) := by decide +kernel
theorem dX8_isReadyToEnd_4 : decode cX8_isReadyToEnd 4 = .ok (.aload_n 0, 1) := by decide +kernel
theorem dX8_isReadyToEnd_5 : decode cX8_isReadyToEnd 5 = .ok (.getfield 9, 3) := by decide +kernel
theorem dX8_isReadyToEnd_8 : decode cX8_isReadyToEnd 8 = .ok (.aload_n 0, 1) := by decide +kernel
theorem dX8_isReadyToEnd_9 : decode cX8_isReadyToEnd 9 = .ok (.getfield 19, 3) := by decide +kernel
theorem dX8_isReadyToEnd_12 : decode cX8_isReadyToEnd 12 = .ok (.iconst 1, 1) := by decide +kernel
theorem dX8_isReadyToEnd_13 : decode cX8_isReadyToEnd 13 = .ok (.isub, 1) := by decide +kernel
theorem dX8_isReadyToEnd_14 : decode cX8_isReadyToEnd 14 = .ok (.iaload, 1) := by decide +kernel
theorem dX8_isReadyToEnd_15 : decode cX8_isReadyToEnd 15 = .ok (.aload_n 0, 1) := by decide +kernel
theorem dX8_isReadyToEnd_16 : decode cX8_isReadyToEnd 16 = .ok (.getfield 32, 3) := by decide +kernel
theorem dX8_isReadyToEnd_19 : decode cX8_isReadyToEnd 19 = .ok (.getfield 41, 3) := by decide +kernel
theorem dX8_isReadyToEnd_22 : decode cX8_isReadyToEnd 22 = .ok (.invokevirtual 182, 3) := by decide +kernel
theorem dX8_isReadyToEnd_25 : decode cX8_isReadyToEnd 25 = .ok (.istore_n 1, 1) := by decide +kernel
theorem dX8_isReadyToEnd_26 : decode cX8_isReadyToEnd 26 = .ok (.aload_n 0, 1) := by decide +kernel
theorem dX8_isReadyToEnd_27 : decode cX8_isReadyToEnd 27 = .ok (.getfield 23, 3) := by decide +kernel
theorem dX8_isReadyToEnd_30 : decode cX8_isReadyToEnd 30 = .ok (.aload_n 0, 1) := by decide +kernel
theorem dX8_isReadyToEnd_31 : decode cX8_isReadyToEnd 31 = .ok (.invokevirtual 89, 3) := by decide +kernel
theorem dX8_isReadyToEnd_34 : decode cX8_isReadyToEnd 34 = .ok (.isub, 1) := by decide +kernel
theorem dX8_isReadyToEnd_35 : decode cX8_isReadyToEnd 35 = .ok (.istore_n 2, 1) := by decide +kernel
theorem dX8_isReadyToEnd_36 : decode cX8_isReadyToEnd 36 = .ok (.aload_n 0, 1) := by decide +kernel
theorem dX8_isReadyToEnd_37 : decode cX8_isReadyToEnd 37 = .ok (.getfield 15, 3) := by decide +kernel
theorem dX8_isReadyToEnd_40 : decode cX8_isReadyToEnd 40 = .ok (.aload_n 0, 1) := by decide +kernel
theorem dX8_isReadyToEnd_41 : decode cX8_isReadyToEnd 41 = .ok (.getfield 19, 3) := by decide +kernel
theorem dX8_isReadyToEnd_44 : decode cX8_isReadyToEnd 44 = .ok (.iconst 1, 1) := by decide +kernel
theorem dX8_isReadyToEnd_45 : decode cX8_isReadyToEnd 45 = .ok (.isub, 1) := by decide +kernel
theorem dX8_isReadyToEnd_46 : decode cX8_isReadyToEnd 46 = .ok (.baload, 1) := by decide +kernel
theorem dX8_isReadyToEnd_47 : decode cX8_isReadyToEnd 47 = .ok (.ifCond .eq 16, 3) := by decide +kernel
theorem dX8_isReadyToEnd_50 : decode cX8_isReadyToEnd 50 = .ok (.iload_n 2, 1) := by decide +kernel
theorem dX8_isReadyToEnd_51 : decode cX8_isReadyToEnd 51 = .ok (.iload_n 1, 1) := by decide +kernel
theorem dX8_isReadyToEnd_52 : decode cX8_isReadyToEnd 52 = .ok (.if_icmp .gt 7, 3) := by decide +kernel
theorem dX8_isReadyToEnd_55 : decode cX8_isReadyToEnd 55 = .ok (.iconst 1, 1) := by decide +kernel
theorem dX8_isReadyToEnd_56 : decode cX8_isReadyToEnd 56 = .ok (.goto 17, 3) := by decide +kernel
theorem dX8_isReadyToEnd_59 : decode cX8_isReadyToEnd 59 = .ok (.iconst 0, 1) := by decide +kernel
theorem dX8_isReadyToEnd_60 : decode cX8_isReadyToEnd 60 = .ok (.goto 13, 3) := by decide +kernel
theorem dX8_isReadyToEnd_63 : decode cX8_isReadyToEnd 63 = .ok (.iload_n 2, 1) := by decide +kernel
theorem dX8_isReadyToEnd_64 : decode cX8_isReadyToEnd 64 = .ok (.iload_n 1, 1) := by decide +kernel
theorem dX8_isReadyToEnd_65 : decode cX8_isReadyToEnd 65 = .ok (.if_icmp .ne 7, 3) := by decide +kernel
theorem dX8_isReadyToEnd_68 : decode cX8_isReadyToEnd 68 = .ok (.iconst 1, 1) := by decide +kernel
theorem dX8_isReadyToEnd_69 : decode cX8_isReadyToEnd 69 = .ok (.goto 4, 3) := by decide +kernel
theorem dX8_isReadyToEnd_72 : decode cX8_isReadyToEnd 72 = .ok (.iconst 0, 1) := by decide +kernel
theorem dX8_isReadyToEnd_73 : decode cX8_isReadyToEnd 73 = .ok (.ireturn, 1) := by decide +kernel
theorem dX8_wantedBy_0 : decode cX8_wantedBy 0 = .ok (.aload_n 0, 1) := by decide +kernel
theorem dX8_wantedBy_1 : decode cX8_wantedBy 1 = .ok (.getfield 32, 3) := by decide +kernel
theorem dX8_wantedBy_4 : decode cX8_wantedBy 4 = .ok (.aload_n 0, 1) := by decide +kernel
theorem dX8_wantedBy_5 : decode cX8_wantedBy 5 = .ok (.getfield 9, 3) := by decide +kernel
theorem dX8_wantedBy_8 : decode cX8_wantedBy 8 = .ok (.aload_n 0, 1) := by decide +kernel
theorem dX8_wantedBy_9 : decode cX8_wantedBy 9 = .ok (.getfield 19, 3) := by decide +kernel
theorem dX8_wantedBy_12 : decode cX8_wantedBy 12 = .ok (.iconst 1, 1) := by decide +kernel
theorem dX8_wantedBy_13 : decode cX8_wantedBy 13 = .ok (.isub, 1) := by decide +kernel
theorem dX8_wantedBy_14 : decode cX8_wantedBy 14 = .ok (.iload_n 1, 1) := by decide +kernel
theorem dX8_wantedBy_15 : decode cX8_wantedBy 15 = .ok (.isub, 1) := by decide +kernel
theorem dX8_wantedBy_16 : decode cX8_wantedBy 16 = .ok (.iaload, 1) := by decide +kernel
theorem dX8_wantedBy_17 : decode cX8_wantedBy 17 = .ok (.aload_n 0, 1) := by decide +kernel
theorem dX8_wantedBy_18 : decode cX8_wantedBy 18 = .ok (.getfield 32, 3) := by decide +kernel
theorem dX8_wantedBy_21 : decode cX8_wantedBy 21 = .ok (.getfield 41, 3) := by decide +kernel
theorem dX8_wantedBy_24 : decode cX8_wantedBy 24 = .ok (.invokevirtual 185, 3) := by decide +kernel
theorem dX8_wantedBy_27 : decode cX8_wantedBy 27 = .ok (.ireturn, 1) := by decide +kernel
theorem dX8_height_0 : decode cX8_height 0 = .ok (.aload_n 0, 1) := by decide +kernel
theorem dX8_height_1 : decode cX8_height 1 = .ok (.getfield 9, 3) := by decide +kernel
theorem dX8_height_4 : decode cX8_height 4 = .ok (.aload_n 0, 1) := by decide +kernel
theorem dX8_height_5 : decode cX8_height 5 = .ok (.getfield 19, 3) := by decide +kernel
theorem dX8_height_8 : decode cX8_height 8 = .ok (.iconst 1, 1) := by decide +kernel
theorem dX8_height_9 : decode cX8_height 9 = .ok (.isub, 1) := by decide +kernel
theorem dX8_height_10 : decode cX8_height 10 = .ok (.iaload, 1) := by decide +kernel
theorem dX8_height_11 : decode cX8_height 11 = .ok (.istore_n 1, 1) := by decide +kernel
theorem dX8_height_12 : decode cX8_height 12 = .ok (.iload_n 1, 1) := by decide +kernel
theorem dX8_height_13 : decode cX8_height 13 = .ok (.iconst (-1), 1) := by decide +kernel
theorem dX8_height_14 : decode cX8_height 14 = .ok (.if_icmp .ne 7, 3) := by decide +kernel
theorem dX8_height_17 : decode cX8_height 17 = .ok (.iconst 0, 1) := by decide +kernel
theorem dX8_height_18 : decode cX8_height 18 = .ok (.goto 12, 3) := by decide +kernel
theorem dX8_height_21 : decode cX8_height 21 = .ok (.aload_n 0, 1) := by decide +kernel
theorem dX8_height_22 : decode cX8_height 22 = .ok (.getfield 32, 3) := by decide +kernel
theorem dX8_height_25 : decode cX8_height 25 = .ok (.getfield 135, 3) := by decide +kernel
theorem dX8_height_28 : decode cX8_height 28 = .ok (.iload_n 1, 1) := by decide +kernel
theorem dX8_height_29 : decode cX8_height 29 = .ok (.iaload, 1) := by decide +kernel
theorem dX8_height_30 : decode cX8_height 30 = .ok (.ireturn, 1) := by decide +kernel
theorem dX8_has_0 : decode cX8_has 0 = .ok (.aload_n 0, 1) := by decide +kernel
theorem dX8_has_1 : decode cX8_has 1 = .ok (.getfield 15, 3) := by decide +kernel
theorem dX8_has_4 : decode cX8_has 4 = .ok (.aload_n 0, 1) := by decide +kernel
theorem dX8_has_5 : decode cX8_has 5 = .ok (.getfield 19, 3) := by decide +kernel
theorem dX8_has_8 : decode cX8_has 8 = .ok (.iconst 1, 1) := by decide +kernel
theorem dX8_has_9 : decode cX8_has 9 = .ok (.isub, 1) := by decide +kernel
theorem dX8_has_10 : decode cX8_has 10 = .ok (.baload, 1) := by decide +kernel
theorem dX8_has_11 : decode cX8_has 11 = .ok (.ifCond .ne 16, 3) := by decide +kernel
theorem dX8_has_14 : decode cX8_has 14 = .ok (.aload_n 0, 1) := by decide +kernel
theorem dX8_has_15 : decode cX8_has 15 = .ok (.getfield 23, 3) := by decide +kernel
theorem dX8_has_18 : decode cX8_has 18 = .ok (.aload_n 0, 1) := by decide +kernel
theorem dX8_has_19 : decode cX8_has 19 = .ok (.invokevirtual 89, 3) := by decide +kernel
theorem dX8_has_22 : decode cX8_has 22 = .ok (.isub, 1) := by decide +kernel
theorem dX8_has_23 : decode cX8_has 23 = .ok (.iload_n 1, 1) := by decide +kernel
theorem dX8_has_24 : decode cX8_has 24 = .ok (.if_icmp .lt 7, 3) := by decide +kernel
theorem dX8_has_27 : decode cX8_has 27 = .ok (.iconst 1, 1) := by decide +kernel
theorem dX8_has_28 : decode cX8_has 28 = .ok (.goto 4, 3) := by decide +kernel
theorem dX8_has_31 : decode cX8_has 31 = .ok (.iconst 0, 1) := by decide +kernel
theorem dX8_has_32 : decode cX8_has 32 = .ok (.ireturn, 1) := by decide +kernel
theorem dX8_exchanges_0 : decode cX8_exchanges 0 = .ok (.aload_n 0, 1) := by decide +kernel
theorem dX8_exchanges_1 : decode cX8_exchanges 1 = .ok (.iload_n 1, 1) := by decide +kernel
theorem dX8_exchanges_2 : decode cX8_exchanges 2 = .ok (.invokevirtual 127, 3) := by decide +kernel
theorem dX8_exchanges_5 : decode cX8_exchanges 5 = .ok (.ifCond .ne 5, 3) := by decide +kernel
theorem dX8_exchanges_8 : decode cX8_exchanges 8 = .ok (.iconst 0, 1) := by decide +kernel
theorem dX8_exchanges_9 : decode cX8_exchanges 9 = .ok (.ireturn, 1) := by decide +kernel
theorem dX8_exchanges_10 : decode cX8_exchanges 10 = .ok (.aload_n 0, 1) := by decide +kernel
theorem dX8_exchanges_11 : decode cX8_exchanges 11 = .ok (.iload_n 1, 1) := by decide +kernel
theorem dX8_exchanges_12 : decode cX8_exchanges 12 = .ok (.invokevirtual 131, 3) := by decide +kernel
theorem dX8_exchanges_15 : decode cX8_exchanges 15 = .ok (.aload_n 0, 1) := by decide +kernel
theorem dX8_exchanges_16 : decode cX8_exchanges 16 = .ok (.iload_n 2, 1) := by decide +kernel
theorem dX8_exchanges_17 : decode cX8_exchanges 17 = .ok (.invokevirtual 143, 3) := by decide +kernel
theorem dX8_exchanges_20 : decode cX8_exchanges 20 = .ok (.iconst 1, 1) := by decide +kernel
theorem dX8_exchanges_21 : decode cX8_exchanges 21 = .ok (.ireturn, 1) := by decide +kernel
theorem dX8_take_0 : decode cX8_take 0 = .ok (.aload_n 0, 1) := by decide +kernel
theorem dX8_take_1 : decode cX8_take 1 = .ok (.aload_n 0, 1) := by decide +kernel
theorem dX8_take_2 : decode cX8_take 2 = .ok (.invokevirtual 89, 3) := by decide +kernel
theorem dX8_take_5 : decode cX8_take 5 = .ok (.aload_n 0, 1) := by decide +kernel
theorem dX8_take_6 : decode cX8_take 6 = .ok (.getfield 23, 3) := by decide +kernel
theorem dX8_take_9 : decode cX8_take 9 = .ok (.iload_n 1, 1) := by decide +kernel
theorem dX8_take_10 : decode cX8_take 10 = .ok (.isub, 1) := by decide +kernel
theorem dX8_take_11 : decode cX8_take 11 = .ok (.invokestatic 187, 3) := by decide +kernel
theorem dX8_take_14 : decode cX8_take 14 = .ok (.putfield 23, 3) := by decide +kernel
theorem dX8_take_17 : decode cX8_take 17 = .ok (.return_, 1) := by decide +kernel
theorem dX8_put_0 : decode cX8_put 0 = .ok (.aload_n 0, 1) := by decide +kernel
theorem dX8_put_1 : decode cX8_put 1 = .ok (.dup, 1) := by decide +kernel
theorem dX8_put_2 : decode cX8_put 2 = .ok (.getfield 23, 3) := by decide +kernel
theorem dX8_put_5 : decode cX8_put 5 = .ok (.iload_n 1, 1) := by decide +kernel
theorem dX8_put_6 : decode cX8_put 6 = .ok (.iadd, 1) := by decide +kernel
theorem dX8_put_7 : decode cX8_put 7 = .ok (.putfield 23, 3) := by decide +kernel
theorem dX8_put_10 : decode cX8_put 10 = .ok (.aload_n 0, 1) := by decide +kernel
theorem dX8_put_11 : decode cX8_put 11 = .ok (.getfield 32, 3) := by decide +kernel
theorem dX8_put_14 : decode cX8_put 14 = .ok (.getfield 57, 3) := by decide +kernel
theorem dX8_put_17 : decode cX8_put 17 = .ok (.aload_n 0, 1) := by decide +kernel
theorem dX8_put_18 : decode cX8_put 18 = .ok (.getfield 32, 3) := by decide +kernel
theorem dX8_put_21 : decode cX8_put 21 = .ok (.getfield 41, 3) := by decide +kernel
theorem dX8_put_24 : decode cX8_put 24 = .ok (.aload_n 0, 1) := by decide +kernel
theorem dX8_put_25 : decode cX8_put 25 = .ok (.getfield 32, 3) := by decide +kernel
theorem dX8_put_28 : decode cX8_put 28 = .ok (.getfield 57, 3) := by decide +kernel
theorem dX8_put_31 : decode cX8_put 31 = .ok (.aload_n 0, 1) := by decide +kernel
theorem dX8_put_32 : decode cX8_put 32 = .ok (.getfield 32, 3) := by decide +kernel
theorem dX8_put_35 : decode cX8_put 35 = .ok (.getfield 41, 3) := by decide +kernel
theorem dX8_put_38 : decode cX8_put 38 = .ok (.iaload, 1) := by decide +kernel
theorem dX8_put_39 : decode cX8_put 39 = .ok (.aload_n 0, 1) := by decide +kernel
theorem dX8_put_40 : decode cX8_put 40 = .ok (.getfield 23, 3) := by decide +kernel
theorem dX8_put_43 : decode cX8_put 43 = .ok (.invokestatic 187, 3) := by decide +kernel
theorem dX8_put_46 : decode cX8_put 46 = .ok (.iastore, 1) := by decide +kernel
theorem dX8_put_47 : decode cX8_put 47 = .ok (.return_, 1) := by decide +kernel
theorem dX8_die_0 : decode cX8_die 0 = .ok (.aload_n 0, 1) := by decide +kernel
theorem dX8_die_1 : decode cX8_die 1 = .ok (.aload_n 0, 1) := by decide +kernel
theorem dX8_die_2 : decode cX8_die 2 = .ok (.invokevirtual 89, 3) := by decide +kernel
theorem dX8_die_5 : decode cX8_die 5 = .ok (.putfield 23, 3) := by decide +kernel
theorem dX8_die_8 : decode cX8_die 8 = .ok (.aload_n 0, 1) := by decide +kernel
theorem dX8_die_9 : decode cX8_die 9 = .ok (.getfield 15, 3) := by decide +kernel
theorem dX8_die_12 : decode cX8_die 12 = .ok (.aload_n 0, 1) := by decide +kernel
theorem dX8_die_13 : decode cX8_die 13 = .ok (.getfield 19, 3) := by decide +kernel
theorem dX8_die_16 : decode cX8_die 16 = .ok (.iconst 1, 1) := by decide +kernel
theorem dX8_die_17 : decode cX8_die 17 = .ok (.isub, 1) := by decide +kernel
theorem dX8_die_18 : decode cX8_die 18 = .ok (.iconst 1, 1) := by decide +kernel
theorem dX8_die_19 : decode cX8_die 19 = .ok (.bastore, 1) := by decide +kernel
theorem dX8_die_20 : decode cX8_die 20 = .ok (.return_, 1) := by decide +kernel
theorem dX9_init_0 : decode cX9_init 0 = .ok (.aload_n 0, 1) := by decide +kernel
theorem dX9_init_1 : decode cX9_init 1 = .ok (.invokespecial 3, 3) := by decide +kernel
theorem dX9_init_4 : decode cX9_init 4 = .ok (.aload_n 0, 1) := by decide +kernel
theorem dX9_init_5 : decode cX9_init 5 = .ok (.new 9, 3) := by decide +kernel
theorem dX9_init_8 : decode cX9_init 8 = .ok (.dup, 1) := by decide +kernel
theorem dX9_init_9 : decode cX9_init 9 = .ok (.invokespecial 11, 3) := by decide +kernel
theorem dX9_init_12 : decode cX9_init 12 = .ok (.putfield 12, 3) := by decide +kernel
theorem dX9_init_15 : decode cX9_init 15 = .ok (.aload_n 0, 1) := by decide +kernel
theorem dX9_init_16 : decode cX9_init 16 = .ok (.new 16, 3) := by decide +kernel
theorem dX9_init_19 : decode cX9_init 19 = .ok (.dup, 1) := by decide +kernel
theorem dX9_init_20 : decode cX9_init 20 = .ok (.aload_n 0, 1) := by decide +kernel
theorem dX9_init_21 : decode cX9_init 21 = .ok (.getfield 12, 3) := by decide +kernel
theorem dX9_init_24 : decode cX9_init 24 = .ok (.invokespecial 18, 3) := by decide +kernel
theorem dX9_init_27 : decode cX9_init 27 = .ok (.putfield 21, 3) := by decide +kernel
theorem dX9_init_30 : decode cX9_init 30 = .ok (.aload_n 0, 1) := by decide +kernel
theorem dX9_init_31 : decode cX9_init 31 = .ok (.new 25, 3) := by decide +kernel
theorem dX9_init_34 : decode cX9_init 34 = .ok (.dup, 1) := by decide +kernel
theorem dX9_init_35 : decode cX9_init 35 = .ok (.invokespecial 27, 3) := by decide +kernel
theorem dX9_init_38 : decode cX9_init 38 = .ok (.putfield 28, 3) := by decide +kernel
theorem dX9_init_41 : decode cX9_init 41 = .ok (.aload_n 0, 1) := by decide +kernel
theorem dX9_init_42 : decode cX9_init 42 = .ok (.new 32, 3) := by decide +kernel
theorem dX9_init_45 : decode cX9_init 45 = .ok (.dup, 1) := by decide +kernel
theorem dX9_init_46 : decode cX9_init 46 = .ok (.aload_n 0, 1) := by decide +kernel
theorem dX9_init_47 : decode cX9_init 47 = .ok (.getfield 12, 3) := by decide +kernel
theorem dX9_init_50 : decode cX9_init 50 = .ok (.invokespecial 34, 3) := by decide +kernel
theorem dX9_init_53 : decode cX9_init 53 = .ok (.putfield 35, 3) := by decide +kernel
theorem dX9_init_56 : decode cX9_init 56 = .ok (.aload_n 0, 1) := by decide +kernel
theorem dX9_init_57 : decode cX9_init 57 = .ok (.new 39, 3) := by decide +kernel
theorem dX9_init_60 : decode cX9_init 60 = .ok (.dup, 1) := by decide +kernel
theorem dX9_init_61 : decode cX9_init 61 = .ok (.invokespecial 41, 3) := by decide +kernel
theorem dX9_init_64 : decode cX9_init 64 = .ok (.putfield 42, 3) := by decide +kernel
theorem dX9_init_67 : decode cX9_init 67 = .ok (.aload_n 0, 1) := by decide +kernel
theorem dX9_init_68 : decode cX9_init 68 = .ok (.new 46, 3) := by decide +kernel
theorem dX9_init_71 : decode cX9_init 71 = .ok (.dup, 1) := by decide +kernel
theorem dX9_init_72 : decode cX9_init 72 = .ok (.aload_n 0, 1) := by decide +kernel
theorem dX9_init_73 : decode cX9_init 73 = .ok (.getfield 12, 3) := by decide +kernel
theorem dX9_init_76 : decode cX9_init 76 = .ok (.aload_n 0, 1) := by decide +kernel
theorem dX9_init_77 : decode cX9_init 77 = .ok (.getfield 42, 3) := by decide +kernel
theorem dX9_init_80 : decode cX9_init 80 = .ok (.invokespecial 48, 3) := by decide +kernel
theorem dX9_init_83 : decode cX9_init 83 = .ok (.putfield 51, 3) := by decide +kernel
theorem dX9_init_86 : decode cX9_init 86 = .ok (.aload_n 0, 1) := by decide +kernel
theorem dX9_init_87 : decode cX9_init 87 = .ok (.new 55, 3) := by decide +kernel
theorem dX9_init_90 : decode cX9_init 90 = .ok (.dup, 1) := by decide +kernel
theorem dX9_init_91 : decode cX9_init 91 = .ok (.aload_n 0, 1) := by decide +kernel
theorem dX9_init_92 : decode cX9_init 92 = .ok (.getfield 12, 3) := by decide +kernel
theorem dX9_init_95 : decode cX9_init 95 = .ok (.aload_n 0, 1) := by decide +kernel
theorem dX9_init_96 : decode cX9_init 96 = .ok (.getfield 28, 3) := by decide +kernel
theorem dX9_init_99 : decode cX9_init 99 = .ok (.aload_n 0, 1) := by decide +kernel
theorem dX9_init_100 : decode cX9_init 100 = .ok (.getfield 35, 3) := by decide +kernel
theorem dX9_init_103 : decode cX9_init 103 = .ok (.invokespecial 57, 3) := by decide +kernel
theorem dX9_init_106 : decode cX9_init 106 = .ok (.putfield 60, 3) := by decide +kernel
theorem dX9_init_109 : decode cX9_init 109 = .ok (.aload_n 0, 1) := by decide +kernel
theorem dX9_init_110 : decode cX9_init 110 = .ok (.new 64, 3) := by decide +kernel
theorem dX9_init_113 : decode cX9_init 113 = .ok (.dup, 1) := by decide +kernel
theorem dX9_init_114 : decode cX9_init 114 = .ok (.aload_n 0, 1) := by decide +kernel
theorem dX9_init_115 : decode cX9_init 115 = .ok (.getfield 12, 3) := by decide +kernel
theorem dX9_init_118 : decode cX9_init 118 = .ok (.aload_n 0, 1) := by decide +kernel
theorem dX9_init_119 : decode cX9_init 119 = .ok (.getfield 42, 3) := by decide +kernel
theorem dX9_init_122 : decode cX9_init 122 = .ok (.aload_n 0, 1) := by decide +kernel
theorem dX9_init_123 : decode cX9_init 123 = .ok (.getfield 28, 3) := by decide +kernel
theorem dX9_init_126 : decode cX9_init 126 = .ok (.aload_n 0, 1) := by decide +kernel
theorem dX9_init_127 : decode cX9_init 127 = .ok (.getfield 35, 3) := by decide +kernel
theorem dX9_init_130 : decode cX9_init 130 = .ok (.invokespecial 66, 3) := by decide +kernel
theorem dX9_init_133 : decode cX9_init 133 = .ok (.putfield 69, 3) := by decide +kernel
theorem dX9_init_136 : decode cX9_init 136 = .ok (.aload_n 0, 1) := by decide +kernel
theorem dX9_init_137 : decode cX9_init 137 = .ok (.bipush 8, 2) := by decide +kernel
theorem dX9_init_139 : decode cX9_init 139 = .ok (.newarray .long, 2) := by decide +kernel
theorem dX9_init_141 : decode cX9_init 141 = .ok (.putfield 73, 3) := by decide +kernel
theorem dX9_init_144 : decode cX9_init 144 = .ok (.aload_n 0, 1) := by decide +kernel
theorem dX9_init_145 : decode cX9_init 145 = .ok (.iconst 0, 1) := by decide +kernel
theorem dX9_init_146 : decode cX9_init 146 = .ok (.putfield 77, 3) := by decide +kernel
theorem dX9_init_149 : decode cX9_init 149 = .ok (.aload_n 0, 1) := by decide +kernel
theorem dX9_init_150 : decode cX9_init 150 = .ok (.iconst 2, 1) := by decide +kernel
theorem dX9_init_151 : decode cX9_init 151 = .ok (.putfield 81, 3) := by decide +kernel
theorem dX9_init_154 : decode cX9_init 154 = .ok (.return_, 1) := by decide +kernel
theorem dX9_function_0 : decode cX9_function 0 = .ok (.aload_n 0, 1) := by decide +kernel
theorem dX9_function_1 : decode cX9_function 1 = .ok (.getfield 21, 3) := by decide +kernel
theorem dX9_function_4 : decode cX9_function 4 = .ok (.iload_n 1, 1) := by decide +kernel
theorem dX9_function_5 : decode cX9_function 5 = .ok (.iload_n 2, 1) := by decide +kernel
theorem dX9_function_6 : decode cX9_function 6 = .ok (.iload_n 3, 1) := by decide +kernel
theorem dX9_function_7 : decode cX9_function 7 = .ok (.invokevirtual 84, 3) := by decide +kernel
theorem dX9_function_10 : decode cX9_function 10 = .ok (.ireturn, 1) := by decide +kernel
theorem dX9_code_0 : decode cX9_code 0 = .ok (.aload_n 0, 1) := by decide +kernel
theorem dX9_code_1 : decode cX9_code 1 = .ok (.getfield 21, 3) := by decide +kernel
theorem dX9_code_4 : decode cX9_code 4 = .ok (.iload_n 1, 1) := by decide +kernel
theorem dX9_code_5 : decode cX9_code 5 = .ok (.iload_n 2, 1) := by decide +kernel
theorem dX9_code_6 : decode cX9_code 6 = .ok (.iload_n 3, 1) := by decide +kernel
theorem dX9_code_7 : decode cX9_code 7 = .ok (.invokevirtual 88, 3) := by decide +kernel
theorem dX9_code_10 : decode cX9_code 10 = .ok (.ireturn, 1) := by decide +kernel
theorem dX9_drop_0 : decode cX9_drop 0 = .ok (.aload_n 0, 1) := by decide +kernel
theorem dX9_drop_1 : decode cX9_drop 1 = .ok (.getfield 21, 3) := by decide +kernel
theorem dX9_drop_4 : decode cX9_drop 4 = .ok (.invokevirtual 91, 3) := by decide +kernel
theorem dX9_drop_7 : decode cX9_drop 7 = .ok (.ireturn, 1) := by decide +kernel
theorem dX9_entry_0 : decode cX9_entry 0 = .ok (.iload_n 1, 1) := by decide +kernel
theorem dX9_entry_1 : decode cX9_entry 1 = .ok (.ifCond .lt 25, 3) := by decide +kernel
theorem dX9_entry_4 : decode cX9_entry 4 = .ok (.iload_n 1, 1) := by decide +kernel
theorem dX9_entry_5 : decode cX9_entry 5 = .ok (.bipush 30, 2) := by decide +kernel
theorem dX9_entry_7 : decode cX9_entry 7 = .ok (.if_icmp .ge 19, 3) := by decide +kernel
theorem dX9_entry_10 : decode cX9_entry 10 = .ok (.iload_n 2, 1) := by decide +kernel
theorem dX9_entry_11 : decode cX9_entry 11 = .ok (.iconst (-1), 1) := by decide +kernel
theorem dX9_entry_12 : decode cX9_entry 12 = .ok (.if_icmp .eq 16, 3) := by decide +kernel
theorem dX9_entry_15 : decode cX9_entry 15 = .ok (.aload_n 0, 1) := by decide +kernel
theorem dX9_entry_16 : decode cX9_entry 16 = .ok (.getfield 12, 3) := by decide +kernel
theorem dX9_entry_19 : decode cX9_entry 19 = .ok (.iload_n 2, 1) := by decide +kernel
theorem dX9_entry_20 : decode cX9_entry 20 = .ok (.invokevirtual 95, 3) := by decide +kernel
theorem dX9_entry_23 : decode cX9_entry 23 = .ok (.ifCond .ne 5, 3) := by decide +kernel
theorem dX9_entry_26 : decode cX9_entry 26 = .ok (.iconst 0, 1) := by decide +kernel
theorem dX9_entry_27 : decode cX9_entry 27 = .ok (.ireturn, 1) := by decide +kernel
theorem dX9_entry_28 : decode cX9_entry 28 = .ok (.aload_n 0, 1) := by decide +kernel
theorem dX9_entry_29 : decode cX9_entry 29 = .ok (.getfield 28, 3) := by decide +kernel
theorem dX9_entry_32 : decode cX9_entry 32 = .ok (.getfield 99, 3) := by decide +kernel
theorem dX9_entry_35 : decode cX9_entry 35 = .ok (.iload_n 1, 1) := by decide +kernel
theorem dX9_entry_36 : decode cX9_entry 36 = .ok (.iload_n 2, 1) := by decide +kernel
theorem dX9_entry_37 : decode cX9_entry 37 = .ok (.iastore, 1) := by decide +kernel
theorem dX9_entry_38 : decode cX9_entry 38 = .ok (.iconst 1, 1) := by decide +kernel
theorem dX9_entry_39 : decode cX9_entry 39 = .ok (.ireturn, 1) := by decide +kernel
theorem dX9_argument_0 : decode cX9_argument 0 = .ok (.aload_n 0, 1) := by decide +kernel
theorem dX9_argument_1 : decode cX9_argument 1 = .ok (.getfield 77, 3) := by decide +kernel
theorem dX9_argument_4 : decode cX9_argument 4 = .ok (.bipush 8, 2) := by decide +kernel
theorem dX9_argument_6 : decode cX9_argument 6 = .ok (.if_icmp .lt 5, 3) := by decide +kernel
theorem dX9_argument_9 : decode cX9_argument 9 = .ok (.iconst (-1), 1) := by decide +kernel
theorem dX9_argument_10 : decode cX9_argument 10 = .ok (.ireturn, 1) := by decide +kernel
theorem dX9_argument_11 : decode cX9_argument 11 = .ok (.aload_n 0, 1) := by decide +kernel
theorem dX9_argument_12 : decode cX9_argument 12 = .ok (.getfield 73, 3) := by decide +kernel
theorem dX9_argument_15 : decode cX9_argument 15 = .ok (.aload_n 0, 1) := by decide +kernel
theorem dX9_argument_16 : decode cX9_argument 16 = .ok (.getfield 77, 3) := by decide +kernel
theorem dX9_argument_19 : decode cX9_argument 19 = .ok (.lload_n 1, 1) := by decide +kernel
theorem dX9_argument_20 : decode cX9_argument 20 = .ok (.lastore, 1) := by decide +kernel
theorem dX9_argument_21 : decode cX9_argument 21 = .ok (.aload_n 0, 1) := by decide +kernel
theorem dX9_argument_22 : decode cX9_argument 22 = .ok (.dup, 1) := by decide +kernel
theorem dX9_argument_23 : decode cX9_argument 23 = .ok (.getfield 77, 3) := by decide +kernel
theorem dX9_argument_26 : decode cX9_argument 26 = .ok (.iconst 1, 1) := by decide +kernel
theorem dX9_argument_27 : decode cX9_argument 27 = .ok (.iadd, 1) := by decide +kernel
theorem dX9_argument_28 : decode cX9_argument 28 = .ok (.putfield 77, 3) := by decide +kernel
theorem dX9_argument_31 : decode cX9_argument 31 = .ok (.aload_n 0, 1) := by decide +kernel
theorem dX9_argument_32 : decode cX9_argument 32 = .ok (.getfield 77, 3) := by decide +kernel
theorem dX9_argument_35 : decode cX9_argument 35 = .ok (.ireturn, 1) := by decide +kernel
theorem dX9_call_0 : decode cX9_call 0 = .ok (.aload_n 0, 1) := by decide +kernel
theorem dX9_call_1 : decode cX9_call 1 = .ok (.getfield 12, 3) := by decide +kernel
theorem dX9_call_4 : decode cX9_call 4 = .ok (.iload_n 1, 1) := by decide +kernel
theorem dX9_call_5 : decode cX9_call 5 = .ok (.invokevirtual 95, 3) := by decide +kernel
theorem dX9_call_8 : decode cX9_call 8 = .ok (.ifCond .eq 19, 3) := by decide +kernel
theorem dX9_call_11 : decode cX9_call 11 = .ok (.aload_n 0, 1) := by decide +kernel
theorem dX9_call_12 : decode cX9_call 12 = .ok (.getfield 12, 3) := by decide +kernel
theorem dX9_call_15 : decode cX9_call 15 = .ok (.getfield 103, 3) := by decide +kernel
theorem dX9_call_18 : decode cX9_call 18 = .ok (.iload_n 1, 1) := by decide +kernel
theorem dX9_call_19 : decode cX9_call 19 = .ok (.iaload, 1) := by decide +kernel
theorem dX9_call_20 : decode cX9_call 20 = .ok (.aload_n 0, 1) := by decide +kernel
theorem dX9_call_21 : decode cX9_call 21 = .ok (.getfield 77, 3) := by decide +kernel
theorem dX9_call_24 : decode cX9_call 24 = .ok (.if_icmp .eq 5, 3) := by decide +kernel
theorem dX9_call_27 : decode cX9_call 27 = .ok (.iconst 0, 1) := by decide +kernel
theorem dX9_call_28 : decode cX9_call 28 = .ok (.ireturn, 1) := by decide +kernel
theorem dX9_call_29 : decode cX9_call 29 = .ok (.aload_n 0, 1) := by decide +kernel
theorem dX9_call_30 : decode cX9_call 30 = .ok (.iconst 0, 1) := by decide +kernel
theorem dX9_call_31 : decode cX9_call 31 = .ok (.putfield 77, 3) := by decide +kernel
theorem dX9_call_34 : decode cX9_call 34 = .ok (.aload_n 0, 1) := by decide +kernel
theorem dX9_call_35 : decode cX9_call 35 = .ok (.getfield 35, 3) := by decide +kernel
theorem dX9_call_38 : decode cX9_call 38 = .ok (.iload_n 1, 1) := by decide +kernel
theorem dX9_call_39 : decode cX9_call 39 = .ok (.aload_n 0, 1) := by decide +kernel
theorem dX9_call_40 : decode cX9_call 40 = .ok (.getfield 73, 3) := by decide +kernel
theorem dX9_call_43 : decode cX9_call 43 = .ok (.invokevirtual 106, 3) := by decide +kernel
theorem dX9_call_46 : decode cX9_call 46 = .ok (.aload_n 0, 1) := by decide +kernel
theorem dX9_call_47 : decode cX9_call 47 = .ok (.invokevirtual 110, 3) := by decide +kernel
theorem dX9_call_50 : decode cX9_call 50 = .ok (.iconst 1, 1) := by decide +kernel
theorem dX9_call_51 : decode cX9_call 51 = .ok (.ireturn, 1) := by decide +kernel
theorem dX9_run_0 : decode cX9_run 0 = .ok (.iload_n 1, 1) := by decide +kernel
theorem dX9_run_1 : decode cX9_run 1 = .ok (.ifCond .lt 10, 3) := by decide +kernel
theorem dX9_run_4 : decode cX9_run 4 = .ok (.iload_n 1, 1) := by decide +kernel
theorem dX9_run_5 : decode cX9_run 5 = .ok (.sipush 2000, 3) := by decide +kernel
theorem dX9_run_8 : decode cX9_run 8 = .ok (.if_icmp .le 5, 3) := by decide +kernel
