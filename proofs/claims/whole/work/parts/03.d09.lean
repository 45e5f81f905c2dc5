theorem dX10_work_561 : decode cX10_work 561 = .ok (.land, 1) := by decide +kernel
theorem dX10_work_562 : decode cX10_work 562 = .ok (.invokevirtual 221, 3) := by decide +kernel
theorem dX10_work_565 : decode cX10_work 565 = .ok (.goto 54, 3) := by decide +kernel
theorem dX10_work_568 : decode cX10_work 568 = .ok (.aload_n 0, 1) := by decide +kernel
theorem dX10_work_569 : decode cX10_work 569 = .ok (.lload 6, 2) := by decide +kernel
theorem dX10_work_571 : decode cX10_work 571 = .ok (.lload 8, 2) := by decide +kernel
theorem dX10_work_573 : decode cX10_work 573 = .ok (.ldc2_w 268, 3) := by decide +kernel
theorem dX10_work_576 : decode cX10_work 576 = .ok (.land, 1) := by decide +kernel
theorem dX10_work_577 : decode cX10_work 577 = .ok (.l2i, 1) := by decide +kernel
theorem dX10_work_578 : decode cX10_work 578 = .ok (.lshl, 1) := by decide +kernel
theorem dX10_work_579 : decode cX10_work 579 = .ok (.ldc2_w 241, 3) := by decide +kernel
theorem dX10_work_582 : decode cX10_work 582 = .ok (.land, 1) := by decide +kernel
theorem dX10_work_583 : decode cX10_work 583 = .ok (.invokevirtual 221, 3) := by decide +kernel
theorem dX10_work_586 : decode cX10_work 586 = .ok (.goto 33, 3) := by decide +kernel
theorem dX10_work_589 : decode cX10_work 589 = .ok (.aload_n 0, 1) := by decide +kernel
theorem dX10_work_590 : decode cX10_work 590 = .ok (.lload 4, 2) := by decide +kernel
theorem dX10_work_592 : decode cX10_work 592 = .ok (.lload_n 2, 1) := by decide +kernel
theorem dX10_work_593 : decode cX10_work 593 = .ok (.ladd, 1) := by decide +kernel
theorem dX10_work_594 : decode cX10_work 594 = .ok (.invokevirtual 221, 3) := by decide +kernel
theorem dX10_work_597 : decode cX10_work 597 = .ok (.goto 22, 3) := by decide +kernel
theorem dX10_work_600 : decode cX10_work 600 = .ok (.aload_n 0, 1) := by decide +kernel
theorem dX10_work_601 : decode cX10_work 601 = .ok (.lload 4, 2) := by decide +kernel
theorem dX10_work_603 : decode cX10_work 603 = .ok (.lload_n 2, 1) := by decide +kernel
theorem dX10_work_604 : decode cX10_work 604 = .ok (.lsub, 1) := by decide +kernel
theorem dX10_work_605 : decode cX10_work 605 = .ok (.invokevirtual 221, 3) := by decide +kernel
theorem dX10_work_608 : decode cX10_work 608 = .ok (.goto 11, 3) := by decide +kernel
theorem dX10_work_611 : decode cX10_work 611 = .ok (.aload_n 0, 1) := by decide +kernel
theorem dX10_work_612 : decode cX10_work 612 = .ok (.lload 4, 2) := by decide +kernel
theorem dX10_work_614 : decode cX10_work 614 = .ok (.lload_n 2, 1) := by decide +kernel
theorem dX10_work_615 : decode cX10_work 615 = .ok (.lmul, 1) := by decide +kernel
theorem dX10_work_616 : decode cX10_work 616 = .ok (.invokevirtual 221, 3) := by decide +kernel
theorem dX10_work_619 : decode cX10_work 619 = .ok (.return_, 1) := by decide +kernel
theorem dX10_variable_0 : decode cX10_variable 0 = .ok (.aload_n 0, 1) := by decide +kernel
theorem dX10_variable_1 : decode cX10_variable 1 = .ok (.getfield 82, 3) := by decide +kernel
theorem dX10_variable_4 : decode cX10_variable 4 = .ok (.aload_n 0, 1) := by decide +kernel
theorem dX10_variable_5 : decode cX10_variable 5 = .ok (.getfield 190, 3) := by decide +kernel
theorem dX10_variable_8 : decode cX10_variable 8 = .ok (.iconst 1, 1) := by decide +kernel
theorem dX10_variable_9 : decode cX10_variable 9 = .ok (.isub, 1) := by decide +kernel
theorem dX10_variable_10 : decode cX10_variable 10 = .ok (.iaload, 1) := by decide +kernel
theorem dX10_variable_11 : decode cX10_variable 11 = .ok (.iload_n 2, 1) := by decide +kernel
theorem dX10_variable_12 : decode cX10_variable 12 = .ok (.iadd, 1) := by decide +kernel
theorem dX10_variable_13 : decode cX10_variable 13 = .ok (.istore_n 3, 1) := by decide +kernel
theorem dX10_variable_14 : decode cX10_variable 14 = .ok (.iload_n 1, 1) := by decide +kernel
theorem dX10_variable_15 : decode cX10_variable 15 = .ok (.tableswitch 88 32 35 #[29, 42, 55, 75], 29) := by decide +kernel
theorem dX10_variable_44 : decode cX10_variable 44 = .ok (.aload_n 0, 1) := by decide +kernel
theorem dX10_variable_45 : decode cX10_variable 45 = .ok (.aload_n 0, 1) := by decide +kernel
theorem dX10_variable_46 : decode cX10_variable 46 = .ok (.getfield 76, 3) := by decide +kernel
theorem dX10_variable_49 : decode cX10_variable 49 = .ok (.iload_n 3, 1) := by decide +kernel
theorem dX10_variable_50 : decode cX10_variable 50 = .ok (.laload, 1) := by decide +kernel
theorem dX10_variable_51 : decode cX10_variable 51 = .ok (.invokevirtual 221, 3) := by decide +kernel
theorem dX10_variable_54 : decode cX10_variable 54 = .ok (.goto 59, 3) := by decide +kernel
theorem dX10_variable_57 : decode cX10_variable 57 = .ok (.aload_n 0, 1) := by decide +kernel
theorem dX10_variable_58 : decode cX10_variable 58 = .ok (.getfield 76, 3) := by decide +kernel
theorem dX10_variable_61 : decode cX10_variable 61 = .ok (.iload_n 3, 1) := by decide +kernel
theorem dX10_variable_62 : decode cX10_variable 62 = .ok (.aload_n 0, 1) := by decide +kernel
theorem dX10_variable_63 : decode cX10_variable 63 = .ok (.invokevirtual 243, 3) := by decide +kernel
theorem dX10_variable_66 : decode cX10_variable 66 = .ok (.lastore, 1) := by decide +kernel
theorem dX10_variable_67 : decode cX10_variable 67 = .ok (.goto 46, 3) := by decide +kernel
theorem dX10_variable_70 : decode cX10_variable 70 = .ok (.aload_n 0, 1) := by decide +kernel
theorem dX10_variable_71 : decode cX10_variable 71 = .ok (.getfield 76, 3) := by decide +kernel
theorem dX10_variable_74 : decode cX10_variable 74 = .ok (.iload_n 3, 1) := by decide +kernel
theorem dX10_variable_75 : decode cX10_variable 75 = .ok (.aload_n 0, 1) := by decide +kernel
theorem dX10_variable_76 : decode cX10_variable 76 = .ok (.getfield 76, 3) := by decide +kernel
theorem dX10_variable_79 : decode cX10_variable 79 = .ok (.aload_n 0, 1) := by decide +kernel
theorem dX10_variable_80 : decode cX10_variable 80 = .ok (.getfield 199, 3) := by decide +kernel
theorem dX10_variable_83 : decode cX10_variable 83 = .ok (.iconst 1, 1) := by decide +kernel
theorem dX10_variable_84 : decode cX10_variable 84 = .ok (.isub, 1) := by decide +kernel
theorem dX10_variable_85 : decode cX10_variable 85 = .ok (.laload, 1) := by decide +kernel
theorem dX10_variable_86 : decode cX10_variable 86 = .ok (.lastore, 1) := by decide +kernel
theorem dX10_variable_87 : decode cX10_variable 87 = .ok (.goto 26, 3) := by decide +kernel
theorem dX10_variable_90 : decode cX10_variable 90 = .ok (.aload_n 0, 1) := by decide +kernel
theorem dX10_variable_91 : decode cX10_variable 91 = .ok (.aload_n 0, 1) := by decide +kernel
theorem dX10_variable_92 : decode cX10_variable 92 = .ok (.getfield 62, 3) := by decide +kernel
theorem dX10_variable_95 : decode cX10_variable 95 = .ok (.iload_n 2, 1) := by decide +kernel
theorem dX10_variable_96 : decode cX10_variable 96 = .ok (.laload, 1) := by decide +kernel
theorem dX10_variable_97 : decode cX10_variable 97 = .ok (.invokevirtual 221, 3) := by decide +kernel
theorem dX10_variable_100 : decode cX10_variable 100 = .ok (.goto 13, 3) := by decide +kernel
theorem dX10_variable_103 : decode cX10_variable 103 = .ok (.aload_n 0, 1) := by decide +kernel
theorem dX10_variable_104 : decode cX10_variable 104 = .ok (.getfield 62, 3) := by decide +kernel
theorem dX10_variable_107 : decode cX10_variable 107 = .ok (.iload_n 2, 1) := by decide +kernel
theorem dX10_variable_108 : decode cX10_variable 108 = .ok (.aload_n 0, 1) := by decide +kernel
theorem dX10_variable_109 : decode cX10_variable 109 = .ok (.invokevirtual 243, 3) := by decide +kernel
theorem dX10_variable_112 : decode cX10_variable 112 = .ok (.lastore, 1) := by decide +kernel
theorem dX10_variable_113 : decode cX10_variable 113 = .ok (.return_, 1) := by decide +kernel
theorem dX10_simple_0 : decode cX10_simple 0 = .ok (.iload_n 1, 1) := by decide +kernel
theorem dX10_simple_1 : decode cX10_simple 1 = .ok (.bipush 26, 2) := by decide +kernel
theorem dX10_simple_3 : decode cX10_simple 3 = .ok (.if_icmp .ne 11, 3) := by decide +kernel
theorem dX10_simple_6 : decode cX10_simple 6 = .ok (.aload_n 0, 1) := by decide +kernel
theorem dX10_simple_7 : decode cX10_simple 7 = .ok (.invokevirtual 243, 3) := by decide +kernel
theorem dX10_simple_10 : decode cX10_simple 10 = .ok (.pop2, 1) := by decide +kernel
theorem dX10_simple_11 : decode cX10_simple 11 = .ok (.goto 144, 3) := by decide +kernel
theorem dX10_simple_14 : decode cX10_simple 14 = .ok (.iload_n 1, 1) := by decide +kernel
theorem dX10_simple_15 : decode cX10_simple 15 = .ok (.bipush 27, 2) := by decide +kernel
theorem dX10_simple_17 : decode cX10_simple 17 = .ok (.if_icmp .ne 10, 3) := by decide +kernel
theorem dX10_simple_20 : decode cX10_simple 20 = .ok (.aload_n 0, 1) := by decide +kernel
theorem dX10_simple_21 : decode cX10_simple 21 = .ok (.invokevirtual 270, 3) := by decide +kernel
theorem dX10_simple_24 : decode cX10_simple 24 = .ok (.goto 131, 3) := by decide +kernel
theorem dX10_simple_27 : decode cX10_simple 27 = .ok (.iload_n 1, 1) := by decide +kernel
theorem dX10_simple_28 : decode cX10_simple 28 = .ok (.bipush 31, 2) := by decide +kernel
theorem dX10_simple_30 : decode cX10_simple 30 = .ok (.if_icmp .le 18, 3) := by decide +kernel
theorem dX10_simple_33 : decode cX10_simple 33 = .ok (.iload_n 1, 1) := by decide +kernel
theorem dX10_simple_34 : decode cX10_simple 34 = .ok (.bipush 37, 2) := by decide +kernel
theorem dX10_simple_36 : decode cX10_simple 36 = .ok (.if_icmp .ge 12, 3) := by decide +kernel
theorem dX10_simple_39 : decode cX10_simple 39 = .ok (.aload_n 0, 1) := by decide +kernel
theorem dX10_simple_40 : decode cX10_simple 40 = .ok (.iload_n 1, 1) := by decide +kernel
theorem dX10_simple_41 : decode cX10_simple 41 = .ok (.iload_n 2, 1) := by decide +kernel
theorem dX10_simple_42 : decode cX10_simple 42 = .ok (.invokevirtual 273, 3) := by decide +kernel
theorem dX10_simple_45 : decode cX10_simple 45 = .ok (.goto 110, 3) := by decide +kernel
theorem dX10_simple_48 : decode cX10_simple 48 = .ok (.iload_n 1, 1) := by decide +kernel
theorem dX10_simple_49 : decode cX10_simple 49 = .ok (.bipush 39, 2) := by decide +kernel
theorem dX10_simple_51 : decode cX10_simple 51 = .ok (.if_icmp .le 18, 3) := by decide +kernel
theorem dX10_simple_54 : decode cX10_simple 54 = .ok (.iload_n 1, 1) := by decide +kernel
theorem dX10_simple_55 : decode cX10_simple 55 = .ok (.bipush 63, 2) := by decide +kernel
theorem dX10_simple_57 : decode cX10_simple 57 = .ok (.if_icmp .ge 12, 3) := by decide +kernel
theorem dX10_simple_60 : decode cX10_simple 60 = .ok (.aload_n 0, 1) := by decide +kernel
theorem dX10_simple_61 : decode cX10_simple 61 = .ok (.iload_n 1, 1) := by decide +kernel
theorem dX10_simple_62 : decode cX10_simple 62 = .ok (.iload_n 2, 1) := by decide +kernel
theorem dX10_simple_63 : decode cX10_simple 63 = .ok (.invokevirtual 276, 3) := by decide +kernel
theorem dX10_simple_66 : decode cX10_simple 66 = .ok (.goto 89, 3) := by decide +kernel
theorem dX10_simple_69 : decode cX10_simple 69 = .ok (.iload_n 1, 1) := by decide +kernel
theorem dX10_simple_70 : decode cX10_simple 70 = .ok (.bipush 63, 2) := by decide +kernel
theorem dX10_simple_72 : decode cX10_simple 72 = .ok (.if_icmp .ne 15, 3) := by decide +kernel
theorem dX10_simple_75 : decode cX10_simple 75 = .ok (.aload_n 0, 1) := by decide +kernel
theorem dX10_simple_76 : decode cX10_simple 76 = .ok (.aload_n 0, 1) := by decide +kernel
theorem dX10_simple_77 : decode cX10_simple 77 = .ok (.getfield 69, 3) := by decide +kernel
theorem dX10_simple_80 : decode cX10_simple 80 = .ok (.i2l, 1) := by decide +kernel
theorem dX10_simple_81 : decode cX10_simple 81 = .ok (.invokevirtual 221, 3) := by decide +kernel
theorem dX10_simple_84 : decode cX10_simple 84 = .ok (.goto 71, 3) := by decide +kernel
theorem dX10_simple_87 : decode cX10_simple 87 = .ok (.iload_n 1, 1) := by decide +kernel
theorem dX10_simple_88 : decode cX10_simple 88 = .ok (.bipush 64, 2) := by decide +kernel
theorem dX10_simple_90 : decode cX10_simple 90 = .ok (.if_icmp .ne 10, 3) := by decide +kernel
theorem dX10_simple_93 : decode cX10_simple 93 = .ok (.aload_n 0, 1) := by decide +kernel
theorem dX10_simple_94 : decode cX10_simple 94 = .ok (.invokevirtual 279, 3) := by decide +kernel
theorem dX10_simple_97 : decode cX10_simple 97 = .ok (.goto 58, 3) := by decide +kernel
theorem dX10_simple_100 : decode cX10_simple 100 = .ok (.iload_n 1, 1) := by decide +kernel
theorem dX10_simple_101 : decode cX10_simple 101 = .ok (.bipush 65, 2) := by decide +kernel
theorem dX10_simple_103 : decode cX10_simple 103 = .ok (.if_icmp .ne 16, 3) := by decide +kernel
theorem dX10_simple_106 : decode cX10_simple 106 = .ok (.aload_n 0, 1) := by decide +kernel
theorem dX10_simple_107 : decode cX10_simple 107 = .ok (.iload_n 2, 1) := by decide +kernel
theorem dX10_simple_108 : decode cX10_simple 108 = .ok (.i2l, 1) := by decide +kernel
theorem dX10_simple_109 : decode cX10_simple 109 = .ok (.ldc2_w 241, 3) := by decide +kernel
theorem dX10_simple_112 : decode cX10_simple 112 = .ok (.land, 1) := by decide +kernel
theorem dX10_simple_113 : decode cX10_simple 113 = .ok (.invokevirtual 221, 3) := by decide +kernel
theorem dX10_simple_116 : decode cX10_simple 116 = .ok (.goto 39, 3) := by decide +kernel
theorem dX10_simple_119 : decode cX10_simple 119 = .ok (.iload_n 1, 1) := by decide +kernel
theorem dX10_simple_120 : decode cX10_simple 120 = .ok (.bipush 66, 2) := by decide +kernel
theorem dX10_simple_122 : decode cX10_simple 122 = .ok (.if_icmp .ne 22, 3) := by decide +kernel
theorem dX10_simple_125 : decode cX10_simple 125 = .ok (.aload_n 0, 1) := by decide +kernel
theorem dX10_simple_126 : decode cX10_simple 126 = .ok (.iload_n 3, 1) := by decide +kernel
theorem dX10_simple_127 : decode cX10_simple 127 = .ok (.i2l, 1) := by decide +kernel
theorem dX10_simple_128 : decode cX10_simple 128 = .ok (.bipush 32, 2) := by decide +kernel
theorem dX10_simple_130 : decode cX10_simple 130 = .ok (.lshl, 1) := by decide +kernel
theorem dX10_simple_131 : decode cX10_simple 131 = .ok (.iload_n 2, 1) := by decide +kernel
theorem dX10_simple_132 : decode cX10_simple 132 = .ok (.i2l, 1) := by decide +kernel
theorem dX10_simple_133 : decode cX10_simple 133 = .ok (.ldc2_w 241, 3) := by decide +kernel
theorem dX10_simple_136 : decode cX10_simple 136 = .ok (.land, 1) := by decide +kernel
theorem dX10_simple_137 : decode cX10_simple 137 = .ok (.lor, 1) := by decide +kernel
theorem dX10_simple_138 : decode cX10_simple 138 = .ok (.invokevirtual 221, 3) := by decide +kernel
theorem dX10_simple_141 : decode cX10_simple 141 = .ok (.goto 14, 3) := by decide +kernel
theorem dX10_simple_144 : decode cX10_simple 144 = .ok (.iload_n 1, 1) := by decide +kernel
theorem dX10_simple_145 : decode cX10_simple 145 = .ok (.bipush 68, 2) := by decide +kernel
theorem dX10_simple_147 : decode cX10_simple 147 = .ok (.if_icmp .le 8, 3) := by decide +kernel
theorem dX10_simple_150 : decode cX10_simple 150 = .ok (.aload_n 0, 1) := by decide +kernel
theorem dX10_simple_151 : decode cX10_simple 151 = .ok (.iload_n 1, 1) := by decide +kernel
theorem dX10_simple_152 : decode cX10_simple 152 = .ok (.invokevirtual 282, 3) := by decide +kernel
theorem dX10_simple_155 : decode cX10_simple 155 = .ok (.aload_n 0, 1) := by decide +kernel
theorem dX10_simple_156 : decode cX10_simple 156 = .ok (.dup, 1) := by decide +kernel
theorem dX10_simple_157 : decode cX10_simple 157 = .ok (.getfield 212, 3) := by decide +kernel
theorem dX10_simple_160 : decode cX10_simple 160 = .ok (.iconst 1, 1) := by decide +kernel
theorem dX10_simple_161 : decode cX10_simple 161 = .ok (.iadd, 1) := by decide +kernel
theorem dX10_simple_162 : decode cX10_simple 162 = .ok (.putfield 212, 3) := by decide +kernel
theorem dX10_simple_165 : decode cX10_simple 165 = .ok (.return_, 1) := by decide +kernel
theorem dX10_choose_0 : decode cX10_choose 0 = .ok (.aload_n 0, 1) := by decide +kernel
theorem dX10_choose_1 : decode cX10_choose 1 = .ok (.invokevirtual 243, 3) := by decide +kernel
theorem dX10_choose_4 : decode cX10_choose 4 = .ok (.invokestatic 285, 3) := by decide +kernel
theorem dX10_choose_7 : decode cX10_choose 7 = .ok (.istore_n 1, 1) := by decide +kernel
theorem dX10_choose_8 : decode cX10_choose 8 = .ok (.aload_n 0, 1) := by decide +kernel
theorem dX10_choose_9 : decode cX10_choose 9 = .ok (.invokevirtual 243, 3) := by decide +kernel
theorem dX10_choose_12 : decode cX10_choose 12 = .ok (.lstore_n 2, 1) := by decide +kernel
theorem dX10_choose_13 : decode cX10_choose 13 = .ok (.aload_n 0, 1) := by decide +kernel
theorem dX10_choose_14 : decode cX10_choose 14 = .ok (.invokevirtual 243, 3) := by decide +kernel
theorem dX10_choose_17 : decode cX10_choose 17 = .ok (.lstore 4, 2) := by decide +kernel
theorem dX10_choose_19 : decode cX10_choose 19 = .ok (.aload_n 0, 1) := by decide +kernel
theorem dX10_choose_20 : decode cX10_choose 20 = .ok (.iload_n 1, 1) := by decide +kernel
theorem dX10_choose_21 : decode cX10_choose 21 = .ok (.ifCond .eq 8, 3) := by decide +kernel
theorem dX10_choose_24 : decode cX10_choose 24 = .ok (.lload 4, 2) := by decide +kernel
theorem dX10_choose_26 : decode cX10_choose 26 = .ok (.goto 4, 3) := by decide +kernel
theorem dX10_choose_29 : decode cX10_choose 29 = .ok (.lload_n 2, 1) := by decide +kernel
theorem dX10_choose_30 : decode cX10_choose 30 = .ok (.invokevirtual 221, 3) := by decide +kernel
theorem dX10_choose_33 : decode cX10_choose 33 = .ok (.return_, 1) := by decide +kernel
theorem dX10_condition_0 : decode cX10_condition 0 = .ok (.aload_n 0, 1) := by decide +kernel
theorem dX10_condition_1 : decode cX10_condition 1 = .ok (.invokevirtual 243, 3) := by decide +kernel
theorem dX10_condition_4 : decode cX10_condition 4 = .ok (.invokestatic 285, 3) := by decide +kernel
theorem dX10_condition_7 : decode cX10_condition 7 = .ok (.istore_n 2, 1) := by decide +kernel
theorem dX10_condition_8 : decode cX10_condition 8 = .ok (.aload_n 0, 1) := by decide +kernel
theorem dX10_condition_9 : decode cX10_condition 9 = .ok (.aload_n 0, 1) := by decide +kernel
theorem dX10_condition_10 : decode cX10_condition 10 = .ok (.getfield 212, 3) := by decide +kernel
theorem dX10_condition_13 : decode cX10_condition 13 = .ok (.iconst 1, 1) := by decide +kernel
theorem dX10_condition_14 : decode cX10_condition 14 = .ok (.iadd, 1) := by decide +kernel
theorem dX10_condition_15 : decode cX10_condition 15 = .ok (.iconst 1, 1) := by decide +kernel
theorem dX10_condition_16 : decode cX10_condition 16 = .ok (.invokevirtual 225, 3) := by decide +kernel
theorem dX10_condition_19 : decode cX10_condition 19 = .ok (.istore_n 3, 1) := by decide +kernel
theorem dX10_condition_20 : decode cX10_condition 20 = .ok (.aload_n 0, 1) := by decide +kernel
theorem dX10_condition_21 : decode cX10_condition 21 = .ok (.iload_n 2, 1) := by decide +kernel
theorem dX10_condition_22 : decode cX10_condition 22 = .ok (.ifCond .eq 12, 3) := by decide +kernel
theorem dX10_condition_25 : decode cX10_condition 25 = .ok (.aload_n 0, 1) := by decide +kernel
theorem dX10_condition_26 : decode cX10_condition 26 = .ok (.getfield 212, 3) := by decide +kernel
theorem dX10_condition_29 : decode cX10_condition 29 = .ok (.iconst 1, 1) := by decide +kernel
theorem dX10_condition_30 : decode cX10_condition 30 = .ok (.iadd, 1) := by decide +kernel
theorem dX10_condition_31 : decode cX10_condition 31 = .ok (.goto 20, 3) := by decide +kernel
theorem dX10_condition_34 : decode cX10_condition 34 = .ok (.aload_n 0, 1) := by decide +kernel
theorem dX10_condition_35 : decode cX10_condition 35 = .ok (.getfield 28, 3) := by decide +kernel
theorem dX10_condition_38 : decode cX10_condition 38 = .ok (.iload_n 3, 1) := by decide +kernel
theorem dX10_condition_39 : decode cX10_condition 39 = .ok (.iaload, 1) := by decide +kernel
theorem dX10_condition_40 : decode cX10_condition 40 = .ok (.iconst 5, 1) := by decide +kernel
theorem dX10_condition_41 : decode cX10_condition 41 = .ok (.if_icmp .ne 9, 3) := by decide +kernel
theorem dX10_condition_44 : decode cX10_condition 44 = .ok (.iload_n 3, 1) := by decide +kernel
theorem dX10_condition_45 : decode cX10_condition 45 = .ok (.iconst 1, 1) := by decide +kernel
theorem dX10_condition_46 : decode cX10_condition 46 = .ok (.iadd, 1) := by decide +kernel
theorem dX10_condition_47 : decode cX10_condition 47 = .ok (.goto 4, 3) := by decide +kernel
theorem dX10_condition_50 : decode cX10_condition 50 = .ok (.iload_n 3, 1) := by decide +kernel
theorem dX10_condition_51 : decode cX10_condition 51 = .ok (.putfield 212, 3) := by decide +kernel
theorem dX10_condition_54 : decode cX10_condition 54 = .ok (.return_, 1) := by decide +kernel
theorem dX10_step_0 : decode cX10_step 0 = .ok (.aload_n 0, 1) := by decide +kernel
theorem dX10_step_1 : decode cX10_step 1 = .ok (.dup, 1) := by decide +kernel
theorem dX10_step_2 : decode cX10_step 2 = .ok (.getfield 289, 3) := by decide +kernel
theorem dX10_step_5 : decode cX10_step 5 = .ok (.iconst 1, 1) := by decide +kernel
theorem dX10_step_6 : decode cX10_step 6 = .ok (.iadd, 1) := by decide +kernel
theorem dX10_step_7 : decode cX10_step 7 = .ok (.putfield 289, 3) := by decide +kernel
theorem dX10_step_10 : decode cX10_step 10 = .ok (.aload_n 0, 1) := by decide +kernel
theorem dX10_step_11 : decode cX10_step 11 = .ok (.getfield 28, 3) := by decide +kernel
theorem dX10_step_14 : decode cX10_step 14 = .ok (.aload_n 0, 1) := by decide +kernel
theorem dX10_step_15 : decode cX10_step 15 = .ok (.getfield 212, 3) := by decide +kernel
theorem dX10_step_18 : decode cX10_step 18 = .ok (.iaload, 1) := by decide +kernel
theorem dX10_step_19 : decode cX10_step 19 = .ok (.istore_n 1, 1) := by decide +kernel
theorem dX10_step_20 : decode cX10_step 20 = .ok (.aload_n 0, 1) := by decide +kernel
theorem dX10_step_21 : decode cX10_step 21 = .ok (.getfield 31, 3) := by decide +kernel
theorem dX10_step_24 : decode cX10_step 24 = .ok (.aload_n 0, 1) := by decide +kernel
theorem dX10_step_25 : decode cX10_step 25 = .ok (.getfield 212, 3) := by decide +kernel
theorem dX10_step_28 : decode cX10_step 28 = .ok (.iaload, 1) := by decide +kernel
theorem dX10_step_29 : decode cX10_step 29 = .ok (.istore_n 2, 1) := by decide +kernel
theorem dX10_step_30 : decode cX10_step 30 = .ok (.aload_n 0, 1) := by decide +kernel
theorem dX10_step_31 : decode cX10_step 31 = .ok (.getfield 34, 3) := by decide +kernel
theorem dX10_step_34 : decode cX10_step 34 = .ok (.aload_n 0, 1) := by decide +kernel
theorem dX10_step_35 : decode cX10_step 35 = .ok (.getfield 212, 3) := by decide +kernel
theorem dX10_step_38 : decode cX10_step 38 = .ok (.iaload, 1) := by decide +kernel
theorem dX10_step_39 : decode cX10_step 39 = .ok (.istore_n 3, 1) := by decide +kernel
theorem dX10_step_40 : decode cX10_step 40 = .ok (.iload_n 1, 1) := by decide +kernel
theorem dX10_step_41 : decode cX10_step 41 = .ok (.tableswitch 214 0 17 #[87, 214, 214, 214, 95, 214, 214, 214, 214, 214, 214, 214, 103, 111, 142, 186, 197, 205], 87) := by decide +kernel
theorem dX10_step_128 : decode cX10_step 128 = .ok (.aload_n 0, 1) := by decide +kernel
theorem dX10_step_129 : decode cX10_step 129 = .ok (.iconst 1, 1) := by decide +kernel
theorem dX10_step_130 : decode cX10_step 130 = .ok (.invokevirtual 249, 3) := by decide +kernel
theorem dX10_step_133 : decode cX10_step 133 = .ok (.goto 129, 3) := by decide +kernel
theorem dX10_step_136 : decode cX10_step 136 = .ok (.aload_n 0, 1) := by decide +kernel
theorem dX10_step_137 : decode cX10_step 137 = .ok (.iload_n 2, 1) := by decide +kernel
theorem dX10_step_138 : decode cX10_step 138 = .ok (.invokevirtual 292, 3) := by decide +kernel
theorem dX10_step_141 : decode cX10_step 141 = .ok (.goto 121, 3) := by decide +kernel
theorem dX10_step_144 : decode cX10_step 144 = .ok (.aload_n 0, 1) := by decide +kernel
theorem dX10_step_145 : decode cX10_step 145 = .ok (.iload_n 2, 1) := by decide +kernel
theorem dX10_step_146 : decode cX10_step 146 = .ok (.invokevirtual 295, 3) := by decide +kernel
theorem dX10_step_149 : decode cX10_step 149 = .ok (.goto 113, 3) := by decide +kernel
theorem dX10_step_152 : decode cX10_step 152 = .ok (.aload_n 0, 1) := by decide +kernel
theorem dX10_step_153 : decode cX10_step 153 = .ok (.invokevirtual 243, 3) := by decide +kernel
theorem dX10_step_156 : decode cX10_step 156 = .ok (.invokestatic 285, 3) := by decide +kernel
theorem dX10_step_159 : decode cX10_step 159 = .ok (.ifCond .eq 11, 3) := by decide +kernel
theorem dX10_step_162 : decode cX10_step 162 = .ok (.aload_n 0, 1) := by decide +kernel
theorem dX10_step_163 : decode cX10_step 163 = .ok (.iload_n 2, 1) := by decide +kernel
theorem dX10_step_164 : decode cX10_step 164 = .ok (.invokevirtual 295, 3) := by decide +kernel
theorem dX10_step_167 : decode cX10_step 167 = .ok (.goto 95, 3) := by decide +kernel
theorem dX10_step_170 : decode cX10_step 170 = .ok (.aload_n 0, 1) := by decide +kernel
theorem dX10_step_171 : decode cX10_step 171 = .ok (.dup, 1) := by decide +kernel
theorem dX10_step_172 : decode cX10_step 172 = .ok (.getfield 212, 3) := by decide +kernel
theorem dX10_step_175 : decode cX10_step 175 = .ok (.iconst 1, 1) := by decide +kernel
theorem dX10_step_176 : decode cX10_step 176 = .ok (.iadd, 1) := by decide +kernel
theorem dX10_step_177 : decode cX10_step 177 = .ok (.putfield 212, 3) := by decide +kernel
theorem dX10_step_180 : decode cX10_step 180 = .ok (.goto 82, 3) := by decide +kernel
theorem dX10_step_183 : decode cX10_step 183 = .ok (.aload_n 0, 1) := by decide +kernel
theorem dX10_step_184 : decode cX10_step 184 = .ok (.invokevirtual 243, 3) := by decide +kernel
theorem dX10_step_187 : decode cX10_step 187 = .ok (.ldc2_w 241, 3) := by decide +kernel
theorem dX10_step_190 : decode cX10_step 190 = .ok (.land, 1) := by decide +kernel
theorem dX10_step_191 : decode cX10_step 191 = .ok (.lstore 4, 2) := by decide +kernel
theorem dX10_step_193 : decode cX10_step 193 = .ok (.aload_n 0, 1) := by decide +kernel
theorem dX10_step_194 : decode cX10_step 194 = .ok (.aload_n 0, 1) := by decide +kernel
theorem dX10_step_195 : decode cX10_step 195 = .ok (.getfield 31, 3) := by decide +kernel
theorem dX10_step_198 : decode cX10_step 198 = .ok (.aload_n 0, 1) := by decide +kernel
theorem dX10_step_199 : decode cX10_step 199 = .ok (.getfield 212, 3) := by decide +kernel
theorem dX10_step_202 : decode cX10_step 202 = .ok (.iconst 1, 1) := by decide +kernel
theorem dX10_step_203 : decode cX10_step 203 = .ok (.iadd, 1) := by decide +kernel
theorem dX10_step_204 : decode cX10_step 204 = .ok (.lload 4, 2) := by decide +kernel
theorem dX10_step_206 : decode cX10_step 206 = .ok (.iload_n 2, 1) := by decide +kernel
theorem dX10_step_207 : decode cX10_step 207 = .ok (.i2l, 1) := by decide +kernel
theorem dX10_step_208 : decode cX10_step 208 = .ok (.lcmp, 1) := by decide +kernel
theorem dX10_step_209 : decode cX10_step 209 = .ok (.ifCond .ge 9, 3) := by decide +kernel
theorem dX10_step_212 : decode cX10_step 212 = .ok (.lload 4, 2) := by decide +kernel
theorem dX10_step_214 : decode cX10_step 214 = .ok (.l2i, 1) := by decide +kernel
theorem dX10_step_215 : decode cX10_step 215 = .ok (.goto 4, 3) := by decide +kernel
theorem dX10_step_218 : decode cX10_step 218 = .ok (.iload_n 2, 1) := by decide +kernel
theorem dX10_step_219 : decode cX10_step 219 = .ok (.iadd, 1) := by decide +kernel
theorem dX10_step_220 : decode cX10_step 220 = .ok (.iaload, 1) := by decide +kernel
theorem dX10_step_221 : decode cX10_step 221 = .ok (.invokevirtual 295, 3) := by decide +kernel
theorem dX10_step_224 : decode cX10_step 224 = .ok (.goto 38, 3) := by decide +kernel
theorem dX10_step_227 : decode cX10_step 227 = .ok (.aload_n 0, 1) := by decide +kernel
theorem dX10_step_228 : decode cX10_step 228 = .ok (.aload_n 0, 1) := by decide +kernel
theorem dX10_step_229 : decode cX10_step 229 = .ok (.invokevirtual 298, 3) := by decide +kernel
theorem dX10_step_232 : decode cX10_step 232 = .ok (.invokevirtual 295, 3) := by decide +kernel
theorem dX10_step_235 : decode cX10_step 235 = .ok (.goto 27, 3) := by decide +kernel
theorem dX10_step_238 : decode cX10_step 238 = .ok (.aload_n 0, 1) := by decide +kernel
theorem dX10_step_239 : decode cX10_step 239 = .ok (.iload_n 2, 1) := by decide +kernel
theorem dX10_step_240 : decode cX10_step 240 = .ok (.invokevirtual 252, 3) := by decide +kernel
theorem dX10_step_243 : decode cX10_step 243 = .ok (.goto 19, 3) := by decide +kernel
theorem dX10_step_246 : decode cX10_step 246 = .ok (.aload_n 0, 1) := by decide +kernel
theorem dX10_step_247 : decode cX10_step 247 = .ok (.iload_n 2, 1) := by decide +kernel
theorem dX10_step_248 : decode cX10_step 248 = .ok (.iload_n 3, 1) := by decide +kernel
theorem dX10_step_249 : decode cX10_step 249 = .ok (.invokevirtual 301, 3) := by decide +kernel
theorem dX10_step_252 : decode cX10_step 252 = .ok (.goto 10, 3) := by decide +kernel
theorem dX10_step_255 : decode cX10_step 255 = .ok (.aload_n 0, 1) := by decide +kernel
theorem dX10_step_256 : decode cX10_step 256 = .ok (.iload_n 1, 1) := by decide +kernel
theorem dX10_step_257 : decode cX10_step 257 = .ok (.iload_n 2, 1) := by decide +kernel
theorem dX10_step_258 : decode cX10_step 258 = .ok (.iload_n 3, 1) := by decide +kernel
theorem dX10_step_259 : decode cX10_step 259 = .ok (.invokevirtual 304, 3) := by decide +kernel
theorem dX10_step_262 : decode cX10_step 262 = .ok (.aload_n 0, 1) := by decide +kernel
theorem dX10_step_263 : decode cX10_step 263 = .ok (.invokevirtual 307, 3) := by decide +kernel
theorem dX10_step_266 : decode cX10_step 266 = .ok (.return_, 1) := by decide +kernel
theorem dX10_argument_0 : decode cX10_argument 0 = .ok (.aload_n 0, 1) := by decide +kernel
theorem dX10_argument_1 : decode cX10_argument 1 = .ok (.getfield 310, 3) := by decide +kernel
theorem dX10_argument_4 : decode cX10_argument 4 = .ok (.bipush 8, 2) := by decide +kernel
theorem dX10_argument_6 : decode cX10_argument 6 = .ok (.if_icmp .ne 5, 3) := by decide +kernel
theorem dX10_argument_9 : decode cX10_argument 9 = .ok (.iconst (-1), 1) := by decide +kernel
theorem dX10_argument_10 : decode cX10_argument 10 = .ok (.ireturn, 1) := by decide +kernel
theorem dX10_argument_11 : decode cX10_argument 11 = .ok (.aload_n 0, 1) := by decide +kernel
theorem dX10_argument_12 : decode cX10_argument 12 = .ok (.getfield 73, 3) := by decide +kernel
theorem dX10_argument_15 : decode cX10_argument 15 = .ok (.aload_n 0, 1) := by decide +kernel
theorem dX10_argument_16 : decode cX10_argument 16 = .ok (.getfield 310, 3) := by decide +kernel
theorem dX10_argument_19 : decode cX10_argument 19 = .ok (.lload_n 1, 1) := by decide +kernel
theorem dX10_argument_20 : decode cX10_argument 20 = .ok (.lastore, 1) := by decide +kernel
theorem dX10_argument_21 : decode cX10_argument 21 = .ok (.aload_n 0, 1) := by decide +kernel
theorem dX10_argument_22 : decode cX10_argument 22 = .ok (.dup, 1) := by decide +kernel
theorem dX10_argument_23 : decode cX10_argument 23 = .ok (.getfield 310, 3) := by decide +kernel
theorem dX10_argument_26 : decode cX10_argument 26 = .ok (.iconst 1, 1) := by decide +kernel
theorem dX10_argument_27 : decode cX10_argument 27 = .ok (.iadd, 1) := by decide +kernel
theorem dX10_argument_28 : decode cX10_argument 28 = .ok (.putfield 310, 3) := by decide +kernel
theorem dX10_argument_31 : decode cX10_argument 31 = .ok (.aload_n 0, 1) := by decide +kernel
theorem dX10_argument_32 : decode cX10_argument 32 = .ok (.getfield 310, 3) := by decide +kernel
theorem dX10_argument_35 : decode cX10_argument 35 = .ok (.ireturn, 1) := by decide +kernel
theorem dX10_call_0 : decode cX10_call 0 = .ok (.aload_n 0, 1) := by decide +kernel
theorem dX10_call_1 : decode cX10_call 1 = .ok (.iload_n 1, 1) := by decide +kernel
theorem dX10_call_2 : decode cX10_call 2 = .ok (.invokevirtual 187, 3) := by decide +kernel
theorem dX10_call_5 : decode cX10_call 5 = .ok (.ifCond .eq 16, 3) := by decide +kernel
theorem dX10_call_8 : decode cX10_call 8 = .ok (.aload_n 0, 1) := by decide +kernel
theorem dX10_call_9 : decode cX10_call 9 = .ok (.getfield 310, 3) := by decide +kernel
theorem dX10_call_12 : decode cX10_call 12 = .ok (.aload_n 0, 1) := by decide +kernel
theorem dX10_call_13 : decode cX10_call 13 = .ok (.getfield 16, 3) := by decide +kernel
theorem dX10_call_16 : decode cX10_call 16 = .ok (.iload_n 1, 1) := by decide +kernel
theorem dX10_call_17 : decode cX10_call 17 = .ok (.iaload, 1) := by decide +kernel
theorem dX10_call_18 : decode cX10_call 18 = .ok (.if_icmp .eq 5, 3) := by decide +kernel
theorem dX10_call_21 : decode cX10_call 21 = .ok (.iconst 0, 1) := by decide +kernel
theorem dX10_call_22 : decode cX10_call 22 = .ok (.ireturn, 1) := by decide +kernel
theorem dX10_call_23 : decode cX10_call 23 = .ok (.aload_n 0, 1) := by decide +kernel
theorem dX10_call_24 : decode cX10_call 24 = .ok (.iconst 1, 1) := by decide +kernel
theorem dX10_call_25 : decode cX10_call 25 = .ok (.putfield 215, 3) := by decide +kernel
theorem dX10_call_28 : decode cX10_call 28 = .ok (.aload_n 0, 1) := by decide +kernel
theorem dX10_call_29 : decode cX10_call 29 = .ok (.iconst 0, 1) := by decide +kernel
theorem dX10_call_30 : decode cX10_call 30 = .ok (.putfield 289, 3) := by decide +kernel
theorem dX10_call_33 : decode cX10_call 33 = .ok (.aload_n 0, 1) := by decide +kernel
theorem dX10_call_34 : decode cX10_call 34 = .ok (.iconst 0, 1) := by decide +kernel
theorem dX10_call_35 : decode cX10_call 35 = .ok (.putfield 190, 3) := by decide +kernel
theorem dX10_call_38 : decode cX10_call 38 = .ok (.aload_n 0, 1) := by decide +kernel
theorem dX10_call_39 : decode cX10_call 39 = .ok (.iconst 0, 1) := by decide +kernel
theorem dX10_call_40 : decode cX10_call 40 = .ok (.putfield 199, 3) := by decide +kernel
theorem dX10_call_43 : decode cX10_call 43 = .ok (.aload_n 0, 1) := by decide +kernel
theorem dX10_call_44 : decode cX10_call 44 = .ok (.iconst 0, 1) := by decide +kernel
theorem dX10_call_45 : decode cX10_call 45 = .ok (.putfield 206, 3) := by decide +kernel
theorem dX10_call_48 : decode cX10_call 48 = .ok (.aload_n 0, 1) := by decide +kernel
theorem dX10_call_49 : decode cX10_call 49 = .ok (.iconst 0, 1) := by decide +kernel
theorem dX10_call_50 : decode cX10_call 50 = .ok (.putfield 218, 3) := by decide +kernel
theorem dX10_call_53 : decode cX10_call 53 = .ok (.iconst 0, 1) := by decide +kernel
theorem dX10_call_54 : decode cX10_call 54 = .ok (.istore_n 2, 1) := by decide +kernel
theorem dX10_call_55 : decode cX10_call 55 = .ok (.iload_n 2, 1) := by decide +kernel
theorem dX10_call_56 : decode cX10_call 56 = .ok (.aload_n 0, 1) := by decide +kernel
theorem dX10_call_57 : decode cX10_call 57 = .ok (.getfield 310, 3) := by decide +kernel
theorem dX10_call_60 : decode cX10_call 60 = .ok (.if_icmp .ge 19, 3) := by decide +kernel
theorem dX10_call_63 : decode cX10_call 63 = .ok (.aload_n 0, 1) := by decide +kernel
theorem dX10_call_64 : decode cX10_call 64 = .ok (.aload_n 0, 1) := by decide +kernel
theorem dX10_call_65 : decode cX10_call 65 = .ok (.getfield 73, 3) := by decide +kernel
theorem dX10_call_68 : decode cX10_call 68 = .ok (.iload_n 2, 1) := by decide +kernel
theorem dX10_call_69 : decode cX10_call 69 = .ok (.laload, 1) := by decide +kernel
theorem dX10_call_70 : decode cX10_call 70 = .ok (.invokevirtual 221, 3) := by decide +kernel
theorem dX10_call_73 : decode cX10_call 73 = .ok (.iinc 2 1, 3) := by decide +kernel
theorem dX10_call_76 : decode cX10_call 76 = .ok (.goto (-21), 3) := by decide +kernel
theorem dX10_call_79 : decode cX10_call 79 = .ok (.aload_n 0, 1) := by decide +kernel
theorem dX10_call_80 : decode cX10_call 80 = .ok (.iconst 0, 1) := by decide +kernel
theorem dX10_call_81 : decode cX10_call 81 = .ok (.putfield 310, 3) := by decide +kernel
theorem dX10_call_84 : decode cX10_call 84 = .ok (.aload_n 0, 1) := by decide +kernel
theorem dX10_call_85 : decode cX10_call 85 = .ok (.iload_n 1, 1) := by decide +kernel
theorem dX10_call_86 : decode cX10_call 86 = .ok (.putfield 91, 3) := by decide +kernel
theorem dX10_call_89 : decode cX10_call 89 = .ok (.aload_n 0, 1) := by decide +kernel
theorem dX10_call_90 : decode cX10_call 90 = .ok (.iconst 0, 1) := by decide +kernel
theorem dX10_call_91 : decode cX10_call 91 = .ok (.putfield 212, 3) := by decide +kernel
theorem dX10_call_94 : decode cX10_call 94 = .ok (.aload_n 0, 1) := by decide +kernel
theorem dX10_call_95 : decode cX10_call 95 = .ok (.iload_n 1, 1) := by decide +kernel
theorem dX10_call_96 : decode cX10_call 96 = .ok (.invokevirtual 252, 3) := by decide +kernel
theorem dX10_call_99 : decode cX10_call 99 = .ok (.aload_n 0, 1) := by decide +kernel
theorem dX10_call_100 : decode cX10_call 100 = .ok (.invokevirtual 307, 3) := by decide +kernel
theorem dX10_call_103 : decode cX10_call 103 = .ok (.iconst 1, 1) := by decide +kernel
theorem dX10_call_104 : decode cX10_call 104 = .ok (.ireturn, 1) := by decide +kernel
theorem dX10_tier_0 : decode cX10_tier 0 = .ok (.iload_n 1, 1) := by decide +kernel
theorem dX10_tier_1 : decode cX10_tier 1 = .ok (.ifCond .ge 5, 3) := by decide +kernel
theorem dX10_tier_4 : decode cX10_tier 4 = .ok (.iconst (-1), 1) := by decide +kernel
theorem dX10_tier_5 : decode cX10_tier 5 = .ok (.ireturn, 1) := by decide +kernel
theorem dX10_tier_6 : decode cX10_tier 6 = .ok (.aload_n 0, 1) := by decide +kernel
theorem dX10_tier_7 : decode cX10_tier 7 = .ok (.getfield 88, 3) := by decide +kernel
theorem dX10_tier_10 : decode cX10_tier 10 = .ok (.istore_n 2, 1) := by decide +kernel
theorem dX10_tier_11 : decode cX10_tier 11 = .ok (.aload_n 0, 1) := by decide +kernel
theorem dX10_tier_12 : decode cX10_tier 12 = .ok (.iload_n 1, 1) := by decide +kernel
theorem dX10_tier_13 : decode cX10_tier 13 = .ok (.putfield 88, 3) := by decide +kernel
theorem dX10_tier_16 : decode cX10_tier 16 = .ok (.iload_n 2, 1) := by decide +kernel
theorem dX10_tier_17 : decode cX10_tier 17 = .ok (.ireturn, 1) := by decide +kernel
theorem dX10_compiledOnes_0 : decode cX10_compiledOnes 0 = .ok (.iconst 0, 1) := by decide +kernel
theorem dX10_compiledOnes_1 : decode cX10_compiledOnes 1 = .ok (.istore_n 1, 1) := by decide +kernel
theorem dX10_compiledOnes_2 : decode cX10_compiledOnes 2 = .ok (.iconst 0, 1) := by decide +kernel
theorem dX10_compiledOnes_3 : decode cX10_compiledOnes 3 = .ok (.istore_n 2, 1) := by decide +kernel
theorem dX10_compiledOnes_4 : decode cX10_compiledOnes 4 = .ok (.iload_n 2, 1) := by decide +kernel
theorem dX10_compiledOnes_5 : decode cX10_compiledOnes 5 = .ok (.aload_n 0, 1) := by decide +kernel
theorem dX10_compiledOnes_6 : decode cX10_compiledOnes 6 = .ok (.getfield 107, 3) := by decide +kernel
theorem dX10_compiledOnes_9 : decode cX10_compiledOnes 9 = .ok (.if_icmp .ge 26, 3) := by decide +kernel
theorem dX10_compiledOnes_12 : decode cX10_compiledOnes 12 = .ok (.iload_n 1, 1) := by decide +kernel
theorem dX10_compiledOnes_13 : decode cX10_compiledOnes 13 = .ok (.aload_n 0, 1) := by decide +kernel
theorem dX10_compiledOnes_14 : decode cX10_compiledOnes 14 = .ok (.getfield 97, 3) := by decide +kernel
theorem dX10_compiledOnes_17 : decode cX10_compiledOnes 17 = .ok (.iload_n 2, 1) := by decide +kernel
theorem dX10_compiledOnes_18 : decode cX10_compiledOnes 18 = .ok (.baload, 1) := by decide +kernel
theorem dX10_compiledOnes_19 : decode cX10_compiledOnes 19 = .ok (.ifCond .eq 7, 3) := by decide +kernel
theorem dX10_compiledOnes_22 : decode cX10_compiledOnes 22 = .ok (.iconst 1, 1) := by decide +kernel
theorem dX10_compiledOnes_23 : decode cX10_compiledOnes 23 = .ok (.goto 4, 3) := by decide +kernel
theorem dX10_compiledOnes_26 : decode cX10_compiledOnes 26 = .ok (.iconst 0, 1) := by decide +kernel
theorem dX10_compiledOnes_27 : decode cX10_compiledOnes 27 = .ok (.iadd, 1) := by decide +kernel
theorem dX10_compiledOnes_28 : decode cX10_compiledOnes 28 = .ok (.istore_n 1, 1) := by decide +kernel
theorem dX10_compiledOnes_29 : decode cX10_compiledOnes 29 = .ok (.iinc 2 1, 3) := by decide +kernel
theorem dX10_compiledOnes_32 : decode cX10_compiledOnes 32 = .ok (.goto (-28), 3) := by decide +kernel
theorem dX10_compiledOnes_35 : decode cX10_compiledOnes 35 = .ok (.iload_n 1, 1) := by decide +kernel
theorem dX10_compiledOnes_36 : decode cX10_compiledOnes 36 = .ok (.ireturn, 1) := by decide +kernel
theorem dX10_run_0 : decode cX10_run 0 = .ok (.iload_n 1, 1) := by decide +kernel
theorem dX10_run_1 : decode cX10_run 1 = .ok (.sipush 2000, 3) := by decide +kernel
theorem dX10_run_4 : decode cX10_run 4 = .ok (.invokestatic 110, 3) := by decide +kernel
theorem dX10_run_7 : decode cX10_run 7 = .ok (.ifCond .ne 5, 3) := by decide +kernel
theorem dX10_run_10 : decode cX10_run 10 = .ok (.iconst (-1), 1) := by decide +kernel
theorem dX10_run_11 : decode cX10_run 11 = .ok (.ireturn, 1) := by decide +kernel
theorem dX10_run_12 : decode cX10_run 12 = .ok (.iconst 0, 1) := by decide +kernel
theorem dX10_run_13 : decode cX10_run 13 = .ok (.istore_n 2, 1) := by decide +kernel
theorem dX10_run_14 : decode cX10_run 14 = .ok (.iload_n 2, 1) := by decide +kernel
theorem dX10_run_15 : decode cX10_run 15 = .ok (.iload_n 1, 1) := by decide +kernel
theorem dX10_run_16 : decode cX10_run 16 = .ok (.if_icmp .ge 21, 3) := by decide +kernel
theorem dX10_run_19 : decode cX10_run 19 = .ok (.aload_n 0, 1) := by decide +kernel
theorem dX10_run_20 : decode cX10_run 20 = .ok (.getfield 215, 3) := by decide +kernel
theorem dX10_run_23 : decode cX10_run 23 = .ok (.iconst 1, 1) := by decide +kernel
theorem dX10_run_24 : decode cX10_run 24 = .ok (.if_icmp .ne 13, 3) := by decide +kernel
theorem dX10_run_27 : decode cX10_run 27 = .ok (.aload_n 0, 1) := by decide +kernel
theorem dX10_run_28 : decode cX10_run 28 = .ok (.invokevirtual 313, 3) := by decide +kernel
theorem dX10_run_31 : decode cX10_run 31 = .ok (.iinc 2 1, 3) := by decide +kernel
theorem dX10_run_34 : decode cX10_run 34 = .ok (.goto (-20), 3) := by decide +kernel
theorem dX10_run_37 : decode cX10_run 37 = .ok (.iload_n 2, 1) := by decide +kernel
theorem dX10_run_38 : decode cX10_run 38 = .ok (.ireturn, 1) := by decide +kernel
theorem dX10_state_0 : decode cX10_state 0 = .ok (.iload_n 1, 1) := by decide +kernel
theorem dX10_state_1 : decode cX10_state 1 = .ok (.tableswitch 198 0 11 #[63, 68, 73, 90, 111, 116, 121, 126, 142, 163, 188, 193], 63) := by decide +kernel
theorem dX10_state_64 : decode cX10_state 64 = .ok (.aload_n 0, 1) := by decide +kernel
theorem dX10_state_65 : decode cX10_state 65 = .ok (.getfield 215, 3) := by decide +kernel
theorem dX10_state_68 : decode cX10_state 68 = .ok (.ireturn, 1) := by decide +kernel
theorem dX10_state_69 : decode cX10_state 69 = .ok (.aload_n 0, 1) := by decide +kernel
theorem dX10_state_70 : decode cX10_state 70 = .ok (.getfield 238, 3) := by decide +kernel
theorem dX10_state_73 : decode cX10_state 73 = .ok (.ireturn, 1) := by decide +kernel
theorem dX10_state_74 : decode cX10_state 74 = .ok (.aload_n 0, 1) := by decide +kernel
theorem dX10_state_75 : decode cX10_state 75 = .ok (.getfield 215, 3) := by decide +kernel
theorem dX10_state_78 : decode cX10_state 78 = .ok (.iconst 1, 1) := by decide +kernel
theorem dX10_state_79 : decode cX10_state 79 = .ok (.if_icmp .ne 10, 3) := by decide +kernel
theorem dX10_state_82 : decode cX10_state 82 = .ok (.aload_n 0, 1) := by decide +kernel
theorem dX10_state_83 : decode cX10_state 83 = .ok (.getfield 190, 3) := by decide +kernel
theorem dX10_state_86 : decode cX10_state 86 = .ok (.goto 4, 3) := by decide +kernel
theorem dX10_state_89 : decode cX10_state 89 = .ok (.iconst 0, 1) := by decide +kernel
theorem dX10_state_90 : decode cX10_state 90 = .ok (.ireturn, 1) := by decide +kernel
theorem dX10_state_91 : decode cX10_state 91 = .ok (.aload_n 0, 1) := by decide +kernel
theorem dX10_state_92 : decode cX10_state 92 = .ok (.getfield 91, 3) := by decide +kernel
theorem dX10_state_95 : decode cX10_state 95 = .ok (.ifCond .ge 7, 3) := by decide +kernel
theorem dX10_state_98 : decode cX10_state 98 = .ok (.iconst 0, 1) := by decide +kernel
theorem dX10_state_99 : decode cX10_state 99 = .ok (.goto 12, 3) := by decide +kernel
theorem dX10_state_102 : decode cX10_state 102 = .ok (.aload_n 0, 1) := by decide +kernel
theorem dX10_state_103 : decode cX10_state 103 = .ok (.getfield 94, 3) := by decide +kernel
theorem dX10_state_106 : decode cX10_state 106 = .ok (.aload_n 0, 1) := by decide +kernel
theorem dX10_state_107 : decode cX10_state 107 = .ok (.getfield 91, 3) := by decide +kernel
theorem dX10_state_110 : decode cX10_state 110 = .ok (.iaload, 1) := by decide +kernel
theorem dX10_state_111 : decode cX10_state 111 = .ok (.ireturn, 1) := by decide +kernel
theorem dX10_state_112 : decode cX10_state 112 = .ok (.aload_n 0, 1) := by decide +kernel
theorem dX10_state_113 : decode cX10_state 113 = .ok (.getfield 289, 3) := by decide +kernel
theorem dX10_state_116 : decode cX10_state 116 = .ok (.ireturn, 1) := by decide +kernel
theorem dX10_state_117 : decode cX10_state 117 = .ok (.aload_n 0, 1) := by decide +kernel
theorem dX10_state_118 : decode cX10_state 118 = .ok (.getfield 107, 3) := by decide +kernel
theorem dX10_state_121 : decode cX10_state 121 = .ok (.ireturn, 1) := by decide +kernel
theorem dX10_state_122 : decode cX10_state 122 = .ok (.aload_n 0, 1) := by decide +kernel
theorem dX10_state_123 : decode cX10_state 123 = .ok (.getfield 114, 3) := by decide +kernel
theorem dX10_state_126 : decode cX10_state 126 = .ok (.ireturn, 1) := by decide +kernel
theorem dX10_state_127 : decode cX10_state 127 = .ok (.aload_n 0, 1) := by decide +kernel
theorem dX10_state_128 : decode cX10_state 128 = .ok (.getfield 103, 3) := by decide +kernel
theorem dX10_state_131 : decode cX10_state 131 = .ok (.ifCond .eq 10, 3) := by decide +kernel
theorem dX10_state_134 : decode cX10_state 134 = .ok (.aload_n 0, 1) := by decide +kernel
theorem dX10_state_135 : decode cX10_state 135 = .ok (.getfield 117, 3) := by decide +kernel
theorem dX10_state_138 : decode cX10_state 138 = .ok (.goto 4, 3) := by decide +kernel
theorem dX10_state_141 : decode cX10_state 141 = .ok (.iconst 0, 1) := by decide +kernel
theorem dX10_state_142 : decode cX10_state 142 = .ok (.ireturn, 1) := by decide +kernel
theorem dX10_state_143 : decode cX10_state 143 = .ok (.aload_n 0, 1) := by decide +kernel
theorem dX10_state_144 : decode cX10_state 144 = .ok (.getfield 103, 3) := by decide +kernel
theorem dX10_state_147 : decode cX10_state 147 = .ok (.ifCond .eq 15, 3) := by decide +kernel
theorem dX10_state_150 : decode cX10_state 150 = .ok (.aload_n 0, 1) := by decide +kernel
theorem dX10_state_151 : decode cX10_state 151 = .ok (.getfield 52, 3) := by decide +kernel
theorem dX10_state_154 : decode cX10_state 154 = .ok (.aload_n 0, 1) := by decide +kernel
theorem dX10_state_155 : decode cX10_state 155 = .ok (.invokevirtual 127, 3) := by decide +kernel
theorem dX10_state_158 : decode cX10_state 158 = .ok (.iaload, 1) := by decide +kernel
theorem dX10_state_159 : decode cX10_state 159 = .ok (.goto 4, 3) := by decide +kernel
theorem dX10_state_162 : decode cX10_state 162 = .ok (.iconst 0, 1) := by decide +kernel
theorem dX10_state_163 : decode cX10_state 163 = .ok (.ireturn, 1) := by decide +kernel
theorem dX10_state_164 : decode cX10_state 164 = .ok (.aload_n 0, 1) := by decide +kernel
theorem dX10_state_165 : decode cX10_state 165 = .ok (.getfield 103, 3) := by decide +kernel
theorem dX10_state_168 : decode cX10_state 168 = .ok (.ifCond .eq 19, 3) := by decide +kernel
theorem dX10_state_171 : decode cX10_state 171 = .ok (.aload_n 0, 1) := by decide +kernel
theorem dX10_state_172 : decode cX10_state 172 = .ok (.getfield 55, 3) := by decide +kernel
theorem dX10_state_175 : decode cX10_state 175 = .ok (.aload_n 0, 1) := by decide +kernel
theorem dX10_state_176 : decode cX10_state 176 = .ok (.invokevirtual 127, 3) := by decide +kernel
theorem dX10_state_179 : decode cX10_state 179 = .ok (.baload, 1) := by decide +kernel
theorem dX10_state_180 : decode cX10_state 180 = .ok (.ifCond .eq 7, 3) := by decide +kernel
theorem dX10_state_183 : decode cX10_state 183 = .ok (.iconst 1, 1) := by decide +kernel
theorem dX10_state_184 : decode cX10_state 184 = .ok (.goto 4, 3) := by decide +kernel
theorem dX10_state_187 : decode cX10_state 187 = .ok (.iconst 0, 1) := by decide +kernel
theorem dX10_state_188 : decode cX10_state 188 = .ok (.ireturn, 1) := by decide +kernel
theorem dX10_state_189 : decode cX10_state 189 = .ok (.aload_n 0, 1) := by decide +kernel
theorem dX10_state_190 : decode cX10_state 190 = .ok (.getfield 69, 3) := by decide +kernel
theorem dX10_state_193 : decode cX10_state 193 = .ok (.ireturn, 1) := by decide +kernel
theorem dX10_state_194 : decode cX10_state 194 = .ok (.aload_n 0, 1) := by decide +kernel
theorem dX10_state_195 : decode cX10_state 195 = .ok (.invokevirtual 316, 3) := by decide +kernel
theorem dX10_state_198 : decode cX10_state 198 = .ok (.ireturn, 1) := by decide +kernel
theorem dX10_state_199 : decode cX10_state 199 = .ok (.iconst (-1), 1) := by decide +kernel
theorem dX10_state_200 : decode cX10_state 200 = .ok (.ireturn, 1) := by decide +kernel
theorem dX10_result_0 : decode cX10_result 0 = .ok (.aload_n 0, 1) := by decide +kernel
theorem dX10_result_1 : decode cX10_result 1 = .ok (.getfield 215, 3) := by decide +kernel
theorem dX10_result_4 : decode cX10_result 4 = .ok (.iconst 2, 1) := by decide +kernel
theorem dX10_result_5 : decode cX10_result 5 = .ok (.if_icmp .ne 24, 3) := by decide +kernel
theorem dX10_result_8 : decode cX10_result 8 = .ok (.iload_n 1, 1) := by decide +kernel
theorem dX10_result_9 : decode cX10_result 9 = .ok (.ifCond .lt 20, 3) := by decide +kernel
theorem dX10_result_12 : decode cX10_result 12 = .ok (.iload_n 1, 1) := by decide +kernel
theorem dX10_result_13 : decode cX10_result 13 = .ok (.aload_n 0, 1) := by decide +kernel
theorem dX10_result_14 : decode cX10_result 14 = .ok (.getfield 218, 3) := by decide +kernel
theorem dX10_result_17 : decode cX10_result 17 = .ok (.if_icmp .ge 12, 3) := by decide +kernel
theorem dX10_result_20 : decode cX10_result 20 = .ok (.aload_n 0, 1) := by decide +kernel
theorem dX10_result_21 : decode cX10_result 21 = .ok (.getfield 100, 3) := by decide +kernel
theorem dX10_result_24 : decode cX10_result 24 = .ok (.iload_n 1, 1) := by decide +kernel
theorem dX10_result_25 : decode cX10_result 25 = .ok (.laload, 1) := by decide +kernel
theorem dX10_result_26 : decode cX10_result 26 = .ok (.goto 4, 3) := by decide +kernel
theorem dX10_result_29 : decode cX10_result 29 = .ok (.lconst 0, 1) := by decide +kernel
theorem dX10_result_30 : decode cX10_result 30 = .ok (.lreturn, 1) := by decide +kernel
theorem dX10_global_0 : decode cX10_global 0 = .ok (.iload_n 1, 1) := by decide +kernel
theorem dX10_global_1 : decode cX10_global 1 = .ok (.bipush 7, 2) := by decide +kernel
theorem dX10_global_3 : decode cX10_global 3 = .ok (.invokestatic 110, 3) := by decide +kernel
theorem dX10_global_6 : decode cX10_global 6 = .ok (.ifCond .eq 12, 3) := by decide +kernel
theorem dX10_global_9 : decode cX10_global 9 = .ok (.aload_n 0, 1) := by decide +kernel
theorem dX10_global_10 : decode cX10_global 10 = .ok (.getfield 62, 3) := by decide +kernel
theorem dX10_global_13 : decode cX10_global 13 = .ok (.iload_n 1, 1) := by decide +kernel
theorem dX10_global_14 : decode cX10_global 14 = .ok (.laload, 1) := by decide +kernel
theorem dX10_global_15 : decode cX10_global 15 = .ok (.goto 4, 3) := by decide +kernel
theorem dX10_global_18 : decode cX10_global 18 = .ok (.lconst 0, 1) := by decide +kernel
theorem dX10_global_19 : decode cX10_global 19 = .ok (.lreturn, 1) := by decide +kernel
theorem dX10_memory_0 : decode cX10_memory 0 = .ok (.iload_n 1, 1) := by decide +kernel
theorem dX10_memory_1 : decode cX10_memory 1 = .ok (.ifCond .lt 14, 3) := by decide +kernel
theorem dX10_memory_4 : decode cX10_memory 4 = .ok (.iload_n 1, 1) := by decide +kernel
theorem dX10_memory_5 : decode cX10_memory 5 = .ok (.bipush 64, 2) := by decide +kernel
theorem dX10_memory_7 : decode cX10_memory 7 = .ok (.aload_n 0, 1) := by decide +kernel
theorem dX10_memory_8 : decode cX10_memory 8 = .ok (.getfield 69, 3) := by decide +kernel
theorem dX10_memory_11 : decode cX10_memory 11 = .ok (.imul, 1) := by decide +kernel
theorem dX10_memory_12 : decode cX10_memory 12 = .ok (.if_icmp .lt 7, 3) := by decide +kernel
theorem dX10_memory_15 : decode cX10_memory 15 = .ok (.iconst (-1), 1) := by decide +kernel
theorem dX10_memory_16 : decode cX10_memory 16 = .ok (.goto 9, 3) := by decide +kernel
theorem dX10_memory_19 : decode cX10_memory 19 = .ok (.aload_n 0, 1) := by decide +kernel
theorem dX10_memory_20 : decode cX10_memory 20 = .ok (.getfield 66, 3) := by decide +kernel
theorem dX10_memory_23 : decode cX10_memory 23 = .ok (.iload_n 1, 1) := by decide +kernel
theorem dX10_memory_24 : decode cX10_memory 24 = .ok (.iaload, 1) := by decide +kernel
theorem dX10_memory_25 : decode cX10_memory 25 = .ok (.ireturn, 1) := by decide +kernel
theorem dX10_look_0 : decode cX10_look 0 = .ok (.aload_n 0, 1) := by decide +kernel
theorem dX10_look_1 : decode cX10_look 1 = .ok (.iload_n 1, 1) := by decide +kernel
theorem dX10_look_2 : decode cX10_look 2 = .ok (.invokevirtual 187, 3) := by decide +kernel
theorem dX10_look_5 : decode cX10_look 5 = .ok (.ifCond .ne 5, 3) := by decide +kernel
theorem dX10_look_8 : decode cX10_look 8 = .ok (.iconst (-1), 1) := by decide +kernel
theorem dX10_look_9 : decode cX10_look 9 = .ok (.ireturn, 1) := by decide +kernel
theorem dX10_look_10 : decode cX10_look 10 = .ok (.iload_n 2, 1) := by decide +kernel
theorem dX10_look_11 : decode cX10_look 11 = .ok (.ifCond .ne 12, 3) := by decide +kernel
theorem dX10_look_14 : decode cX10_look 14 = .ok (.aload_n 0, 1) := by decide +kernel
theorem dX10_look_15 : decode cX10_look 15 = .ok (.getfield 16, 3) := by decide +kernel
theorem dX10_look_18 : decode cX10_look 18 = .ok (.iload_n 1, 1) := by decide +kernel
theorem dX10_look_19 : decode cX10_look 19 = .ok (.iaload, 1) := by decide +kernel
theorem dX10_look_20 : decode cX10_look 20 = .ok (.goto 46, 3) := by decide +kernel
theorem dX10_look_23 : decode cX10_look 23 = .ok (.iload_n 2, 1) := by decide +kernel
theorem dX10_look_24 : decode cX10_look 24 = .ok (.iconst 1, 1) := by decide +kernel
theorem dX10_look_25 : decode cX10_look 25 = .ok (.if_icmp .ne 12, 3) := by decide +kernel
theorem dX10_look_28 : decode cX10_look 28 = .ok (.aload_n 0, 1) := by decide +kernel
theorem dX10_look_29 : decode cX10_look 29 = .ok (.getfield 19, 3) := by decide +kernel
theorem dX10_look_32 : decode cX10_look 32 = .ok (.iload_n 1, 1) := by decide +kernel
theorem dX10_look_33 : decode cX10_look 33 = .ok (.iaload, 1) := by decide +kernel
theorem dX10_look_34 : decode cX10_look 34 = .ok (.goto 32, 3) := by decide +kernel
theorem dX10_look_37 : decode cX10_look 37 = .ok (.iload_n 2, 1) := by decide +kernel
theorem dX10_look_38 : decode cX10_look 38 = .ok (.iconst 2, 1) := by decide +kernel
theorem dX10_look_39 : decode cX10_look 39 = .ok (.if_icmp .ne 12, 3) := by decide +kernel
theorem dX10_look_42 : decode cX10_look 42 = .ok (.aload_n 0, 1) := by decide +kernel
theorem dX10_look_43 : decode cX10_look 43 = .ok (.getfield 22, 3) := by decide +kernel
theorem dX10_look_46 : decode cX10_look 46 = .ok (.iload_n 1, 1) := by decide +kernel
theorem dX10_look_47 : decode cX10_look 47 = .ok (.iaload, 1) := by decide +kernel
theorem dX10_look_48 : decode cX10_look 48 = .ok (.goto 18, 3) := by decide +kernel
theorem dX10_look_51 : decode cX10_look 51 = .ok (.iload_n 2, 1) := by decide +kernel
theorem dX10_look_52 : decode cX10_look 52 = .ok (.iconst 3, 1) := by decide +kernel
theorem dX10_look_53 : decode cX10_look 53 = .ok (.if_icmp .ne 12, 3) := by decide +kernel
theorem dX10_look_56 : decode cX10_look 56 = .ok (.aload_n 0, 1) := by decide +kernel
theorem dX10_look_57 : decode cX10_look 57 = .ok (.getfield 25, 3) := by decide +kernel
theorem dX10_look_60 : decode cX10_look 60 = .ok (.iload_n 1, 1) := by decide +kernel
theorem dX10_look_61 : decode cX10_look 61 = .ok (.iaload, 1) := by decide +kernel
theorem dX10_look_62 : decode cX10_look 62 = .ok (.goto 4, 3) := by decide +kernel
theorem dX10_look_65 : decode cX10_look 65 = .ok (.iconst (-1), 1) := by decide +kernel
theorem dX10_look_66 : decode cX10_look 66 = .ok (.ireturn, 1) := by decide +kernel
theorem dJ9_max_7cf53_0 : decode cJ9_max_7cf53 0 = .ok (.iload_n 0, 1) := by decide +kernel
theorem dJ9_max_7cf53_1 : decode cJ9_max_7cf53 1 = .ok (.iload_n 1, 1) := by decide +kernel
theorem dJ9_max_7cf53_2 : decode cJ9_max_7cf53 2 = .ok (.if_icmp .lt 7, 3) := by decide +kernel
theorem dJ9_max_7cf53_5 : decode cJ9_max_7cf53 5 = .ok (.iload_n 0, 1) := by decide +kernel
theorem dJ9_max_7cf53_6 : decode cJ9_max_7cf53 6 = .ok (.goto 4, 3) := by decide +kernel
theorem dJ9_max_7cf53_9 : decode cJ9_max_7cf53 9 = .ok (.iload_n 1, 1) := by decide +kernel
theorem dJ9_max_7cf53_10 : decode cJ9_max_7cf53 10 = .ok (.ireturn, 1) := by decide +kernel
theorem dJ9_min_7cf53_0 : decode cJ9_min_7cf53 0 = .ok (.iload_n 0, 1) := by decide +kernel
theorem dJ9_min_7cf53_1 : decode cJ9_min_7cf53 1 = .ok (.iload_n 1, 1) := by decide +kernel
theorem dJ9_min_7cf53_2 : decode cJ9_min_7cf53 2 = .ok (.if_icmp .gt 7, 3) := by decide +kernel
theorem dJ9_min_7cf53_5 : decode cJ9_min_7cf53 5 = .ok (.iload_n 0, 1) := by decide +kernel
theorem dJ9_min_7cf53_6 : decode cJ9_min_7cf53 6 = .ok (.goto 4, 3) := by decide +kernel
theorem dJ9_min_7cf53_9 : decode cJ9_min_7cf53 9 = .ok (.iload_n 1, 1) := by decide +kernel
theorem dJ9_min_7cf53_10 : decode cJ9_min_7cf53 10 = .ok (.ireturn, 1) := by decide +kernel
theorem dJ9_min_f86c9_0 : decode cJ9_min_f86c9 0 = .ok (.lload_n 0, 1) := by decide +kernel
theorem dJ9_min_f86c9_1 : decode cJ9_min_f86c9 1 = .ok (.lload_n 2, 1) := by decide +kernel
theorem dJ9_min_f86c9_2 : decode cJ9_min_f86c9 2 = .ok (.lcmp, 1) := by decide +kernel
theorem dJ9_min_f86c9_3 : decode cJ9_min_f86c9 3 = .ok (.ifCond .gt 7, 3) := by decide +kernel
theorem dJ9_min_f86c9_6 : decode cJ9_min_f86c9 6 = .ok (.lload_n 0, 1) := by decide +kernel
theorem dJ9_min_f86c9_7 : decode cJ9_min_f86c9 7 = .ok (.goto 4, 3) := by decide +kernel
theorem dJ9_min_f86c9_10 : decode cJ9_min_f86c9 10 = .ok (.lload_n 2, 1) := by decide +kernel
theorem dJ9_min_f86c9_11 : decode cJ9_min_f86c9 11 = .ok (.lreturn, 1) := by decide +kernel
theorem dJ7_fill_53178_0 : decode cJ7_fill_53178 0 = .ok (.iconst 0, 1) := by decide +kernel
theorem dJ7_fill_53178_1 : decode cJ7_fill_53178 1 = .ok (.istore_n 2, 1) := by decide +kernel
theorem dJ7_fill_53178_2 : decode cJ7_fill_53178 2 = .ok (.aload_n 0, 1) := by decide +kernel
theorem dJ7_fill_53178_3 : decode cJ7_fill_53178 3 = .ok (.arraylength, 1) := by decide +kernel
theorem dJ7_fill_53178_4 : decode cJ7_fill_53178 4 = .ok (.istore_n 3, 1) := by decide +kernel
theorem dJ7_fill_53178_5 : decode cJ7_fill_53178 5 = .ok (.iload_n 2, 1) := by decide +kernel
theorem dJ7_fill_53178_6 : decode cJ7_fill_53178 6 = .ok (.iload_n 3, 1) := by decide +kernel
theorem dJ7_fill_53178_7 : decode cJ7_fill_53178 7 = .ok (.if_icmp .ge 13, 3) := by decide +kernel
theorem dJ7_fill_53178_10 : decode cJ7_fill_53178 10 = .ok (.aload_n 0, 1) := by decide +kernel
theorem dJ7_fill_53178_11 : decode cJ7_fill_53178 11 = .ok (.iload_n 2, 1) := by decide +kernel
theorem dJ7_fill_53178_12 : decode cJ7_fill_53178 12 = .ok (.iload_n 1, 1) := by decide +kernel
theorem dJ7_fill_53178_13 : decode cJ7_fill_53178 13 = .ok (.iastore, 1) := by decide +kernel
theorem dJ7_fill_53178_14 : decode cJ7_fill_53178 14 = .ok (.iinc 2 1, 3) := by decide +kernel
theorem dJ7_fill_53178_17 : decode cJ7_fill_53178 17 = .ok (.goto (-12), 3) := by decide +kernel
theorem dJ7_fill_53178_20 : decode cJ7_fill_53178 20 = .ok (.return_, 1) := by decide +kernel
theorem dJ7_copyOf_59c91_0 : decode cJ7_copyOf_59c91 0 = .ok (.iload_n 1, 1) := by decide +kernel
theorem dJ7_copyOf_59c91_1 : decode cJ7_copyOf_59c91 1 = .ok (.aload_n 0, 1) := by decide +kernel
theorem dJ7_copyOf_59c91_2 : decode cJ7_copyOf_59c91 2 = .ok (.arraylength, 1) := by decide +kernel
theorem dJ7_copyOf_59c91_3 : decode cJ7_copyOf_59c91 3 = .ok (.if_icmp .ne 11, 3) := by decide +kernel
theorem dJ7_copyOf_59c91_6 : decode cJ7_copyOf_59c91 6 = .ok (.aload_n 0, 1) := by decide +kernel
theorem dJ7_copyOf_59c91_7 : decode cJ7_copyOf_59c91 7 = .ok (.invokevirtual 316, 3) := by decide +kernel
theorem dJ7_copyOf_59c91_10 : decode cJ7_copyOf_59c91 10 = .ok (.checkcast 317, 3) := by decide +kernel
theorem dJ7_copyOf_59c91_13 : decode cJ7_copyOf_59c91 13 = .ok (.areturn, 1) := by decide +kernel
theorem dJ7_copyOf_59c91_14 : decode cJ7_copyOf_59c91 14 = .ok (.iload_n 1, 1) := by decide +kernel
theorem dJ7_copyOf_59c91_15 : decode cJ7_copyOf_59c91 15 = .ok (.newarray .int, 2) := by decide +kernel
theorem dJ7_copyOf_59c91_17 : decode cJ7_copyOf_59c91 17 = .ok (.astore_n 2, 1) := by decide +kernel
theorem dJ7_copyOf_59c91_18 : decode cJ7_copyOf_59c91 18 = .ok (.aload_n 0, 1) := by decide +kernel
theorem dJ7_copyOf_59c91_19 : decode cJ7_copyOf_59c91 19 = .ok (.iconst 0, 1) := by decide +kernel
theorem dJ7_copyOf_59c91_20 : decode cJ7_copyOf_59c91 20 = .ok (.aload_n 2, 1) := by decide +kernel
theorem dJ7_copyOf_59c91_21 : decode cJ7_copyOf_59c91 21 = .ok (.iconst 0, 1) := by decide +kernel
theorem dJ7_copyOf_59c91_22 : decode cJ7_copyOf_59c91 22 = .ok (.aload_n 0, 1) := by decide +kernel
theorem dJ7_copyOf_59c91_23 : decode cJ7_copyOf_59c91 23 = .ok (.arraylength, 1) := by decide +kernel
theorem dJ7_copyOf_59c91_24 : decode cJ7_copyOf_59c91 24 = .ok (.iload_n 1, 1) := by decide +kernel
theorem dJ7_copyOf_59c91_25 : decode cJ7_copyOf_59c91 25 = .ok (.invokestatic 304, 3) := by decide +kernel
theorem dJ7_copyOf_59c91_28 : decode cJ7_copyOf_59c91 28 = .ok (.invokestatic 150, 3) := by decide +kernel
theorem dJ7_copyOf_59c91_31 : decode cJ7_copyOf_59c91 31 = .ok (.aload_n 2, 1) := by decide +kernel
theorem dJ7_copyOf_59c91_32 : decode cJ7_copyOf_59c91 32 = .ok (.areturn, 1) := by decide +kernel
theorem dL_law_0 : decode cL_law 0 = .ok (.new 7, 3) := by decide +kernel
theorem dL_law_3 : decode cL_law 3 = .ok (.dup, 1) := by decide +kernel
theorem dL_law_4 : decode cL_law 4 = .ok (.invokespecial 9, 3) := by decide +kernel
theorem dL_law_7 : decode cL_law 7 = .ok (.astore_n 1, 1) := by decide +kernel
theorem dL_law_8 : decode cL_law 8 = .ok (.new 10, 3) := by decide +kernel
theorem dL_law_11 : decode cL_law 11 = .ok (.dup, 1) := by decide +kernel
theorem dL_law_12 : decode cL_law 12 = .ok (.invokespecial 12, 3) := by decide +kernel
theorem dL_law_15 : decode cL_law 15 = .ok (.astore_n 2, 1) := by decide +kernel
theorem dL_law_16 : decode cL_law 16 = .ok (.iconst 0, 1) := by decide +kernel
theorem dL_law_17 : decode cL_law 17 = .ok (.istore_n 3, 1) := by decide +kernel
theorem dL_law_18 : decode cL_law 18 = .ok (.iload_n 3, 1) := by decide +kernel
theorem dL_law_19 : decode cL_law 19 = .ok (.aload_n 0, 1) := by decide +kernel
theorem dL_law_20 : decode cL_law 20 = .ok (.arraylength, 1) := by decide +kernel
theorem dL_law_21 : decode cL_law 21 = .ok (.iconst 4, 1) := by decide +kernel
theorem dL_law_22 : decode cL_law 22 = .ok (.isub, 1) := by decide +kernel
theorem dL_law_23 : decode cL_law 23 = .ok (.if_icmp .gt 464, 3) := by decide +kernel
theorem dL_law_26 : decode cL_law 26 = .ok (.aload_n 0, 1) := by decide +kernel
theorem dL_law_27 : decode cL_law 27 = .ok (.iload_n 3, 1) := by decide +kernel
theorem dL_law_28 : decode cL_law 28 = .ok (.iaload, 1) := by decide +kernel
theorem dL_law_29 : decode cL_law 29 = .ok (.bipush 15, 2) := by decide +kernel
theorem dL_law_31 : decode cL_law 31 = .ok (.iand, 1) := by decide +kernel
theorem dL_law_32 : decode cL_law 32 = .ok (.tableswitch 449 0 12 #[68, 111, 154, 167, 200, 253, 276, 299, 322, 345, 369, 393, 416], 68) := by decide +kernel
theorem dL_law_100 : decode cL_law 100 = .ok (.aload_n 1, 1) := by decide +kernel
theorem dL_law_101 : decode cL_law 101 = .ok (.aload_n 0, 1) := by decide +kernel
theorem dL_law_102 : decode cL_law 102 = .ok (.iload_n 3, 1) := by decide +kernel
theorem dL_law_103 : decode cL_law 103 = .ok (.iconst 1, 1) := by decide +kernel
theorem dL_law_104 : decode cL_law 104 = .ok (.iadd, 1) := by decide +kernel
theorem dL_law_105 : decode cL_law 105 = .ok (.iaload, 1) := by decide +kernel
theorem dL_law_106 : decode cL_law 106 = .ok (.aload_n 0, 1) := by decide +kernel
theorem dL_law_107 : decode cL_law 107 = .ok (.iload_n 3, 1) := by decide +kernel
theorem dL_law_108 : decode cL_law 108 = .ok (.iconst 2, 1) := by decide +kernel
theorem dL_law_109 : decode cL_law 109 = .ok (.iadd, 1) := by decide +kernel
theorem dL_law_110 : decode cL_law 110 = .ok (.iaload, 1) := by decide +kernel
theorem dL_law_111 : decode cL_law 111 = .ok (.aload_n 0, 1) := by decide +kernel
theorem dL_law_112 : decode cL_law 112 = .ok (.iload_n 3, 1) := by decide +kernel
theorem dL_law_113 : decode cL_law 113 = .ok (.iconst 3, 1) := by decide +kernel
theorem dL_law_114 : decode cL_law 114 = .ok (.iadd, 1) := by decide +kernel
theorem dL_law_115 : decode cL_law 115 = .ok (.iaload, 1) := by decide +kernel
theorem dL_law_116 : decode cL_law 116 = .ok (.invokevirtual 13, 3) := by decide +kernel
theorem dL_law_119 : decode cL_law 119 = .ok (.aload_n 2, 1) := by decide +kernel
theorem dL_law_120 : decode cL_law 120 = .ok (.aload_n 0, 1) := by decide +kernel
theorem dL_law_121 : decode cL_law 121 = .ok (.iload_n 3, 1) := by decide +kernel
theorem dL_law_122 : decode cL_law 122 = .ok (.iconst 1, 1) := by decide +kernel
theorem dL_law_123 : decode cL_law 123 = .ok (.iadd, 1) := by decide +kernel
theorem dL_law_124 : decode cL_law 124 = .ok (.iaload, 1) := by decide +kernel
theorem dL_law_125 : decode cL_law 125 = .ok (.aload_n 0, 1) := by decide +kernel
theorem dL_law_126 : decode cL_law 126 = .ok (.iload_n 3, 1) := by decide +kernel
theorem dL_law_127 : decode cL_law 127 = .ok (.iconst 2, 1) := by decide +kernel
theorem dL_law_128 : decode cL_law 128 = .ok (.iadd, 1) := by decide +kernel
theorem dL_law_129 : decode cL_law 129 = .ok (.iaload, 1) := by decide +kernel
theorem dL_law_130 : decode cL_law 130 = .ok (.aload_n 0, 1) := by decide +kernel
theorem dL_law_131 : decode cL_law 131 = .ok (.iload_n 3, 1) := by decide +kernel
theorem dL_law_132 : decode cL_law 132 = .ok (.iconst 3, 1) := by decide +kernel
theorem dL_law_133 : decode cL_law 133 = .ok (.iadd, 1) := by decide +kernel
theorem dL_law_134 : decode cL_law 134 = .ok (.iaload, 1) := by decide +kernel
theorem dL_law_135 : decode cL_law 135 = .ok (.invokevirtual 17, 3) := by decide +kernel
theorem dL_law_138 : decode cL_law 138 = .ok (.if_icmp .eq 343, 3) := by decide +kernel
theorem dL_law_141 : decode cL_law 141 = .ok (.iconst 0, 1) := by decide +kernel
theorem dL_law_142 : decode cL_law 142 = .ok (.ireturn, 1) := by decide +kernel
theorem dL_law_143 : decode cL_law 143 = .ok (.aload_n 1, 1) := by decide +kernel
theorem dL_law_144 : decode cL_law 144 = .ok (.aload_n 0, 1) := by decide +kernel
theorem dL_law_145 : decode cL_law 145 = .ok (.iload_n 3, 1) := by decide +kernel
theorem dL_law_146 : decode cL_law 146 = .ok (.iconst 1, 1) := by decide +kernel
theorem dL_law_147 : decode cL_law 147 = .ok (.iadd, 1) := by decide +kernel
theorem dL_law_148 : decode cL_law 148 = .ok (.iaload, 1) := by decide +kernel
theorem dL_law_149 : decode cL_law 149 = .ok (.aload_n 0, 1) := by decide +kernel
theorem dL_law_150 : decode cL_law 150 = .ok (.iload_n 3, 1) := by decide +kernel
theorem dL_law_151 : decode cL_law 151 = .ok (.iconst 2, 1) := by decide +kernel
theorem dL_law_152 : decode cL_law 152 = .ok (.iadd, 1) := by decide +kernel
theorem dL_law_153 : decode cL_law 153 = .ok (.iaload, 1) := by decide +kernel
theorem dL_law_154 : decode cL_law 154 = .ok (.aload_n 0, 1) := by decide +kernel
theorem dL_law_155 : decode cL_law 155 = .ok (.iload_n 3, 1) := by decide +kernel
theorem dL_law_156 : decode cL_law 156 = .ok (.iconst 3, 1) := by decide +kernel
theorem dL_law_157 : decode cL_law 157 = .ok (.iadd, 1) := by decide +kernel
theorem dL_law_158 : decode cL_law 158 = .ok (.iaload, 1) := by decide +kernel
theorem dL_law_159 : decode cL_law 159 = .ok (.invokevirtual 18, 3) := by decide +kernel
theorem dL_law_162 : decode cL_law 162 = .ok (.aload_n 2, 1) := by decide +kernel
theorem dL_law_163 : decode cL_law 163 = .ok (.aload_n 0, 1) := by decide +kernel
theorem dL_law_164 : decode cL_law 164 = .ok (.iload_n 3, 1) := by decide +kernel
theorem dL_law_165 : decode cL_law 165 = .ok (.iconst 1, 1) := by decide +kernel
theorem dL_law_166 : decode cL_law 166 = .ok (.iadd, 1) := by decide +kernel
theorem dL_law_167 : decode cL_law 167 = .ok (.iaload, 1) := by decide +kernel
theorem dL_law_168 : decode cL_law 168 = .ok (.aload_n 0, 1) := by decide +kernel
theorem dL_law_169 : decode cL_law 169 = .ok (.iload_n 3, 1) := by decide +kernel
theorem dL_law_170 : decode cL_law 170 = .ok (.iconst 2, 1) := by decide +kernel
theorem dL_law_171 : decode cL_law 171 = .ok (.iadd, 1) := by decide +kernel
theorem dL_law_172 : decode cL_law 172 = .ok (.iaload, 1) := by decide +kernel
theorem dL_law_173 : decode cL_law 173 = .ok (.aload_n 0, 1) := by decide +kernel
theorem dL_law_174 : decode cL_law 174 = .ok (.iload_n 3, 1) := by decide +kernel
theorem dL_law_175 : decode cL_law 175 = .ok (.iconst 3, 1) := by decide +kernel
theorem dL_law_176 : decode cL_law 176 = .ok (.iadd, 1) := by decide +kernel
theorem dL_law_177 : decode cL_law 177 = .ok (.iaload, 1) := by decide +kernel
theorem dL_law_178 : decode cL_law 178 = .ok (.invokevirtual 21, 3) := by decide +kernel
theorem dL_law_181 : decode cL_law 181 = .ok (.if_icmp .eq 300, 3) := by decide +kernel
theorem dL_law_184 : decode cL_law 184 = .ok (.iconst 0, 1) := by decide +kernel
theorem dL_law_185 : decode cL_law 185 = .ok (.ireturn, 1) := by decide +kernel
theorem dL_law_186 : decode cL_law 186 = .ok (.aload_n 1, 1) := by decide +kernel
theorem dL_law_187 : decode cL_law 187 = .ok (.invokevirtual 22, 3) := by decide +kernel
theorem dL_law_190 : decode cL_law 190 = .ok (.aload_n 2, 1) := by decide +kernel
theorem dL_law_191 : decode cL_law 191 = .ok (.invokevirtual 26, 3) := by decide +kernel
theorem dL_law_194 : decode cL_law 194 = .ok (.if_icmp .eq 287, 3) := by decide +kernel
theorem dL_law_197 : decode cL_law 197 = .ok (.iconst 0, 1) := by decide +kernel
theorem dL_law_198 : decode cL_law 198 = .ok (.ireturn, 1) := by decide +kernel
theorem dL_law_199 : decode cL_law 199 = .ok (.aload_n 1, 1) := by decide +kernel
theorem dL_law_200 : decode cL_law 200 = .ok (.aload_n 0, 1) := by decide +kernel
theorem dL_law_201 : decode cL_law 201 = .ok (.iload_n 3, 1) := by decide +kernel
theorem dL_law_202 : decode cL_law 202 = .ok (.iconst 1, 1) := by decide +kernel
theorem dL_law_203 : decode cL_law 203 = .ok (.iadd, 1) := by decide +kernel
theorem dL_law_204 : decode cL_law 204 = .ok (.iaload, 1) := by decide +kernel
theorem dL_law_205 : decode cL_law 205 = .ok (.aload_n 0, 1) := by decide +kernel
theorem dL_law_206 : decode cL_law 206 = .ok (.iload_n 3, 1) := by decide +kernel
theorem dL_law_207 : decode cL_law 207 = .ok (.iconst 2, 1) := by decide +kernel
theorem dL_law_208 : decode cL_law 208 = .ok (.iadd, 1) := by decide +kernel
theorem dL_law_209 : decode cL_law 209 = .ok (.iaload, 1) := by decide +kernel
theorem dL_law_210 : decode cL_law 210 = .ok (.invokevirtual 27, 3) := by decide +kernel
theorem dL_law_213 : decode cL_law 213 = .ok (.aload_n 2, 1) := by decide +kernel
theorem dL_law_214 : decode cL_law 214 = .ok (.aload_n 0, 1) := by decide +kernel
theorem dL_law_215 : decode cL_law 215 = .ok (.iload_n 3, 1) := by decide +kernel
theorem dL_law_216 : decode cL_law 216 = .ok (.iconst 1, 1) := by decide +kernel
theorem dL_law_217 : decode cL_law 217 = .ok (.iadd, 1) := by decide +kernel
theorem dL_law_218 : decode cL_law 218 = .ok (.iaload, 1) := by decide +kernel
