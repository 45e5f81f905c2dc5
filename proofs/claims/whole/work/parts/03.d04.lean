theorem dX6_branch_4 : decode cX6_branch 4 = .ok (.getfield 45, 3) := by decide +kernel
theorem dX6_branch_7 : decode cX6_branch 7 = .ok (.iload_n 2, 1) := by decide +kernel
theorem dX6_branch_8 : decode cX6_branch 8 = .ok (.iaload, 1) := by decide +kernel
theorem dX6_branch_9 : decode cX6_branch 9 = .ok (.istore_n 3, 1) := by decide +kernel
theorem dX6_branch_10 : decode cX6_branch 10 = .ok (.iload_n 3, 1) := by decide +kernel
theorem dX6_branch_11 : decode cX6_branch 11 = .ok (.iconst (-1), 1) := by decide +kernel
theorem dX6_branch_12 : decode cX6_branch 12 = .ok (.if_icmp .ne 9, 3) := by decide +kernel
theorem dX6_branch_15 : decode cX6_branch 15 = .ok (.aload_n 0, 1) := by decide +kernel
theorem dX6_branch_16 : decode cX6_branch 16 = .ok (.iload_n 1, 1) := by decide +kernel
theorem dX6_branch_17 : decode cX6_branch 17 = .ok (.invokevirtual 48, 3) := by decide +kernel
theorem dX6_branch_20 : decode cX6_branch 20 = .ok (.return_, 1) := by decide +kernel
theorem dX6_branch_21 : decode cX6_branch 21 = .ok (.aload_n 0, 1) := by decide +kernel
theorem dX6_branch_22 : decode cX6_branch 22 = .ok (.getfield 19, 3) := by decide +kernel
theorem dX6_branch_25 : decode cX6_branch 25 = .ok (.getfield 166, 3) := by decide +kernel
theorem dX6_branch_28 : decode cX6_branch 28 = .ok (.iload_n 1, 1) := by decide +kernel
theorem dX6_branch_29 : decode cX6_branch 29 = .ok (.iaload, 1) := by decide +kernel
theorem dX6_branch_30 : decode cX6_branch 30 = .ok (.istore 4, 2) := by decide +kernel
theorem dX6_branch_32 : decode cX6_branch 32 = .ok (.aload_n 0, 1) := by decide +kernel
theorem dX6_branch_33 : decode cX6_branch 33 = .ok (.getfield 9, 3) := by decide +kernel
theorem dX6_branch_36 : decode cX6_branch 36 = .ok (.iload_n 3, 1) := by decide +kernel
theorem dX6_branch_37 : decode cX6_branch 37 = .ok (.iload 4, 2) := by decide +kernel
theorem dX6_branch_39 : decode cX6_branch 39 = .ok (.invokevirtual 169, 3) := by decide +kernel
theorem dX6_branch_42 : decode cX6_branch 42 = .ok (.istore 5, 2) := by decide +kernel
theorem dX6_branch_44 : decode cX6_branch 44 = .ok (.aload_n 0, 1) := by decide +kernel
theorem dX6_branch_45 : decode cX6_branch 45 = .ok (.getfield 19, 3) := by decide +kernel
theorem dX6_branch_48 : decode cX6_branch 48 = .ok (.getfield 124, 3) := by decide +kernel
theorem dX6_branch_51 : decode cX6_branch 51 = .ok (.iload_n 1, 1) := by decide +kernel
theorem dX6_branch_52 : decode cX6_branch 52 = .ok (.iaload, 1) := by decide +kernel
theorem dX6_branch_53 : decode cX6_branch 53 = .ok (.aload_n 0, 1) := by decide +kernel
theorem dX6_branch_54 : decode cX6_branch 54 = .ok (.getfield 9, 3) := by decide +kernel
theorem dX6_branch_57 : decode cX6_branch 57 = .ok (.iload 4, 2) := by decide +kernel
theorem dX6_branch_59 : decode cX6_branch 59 = .ok (.invokevirtual 173, 3) := by decide +kernel
theorem dX6_branch_62 : decode cX6_branch 62 = .ok (.iadd, 1) := by decide +kernel
theorem dX6_branch_63 : decode cX6_branch 63 = .ok (.aload_n 0, 1) := by decide +kernel
theorem dX6_branch_64 : decode cX6_branch 64 = .ok (.getfield 9, 3) := by decide +kernel
theorem dX6_branch_67 : decode cX6_branch 67 = .ok (.getfield 176, 3) := by decide +kernel
theorem dX6_branch_70 : decode cX6_branch 70 = .ok (.iload_n 3, 1) := by decide +kernel
theorem dX6_branch_71 : decode cX6_branch 71 = .ok (.iaload, 1) := by decide +kernel
theorem dX6_branch_72 : decode cX6_branch 72 = .ok (.iadd, 1) := by decide +kernel
theorem dX6_branch_73 : decode cX6_branch 73 = .ok (.istore 6, 2) := by decide +kernel
theorem dX6_branch_75 : decode cX6_branch 75 = .ok (.aload_n 0, 1) := by decide +kernel
theorem dX6_branch_76 : decode cX6_branch 76 = .ok (.getfield 19, 3) := by decide +kernel
theorem dX6_branch_79 : decode cX6_branch 79 = .ok (.aload_n 0, 1) := by decide +kernel
theorem dX6_branch_80 : decode cX6_branch 80 = .ok (.getfield 19, 3) := by decide +kernel
theorem dX6_branch_83 : decode cX6_branch 83 = .ok (.getfield 136, 3) := by decide +kernel
theorem dX6_branch_86 : decode cX6_branch 86 = .ok (.iload_n 1, 1) := by decide +kernel
theorem dX6_branch_87 : decode cX6_branch 87 = .ok (.iaload, 1) := by decide +kernel
theorem dX6_branch_88 : decode cX6_branch 88 = .ok (.iload 5, 2) := by decide +kernel
theorem dX6_branch_90 : decode cX6_branch 90 = .ok (.isub, 1) := by decide +kernel
theorem dX6_branch_91 : decode cX6_branch 91 = .ok (.iload 6, 2) := by decide +kernel
theorem dX6_branch_93 : decode cX6_branch 93 = .ok (.iload 5, 2) := by decide +kernel
theorem dX6_branch_95 : decode cX6_branch 95 = .ok (.invokevirtual 179, 3) := by decide +kernel
theorem dX6_branch_98 : decode cX6_branch 98 = .ok (.aload_n 0, 1) := by decide +kernel
theorem dX6_branch_99 : decode cX6_branch 99 = .ok (.getfield 19, 3) := by decide +kernel
theorem dX6_branch_102 : decode cX6_branch 102 = .ok (.getfield 136, 3) := by decide +kernel
theorem dX6_branch_105 : decode cX6_branch 105 = .ok (.iload_n 1, 1) := by decide +kernel
theorem dX6_branch_106 : decode cX6_branch 106 = .ok (.iload 6, 2) := by decide +kernel
theorem dX6_branch_108 : decode cX6_branch 108 = .ok (.iload 5, 2) := by decide +kernel
theorem dX6_branch_110 : decode cX6_branch 110 = .ok (.iadd, 1) := by decide +kernel
theorem dX6_branch_111 : decode cX6_branch 111 = .ok (.iastore, 1) := by decide +kernel
theorem dX6_branch_112 : decode cX6_branch 112 = .ok (.aload_n 0, 1) := by decide +kernel
theorem dX6_branch_113 : decode cX6_branch 113 = .ok (.getfield 19, 3) := by decide +kernel
theorem dX6_branch_116 : decode cX6_branch 116 = .ok (.getfield 42, 3) := by decide +kernel
theorem dX6_branch_119 : decode cX6_branch 119 = .ok (.iload_n 1, 1) := by decide +kernel
theorem dX6_branch_120 : decode cX6_branch 120 = .ok (.aload_n 0, 1) := by decide +kernel
theorem dX6_branch_121 : decode cX6_branch 121 = .ok (.getfield 9, 3) := by decide +kernel
theorem dX6_branch_124 : decode cX6_branch 124 = .ok (.iload_n 3, 1) := by decide +kernel
theorem dX6_branch_125 : decode cX6_branch 125 = .ok (.invokevirtual 182, 3) := by decide +kernel
theorem dX6_branch_128 : decode cX6_branch 128 = .ok (.ifCond .eq 7, 3) := by decide +kernel
theorem dX6_branch_131 : decode cX6_branch 131 = .ok (.iload_n 3, 1) := by decide +kernel
theorem dX6_branch_132 : decode cX6_branch 132 = .ok (.goto 12, 3) := by decide +kernel
theorem dX6_branch_135 : decode cX6_branch 135 = .ok (.aload_n 0, 1) := by decide +kernel
theorem dX6_branch_136 : decode cX6_branch 136 = .ok (.getfield 9, 3) := by decide +kernel
theorem dX6_branch_139 : decode cX6_branch 139 = .ok (.getfield 45, 3) := by decide +kernel
theorem dX6_branch_142 : decode cX6_branch 142 = .ok (.iload_n 3, 1) := by decide +kernel
theorem dX6_branch_143 : decode cX6_branch 143 = .ok (.iaload, 1) := by decide +kernel
theorem dX6_branch_144 : decode cX6_branch 144 = .ok (.iconst 1, 1) := by decide +kernel
theorem dX6_branch_145 : decode cX6_branch 145 = .ok (.iadd, 1) := by decide +kernel
theorem dX6_branch_146 : decode cX6_branch 146 = .ok (.iastore, 1) := by decide +kernel
theorem dX6_branch_147 : decode cX6_branch 147 = .ok (.return_, 1) := by decide +kernel
theorem dX6_giveBack_0 : decode cX6_giveBack 0 = .ok (.aload_n 0, 1) := by decide +kernel
theorem dX6_giveBack_1 : decode cX6_giveBack 1 = .ok (.getfield 19, 3) := by decide +kernel
theorem dX6_giveBack_4 : decode cX6_giveBack 4 = .ok (.aload_n 0, 1) := by decide +kernel
theorem dX6_giveBack_5 : decode cX6_giveBack 5 = .ok (.getfield 19, 3) := by decide +kernel
theorem dX6_giveBack_8 : decode cX6_giveBack 8 = .ok (.getfield 136, 3) := by decide +kernel
theorem dX6_giveBack_11 : decode cX6_giveBack 11 = .ok (.iload_n 1, 1) := by decide +kernel
theorem dX6_giveBack_12 : decode cX6_giveBack 12 = .ok (.iaload, 1) := by decide +kernel
theorem dX6_giveBack_13 : decode cX6_giveBack 13 = .ok (.aload_n 0, 1) := by decide +kernel
theorem dX6_giveBack_14 : decode cX6_giveBack 14 = .ok (.getfield 9, 3) := by decide +kernel
theorem dX6_giveBack_17 : decode cX6_giveBack 17 = .ok (.getfield 186, 3) := by decide +kernel
theorem dX6_giveBack_20 : decode cX6_giveBack 20 = .ok (.aload_n 0, 1) := by decide +kernel
theorem dX6_giveBack_21 : decode cX6_giveBack 21 = .ok (.getfield 19, 3) := by decide +kernel
theorem dX6_giveBack_24 : decode cX6_giveBack 24 = .ok (.getfield 166, 3) := by decide +kernel
theorem dX6_giveBack_27 : decode cX6_giveBack 27 = .ok (.iload_n 1, 1) := by decide +kernel
theorem dX6_giveBack_28 : decode cX6_giveBack 28 = .ok (.iaload, 1) := by decide +kernel
theorem dX6_giveBack_29 : decode cX6_giveBack 29 = .ok (.iaload, 1) := by decide +kernel
theorem dX6_giveBack_30 : decode cX6_giveBack 30 = .ok (.isub, 1) := by decide +kernel
theorem dX6_giveBack_31 : decode cX6_giveBack 31 = .ok (.invokevirtual 189, 3) := by decide +kernel
theorem dX6_giveBack_34 : decode cX6_giveBack 34 = .ok (.return_, 1) := by decide +kernel
theorem dX6_invoke_0 : decode cX6_invoke 0 = .ok (.aload_n 0, 1) := by decide +kernel
theorem dX6_invoke_1 : decode cX6_invoke 1 = .ok (.getfield 19, 3) := by decide +kernel
theorem dX6_invoke_4 : decode cX6_invoke 4 = .ok (.iload_n 2, 1) := by decide +kernel
theorem dX6_invoke_5 : decode cX6_invoke 5 = .ok (.aload_n 0, 1) := by decide +kernel
theorem dX6_invoke_6 : decode cX6_invoke 6 = .ok (.getfield 19, 3) := by decide +kernel
theorem dX6_invoke_9 : decode cX6_invoke 9 = .ok (.getfield 192, 3) := by decide +kernel
theorem dX6_invoke_12 : decode cX6_invoke 12 = .ok (.aload_n 0, 1) := by decide +kernel
theorem dX6_invoke_13 : decode cX6_invoke 13 = .ok (.getfield 19, 3) := by decide +kernel
theorem dX6_invoke_16 : decode cX6_invoke 16 = .ok (.getfield 136, 3) := by decide +kernel
theorem dX6_invoke_19 : decode cX6_invoke 19 = .ok (.iload_n 1, 1) := by decide +kernel
theorem dX6_invoke_20 : decode cX6_invoke 20 = .ok (.iaload, 1) := by decide +kernel
theorem dX6_invoke_21 : decode cX6_invoke 21 = .ok (.aload_n 0, 1) := by decide +kernel
theorem dX6_invoke_22 : decode cX6_invoke 22 = .ok (.getfield 9, 3) := by decide +kernel
theorem dX6_invoke_25 : decode cX6_invoke 25 = .ok (.getfield 195, 3) := by decide +kernel
theorem dX6_invoke_28 : decode cX6_invoke 28 = .ok (.iload_n 2, 1) := by decide +kernel
theorem dX6_invoke_29 : decode cX6_invoke 29 = .ok (.iaload, 1) := by decide +kernel
theorem dX6_invoke_30 : decode cX6_invoke 30 = .ok (.isub, 1) := by decide +kernel
theorem dX6_invoke_31 : decode cX6_invoke 31 = .ok (.invokevirtual 198, 3) := by decide +kernel
theorem dX6_invoke_34 : decode cX6_invoke 34 = .ok (.return_, 1) := by decide +kernel
theorem dX6_invokeEntry_0 : decode cX6_invokeEntry 0 = .ok (.aload_n 0, 1) := by decide +kernel
theorem dX6_invokeEntry_1 : decode cX6_invokeEntry 1 = .ok (.getfield 15, 3) := by decide +kernel
theorem dX6_invokeEntry_4 : decode cX6_invokeEntry 4 = .ok (.aload_n 0, 1) := by decide +kernel
theorem dX6_invokeEntry_5 : decode cX6_invokeEntry 5 = .ok (.iload_n 1, 1) := by decide +kernel
theorem dX6_invokeEntry_6 : decode cX6_invokeEntry 6 = .ok (.invokevirtual 82, 3) := by decide +kernel
theorem dX6_invokeEntry_9 : decode cX6_invokeEntry 9 = .ok (.aload_n 0, 1) := by decide +kernel
theorem dX6_invokeEntry_10 : decode cX6_invokeEntry 10 = .ok (.getfield 9, 3) := by decide +kernel
theorem dX6_invokeEntry_13 : decode cX6_invokeEntry 13 = .ok (.getfield 64, 3) := by decide +kernel
theorem dX6_invokeEntry_16 : decode cX6_invokeEntry 16 = .ok (.iload_n 2, 1) := by decide +kernel
theorem dX6_invokeEntry_17 : decode cX6_invokeEntry 17 = .ok (.iaload, 1) := by decide +kernel
theorem dX6_invokeEntry_18 : decode cX6_invokeEntry 18 = .ok (.aload_n 0, 1) := by decide +kernel
theorem dX6_invokeEntry_19 : decode cX6_invokeEntry 19 = .ok (.getfield 9, 3) := by decide +kernel
theorem dX6_invokeEntry_22 : decode cX6_invokeEntry 22 = .ok (.getfield 202, 3) := by decide +kernel
theorem dX6_invokeEntry_25 : decode cX6_invokeEntry 25 = .ok (.iload_n 2, 1) := by decide +kernel
theorem dX6_invokeEntry_26 : decode cX6_invokeEntry 26 = .ok (.iaload, 1) := by decide +kernel
theorem dX6_invokeEntry_27 : decode cX6_invokeEntry 27 = .ok (.aload_n 0, 1) := by decide +kernel
theorem dX6_invokeEntry_28 : decode cX6_invokeEntry 28 = .ok (.getfield 9, 3) := by decide +kernel
theorem dX6_invokeEntry_31 : decode cX6_invokeEntry 31 = .ok (.invokevirtual 205, 3) := by decide +kernel
theorem dX6_invokeEntry_34 : decode cX6_invokeEntry 34 = .ok (.istore_n 3, 1) := by decide +kernel
theorem dX6_invokeEntry_35 : decode cX6_invokeEntry 35 = .ok (.iload_n 3, 1) := by decide +kernel
theorem dX6_invokeEntry_36 : decode cX6_invokeEntry 36 = .ok (.ifCond .ge 15, 3) := by decide +kernel
theorem dX6_invokeEntry_39 : decode cX6_invokeEntry 39 = .ok (.aload_n 0, 1) := by decide +kernel
theorem dX6_invokeEntry_40 : decode cX6_invokeEntry 40 = .ok (.getfield 19, 3) := by decide +kernel
theorem dX6_invokeEntry_43 : decode cX6_invokeEntry 43 = .ok (.iload_n 3, 1) := by decide +kernel
theorem dX6_invokeEntry_44 : decode cX6_invokeEntry 44 = .ok (.ineg, 1) := by decide +kernel
theorem dX6_invokeEntry_45 : decode cX6_invokeEntry 45 = .ok (.invokevirtual 89, 3) := by decide +kernel
theorem dX6_invokeEntry_48 : decode cX6_invokeEntry 48 = .ok (.goto 9, 3) := by decide +kernel
theorem dX6_invokeEntry_51 : decode cX6_invokeEntry 51 = .ok (.aload_n 0, 1) := by decide +kernel
theorem dX6_invokeEntry_52 : decode cX6_invokeEntry 52 = .ok (.iload_n 1, 1) := by decide +kernel
theorem dX6_invokeEntry_53 : decode cX6_invokeEntry 53 = .ok (.iload_n 3, 1) := by decide +kernel
theorem dX6_invokeEntry_54 : decode cX6_invokeEntry 54 = .ok (.invokevirtual 157, 3) := by decide +kernel
theorem dX6_invokeEntry_57 : decode cX6_invokeEntry 57 = .ok (.return_, 1) := by decide +kernel
theorem dX6_push_0 : decode cX6_push 0 = .ok (.aload_n 0, 1) := by decide +kernel
theorem dX6_push_1 : decode cX6_push 1 = .ok (.getfield 19, 3) := by decide +kernel
theorem dX6_push_4 : decode cX6_push 4 = .ok (.aload_n 0, 1) := by decide +kernel
theorem dX6_push_5 : decode cX6_push 5 = .ok (.getfield 19, 3) := by decide +kernel
theorem dX6_push_8 : decode cX6_push 8 = .ok (.getfield 136, 3) := by decide +kernel
theorem dX6_push_11 : decode cX6_push 11 = .ok (.iload_n 1, 1) := by decide +kernel
theorem dX6_push_12 : decode cX6_push 12 = .ok (.iaload, 1) := by decide +kernel
theorem dX6_push_13 : decode cX6_push 13 = .ok (.lload_n 2, 1) := by decide +kernel
theorem dX6_push_14 : decode cX6_push 14 = .ok (.invokevirtual 133, 3) := by decide +kernel
theorem dX6_push_17 : decode cX6_push 17 = .ok (.aload_n 0, 1) := by decide +kernel
theorem dX6_push_18 : decode cX6_push 18 = .ok (.getfield 19, 3) := by decide +kernel
theorem dX6_push_21 : decode cX6_push 21 = .ok (.getfield 136, 3) := by decide +kernel
theorem dX6_push_24 : decode cX6_push 24 = .ok (.iload_n 1, 1) := by decide +kernel
theorem dX6_push_25 : decode cX6_push 25 = .ok (.dup2, 1) := by decide +kernel
theorem dX6_push_26 : decode cX6_push 26 = .ok (.iaload, 1) := by decide +kernel
theorem dX6_push_27 : decode cX6_push 27 = .ok (.iconst 1, 1) := by decide +kernel
theorem dX6_push_28 : decode cX6_push 28 = .ok (.iadd, 1) := by decide +kernel
theorem dX6_push_29 : decode cX6_push 29 = .ok (.iastore, 1) := by decide +kernel
theorem dX6_push_30 : decode cX6_push 30 = .ok (.return_, 1) := by decide +kernel
theorem dX6_pop_0 : decode cX6_pop 0 = .ok (.aload_n 0, 1) := by decide +kernel
theorem dX6_pop_1 : decode cX6_pop 1 = .ok (.getfield 19, 3) := by decide +kernel
theorem dX6_pop_4 : decode cX6_pop 4 = .ok (.getfield 136, 3) := by decide +kernel
theorem dX6_pop_7 : decode cX6_pop 7 = .ok (.iload_n 1, 1) := by decide +kernel
theorem dX6_pop_8 : decode cX6_pop 8 = .ok (.dup2, 1) := by decide +kernel
theorem dX6_pop_9 : decode cX6_pop 9 = .ok (.iaload, 1) := by decide +kernel
theorem dX6_pop_10 : decode cX6_pop 10 = .ok (.iconst 1, 1) := by decide +kernel
theorem dX6_pop_11 : decode cX6_pop 11 = .ok (.isub, 1) := by decide +kernel
theorem dX6_pop_12 : decode cX6_pop 12 = .ok (.iastore, 1) := by decide +kernel
theorem dX6_pop_13 : decode cX6_pop 13 = .ok (.aload_n 0, 1) := by decide +kernel
theorem dX6_pop_14 : decode cX6_pop 14 = .ok (.getfield 19, 3) := by decide +kernel
theorem dX6_pop_17 : decode cX6_pop 17 = .ok (.aload_n 0, 1) := by decide +kernel
theorem dX6_pop_18 : decode cX6_pop 18 = .ok (.getfield 19, 3) := by decide +kernel
theorem dX6_pop_21 : decode cX6_pop 21 = .ok (.getfield 136, 3) := by decide +kernel
theorem dX6_pop_24 : decode cX6_pop 24 = .ok (.iload_n 1, 1) := by decide +kernel
theorem dX6_pop_25 : decode cX6_pop 25 = .ok (.iaload, 1) := by decide +kernel
theorem dX6_pop_26 : decode cX6_pop 26 = .ok (.invokevirtual 130, 3) := by decide +kernel
theorem dX6_pop_29 : decode cX6_pop 29 = .ok (.lreturn, 1) := by decide +kernel
theorem dX7_init_0 : decode cX7_init 0 = .ok (.aload_n 0, 1) := by decide +kernel
theorem dX7_init_1 : decode cX7_init 1 = .ok (.invokespecial 3, 3) := by decide +kernel
theorem dX7_init_4 : decode cX7_init 4 = .ok (.aload_n 0, 1) := by decide +kernel
theorem dX7_init_5 : decode cX7_init 5 = .ok (.bipush 30, 2) := by decide +kernel
theorem dX7_init_7 : decode cX7_init 7 = .ok (.newarray .int, 2) := by decide +kernel
theorem dX7_init_9 : decode cX7_init 9 = .ok (.putfield 9, 3) := by decide +kernel
theorem dX7_init_12 : decode cX7_init 12 = .ok (.aload_n 0, 1) := by decide +kernel
theorem dX7_init_13 : decode cX7_init 13 = .ok (.bipush 8, 2) := by decide +kernel
theorem dX7_init_15 : decode cX7_init 15 = .ok (.newarray .long, 2) := by decide +kernel
theorem dX7_init_17 : decode cX7_init 17 = .ok (.putfield 15, 3) := by decide +kernel
theorem dX7_init_20 : decode cX7_init 20 = .ok (.aload_n 0, 1) := by decide +kernel
theorem dX7_init_21 : decode cX7_init 21 = .ok (.sipush 384, 3) := by decide +kernel
theorem dX7_init_24 : decode cX7_init 24 = .ok (.newarray .byte, 2) := by decide +kernel
theorem dX7_init_26 : decode cX7_init 26 = .ok (.putfield 19, 3) := by decide +kernel
theorem dX7_init_29 : decode cX7_init 29 = .ok (.aload_n 0, 1) := by decide +kernel
theorem dX7_init_30 : decode cX7_init 30 = .ok (.iconst 1, 1) := by decide +kernel
theorem dX7_init_31 : decode cX7_init 31 = .ok (.putfield 23, 3) := by decide +kernel
theorem dX7_init_34 : decode cX7_init 34 = .ok (.aload_n 0, 1) := by decide +kernel
theorem dX7_init_35 : decode cX7_init 35 = .ok (.getfield 9, 3) := by decide +kernel
theorem dX7_init_38 : decode cX7_init 38 = .ok (.iconst (-1), 1) := by decide +kernel
theorem dX7_init_39 : decode cX7_init 39 = .ok (.invokestatic 27, 3) := by decide +kernel
theorem dX7_init_42 : decode cX7_init 42 = .ok (.return_, 1) := by decide +kernel
theorem dX7_holds_0 : decode cX7_holds 0 = .ok (.lload_n 1, 1) := by decide +kernel
theorem dX7_holds_1 : decode cX7_holds 1 = .ok (.iload_n 3, 1) := by decide +kernel
theorem dX7_holds_2 : decode cX7_holds 2 = .ok (.i2l, 1) := by decide +kernel
theorem dX7_holds_3 : decode cX7_holds 3 = .ok (.ladd, 1) := by decide +kernel
theorem dX7_holds_4 : decode cX7_holds 4 = .ok (.aload_n 0, 1) := by decide +kernel
theorem dX7_holds_5 : decode cX7_holds 5 = .ok (.getfield 23, 3) := by decide +kernel
theorem dX7_holds_8 : decode cX7_holds 8 = .ok (.i2l, 1) := by decide +kernel
theorem dX7_holds_9 : decode cX7_holds 9 = .ok (.ldc2_w 33, 3) := by decide +kernel
theorem dX7_holds_12 : decode cX7_holds 12 = .ok (.lmul, 1) := by decide +kernel
theorem dX7_holds_13 : decode cX7_holds 13 = .ok (.lcmp, 1) := by decide +kernel
theorem dX7_holds_14 : decode cX7_holds 14 = .ok (.ifCond .gt 7, 3) := by decide +kernel
theorem dX7_holds_17 : decode cX7_holds 17 = .ok (.iconst 1, 1) := by decide +kernel
theorem dX7_holds_18 : decode cX7_holds 18 = .ok (.goto 4, 3) := by decide +kernel
theorem dX7_holds_21 : decode cX7_holds 21 = .ok (.iconst 0, 1) := by decide +kernel
theorem dX7_holds_22 : decode cX7_holds 22 = .ok (.ireturn, 1) := by decide +kernel
theorem dX7_find_0 : decode cX7_find 0 = .ok (.lload_n 1, 1) := by decide +kernel
theorem dX7_find_1 : decode cX7_find 1 = .ok (.ldc2_w 35, 3) := by decide +kernel
theorem dX7_find_4 : decode cX7_find 4 = .ok (.land, 1) := by decide +kernel
theorem dX7_find_5 : decode cX7_find 5 = .ok (.lstore 6, 2) := by decide +kernel
theorem dX7_find_7 : decode cX7_find 7 = .ok (.lload 6, 2) := by decide +kernel
theorem dX7_find_9 : decode cX7_find 9 = .ok (.ldc2_w 37, 3) := by decide +kernel
theorem dX7_find_12 : decode cX7_find 12 = .ok (.lcmp, 1) := by decide +kernel
theorem dX7_find_13 : decode cX7_find 13 = .ok (.ifCond .lt 6, 3) := by decide +kernel
theorem dX7_find_16 : decode cX7_find 16 = .ok (.bipush (-6), 2) := by decide +kernel
theorem dX7_find_18 : decode cX7_find 18 = .ok (.ireturn, 1) := by decide +kernel
theorem dX7_find_19 : decode cX7_find 19 = .ok (.aload_n 0, 1) := by decide +kernel
theorem dX7_find_20 : decode cX7_find 20 = .ok (.getfield 9, 3) := by decide +kernel
theorem dX7_find_23 : decode cX7_find 23 = .ok (.lload 6, 2) := by decide +kernel
theorem dX7_find_25 : decode cX7_find 25 = .ok (.l2i, 1) := by decide +kernel
theorem dX7_find_26 : decode cX7_find 26 = .ok (.iaload, 1) := by decide +kernel
theorem dX7_find_27 : decode cX7_find 27 = .ok (.istore 8, 2) := by decide +kernel
theorem dX7_find_29 : decode cX7_find 29 = .ok (.aload 5, 2) := by decide +kernel
theorem dX7_find_31 : decode cX7_find 31 = .ok (.iload 8, 2) := by decide +kernel
theorem dX7_find_33 : decode cX7_find 33 = .ok (.invokevirtual 39, 3) := by decide +kernel
theorem dX7_find_36 : decode cX7_find 36 = .ok (.ifCond .ne 6, 3) := by decide +kernel
theorem dX7_find_39 : decode cX7_find 39 = .ok (.bipush (-7), 2) := by decide +kernel
theorem dX7_find_41 : decode cX7_find 41 = .ok (.ireturn, 1) := by decide +kernel
theorem dX7_find_42 : decode cX7_find 42 = .ok (.aload 5, 2) := by decide +kernel
theorem dX7_find_44 : decode cX7_find 44 = .ok (.getfield 45, 3) := by decide +kernel
theorem dX7_find_47 : decode cX7_find 47 = .ok (.iload 8, 2) := by decide +kernel
theorem dX7_find_49 : decode cX7_find 49 = .ok (.iaload, 1) := by decide +kernel
theorem dX7_find_50 : decode cX7_find 50 = .ok (.iload_n 3, 1) := by decide +kernel
theorem dX7_find_51 : decode cX7_find 51 = .ok (.if_icmp .ne 20, 3) := by decide +kernel
theorem dX7_find_54 : decode cX7_find 54 = .ok (.aload 5, 2) := by decide +kernel
theorem dX7_find_56 : decode cX7_find 56 = .ok (.getfield 48, 3) := by decide +kernel
theorem dX7_find_59 : decode cX7_find 59 = .ok (.iload 8, 2) := by decide +kernel
theorem dX7_find_61 : decode cX7_find 61 = .ok (.iaload, 1) := by decide +kernel
theorem dX7_find_62 : decode cX7_find 62 = .ok (.iload 4, 2) := by decide +kernel
theorem dX7_find_64 : decode cX7_find 64 = .ok (.if_icmp .ne 7, 3) := by decide +kernel
theorem dX7_find_67 : decode cX7_find 67 = .ok (.iconst 1, 1) := by decide +kernel
theorem dX7_find_68 : decode cX7_find 68 = .ok (.goto 4, 3) := by decide +kernel
theorem dX7_find_71 : decode cX7_find 71 = .ok (.iconst 0, 1) := by decide +kernel
theorem dX7_find_72 : decode cX7_find 72 = .ok (.istore 9, 2) := by decide +kernel
theorem dX7_find_74 : decode cX7_find 74 = .ok (.iload 9, 2) := by decide +kernel
theorem dX7_find_76 : decode cX7_find 76 = .ok (.ifCond .eq 8, 3) := by decide +kernel
theorem dX7_find_79 : decode cX7_find 79 = .ok (.iload 8, 2) := by decide +kernel
theorem dX7_find_81 : decode cX7_find 81 = .ok (.goto 5, 3) := by decide +kernel
theorem dX7_find_84 : decode cX7_find 84 = .ok (.bipush (-8), 2) := by decide +kernel
theorem dX7_find_86 : decode cX7_find 86 = .ok (.ireturn, 1) := by decide +kernel
theorem dX7_grow_0 : decode cX7_grow 0 = .ok (.lload_n 1, 1) := by decide +kernel
theorem dX7_grow_1 : decode cX7_grow 1 = .ok (.ldc2_w 35, 3) := by decide +kernel
theorem dX7_grow_4 : decode cX7_grow 4 = .ok (.land, 1) := by decide +kernel
theorem dX7_grow_5 : decode cX7_grow 5 = .ok (.lstore_n 3, 1) := by decide +kernel
theorem dX7_grow_6 : decode cX7_grow 6 = .ok (.aload_n 0, 1) := by decide +kernel
theorem dX7_grow_7 : decode cX7_grow 7 = .ok (.getfield 23, 3) := by decide +kernel
theorem dX7_grow_10 : decode cX7_grow 10 = .ok (.istore 5, 2) := by decide +kernel
theorem dX7_grow_12 : decode cX7_grow 12 = .ok (.lload_n 3, 1) := by decide +kernel
theorem dX7_grow_13 : decode cX7_grow 13 = .ok (.bipush 6, 2) := by decide +kernel
theorem dX7_grow_15 : decode cX7_grow 15 = .ok (.iload 5, 2) := by decide +kernel
theorem dX7_grow_17 : decode cX7_grow 17 = .ok (.isub, 1) := by decide +kernel
theorem dX7_grow_18 : decode cX7_grow 18 = .ok (.i2l, 1) := by decide +kernel
theorem dX7_grow_19 : decode cX7_grow 19 = .ok (.lcmp, 1) := by decide +kernel
theorem dX7_grow_20 : decode cX7_grow 20 = .ok (.ifCond .le 7, 3) := by decide +kernel
theorem dX7_grow_23 : decode cX7_grow 23 = .ok (.ldc2_w 35, 3) := by decide +kernel
theorem dX7_grow_26 : decode cX7_grow 26 = .ok (.lreturn, 1) := by decide +kernel
theorem dX7_grow_27 : decode cX7_grow 27 = .ok (.aload_n 0, 1) := by decide +kernel
theorem dX7_grow_28 : decode cX7_grow 28 = .ok (.iload 5, 2) := by decide +kernel
theorem dX7_grow_30 : decode cX7_grow 30 = .ok (.lload_n 3, 1) := by decide +kernel
theorem dX7_grow_31 : decode cX7_grow 31 = .ok (.l2i, 1) := by decide +kernel
theorem dX7_grow_32 : decode cX7_grow 32 = .ok (.iadd, 1) := by decide +kernel
theorem dX7_grow_33 : decode cX7_grow 33 = .ok (.putfield 23, 3) := by decide +kernel
theorem dX7_grow_36 : decode cX7_grow 36 = .ok (.iload 5, 2) := by decide +kernel
theorem dX7_grow_38 : decode cX7_grow 38 = .ok (.i2l, 1) := by decide +kernel
theorem dX7_grow_39 : decode cX7_grow 39 = .ok (.lreturn, 1) := by decide +kernel
theorem dX7_place_0 : decode cX7_place 0 = .ok (.lload_n 0, 1) := by decide +kernel
theorem dX7_place_1 : decode cX7_place 1 = .ok (.ldc2_w 35, 3) := by decide +kernel
theorem dX7_place_4 : decode cX7_place 4 = .ok (.land, 1) := by decide +kernel
theorem dX7_place_5 : decode cX7_place 5 = .ok (.iload_n 2, 1) := by decide +kernel
theorem dX7_place_6 : decode cX7_place 6 = .ok (.i2l, 1) := by decide +kernel
theorem dX7_place_7 : decode cX7_place 7 = .ok (.ldc2_w 35, 3) := by decide +kernel
theorem dX7_place_10 : decode cX7_place 10 = .ok (.land, 1) := by decide +kernel
theorem dX7_place_11 : decode cX7_place 11 = .ok (.ladd, 1) := by decide +kernel
theorem dX7_place_12 : decode cX7_place 12 = .ok (.lreturn, 1) := by decide +kernel
theorem dX7_width_0 : decode cX7_width 0 = .ok (.iload_n 0, 1) := by decide +kernel
theorem dX7_width_1 : decode cX7_width 1 = .ok (.tableswitch 106 41 61 #[103, 106, 103, 99, 99, 101, 101, 99, 99, 101, 101, 106, 106, 106, 103, 106, 103, 99, 101, 99, 101], 99) := by decide +kernel
theorem dX7_width_100 : decode cX7_width 100 = .ok (.iconst 1, 1) := by decide +kernel
theorem dX7_width_101 : decode cX7_width 101 = .ok (.ireturn, 1) := by decide +kernel
theorem dX7_width_102 : decode cX7_width 102 = .ok (.iconst 2, 1) := by decide +kernel
theorem dX7_width_103 : decode cX7_width 103 = .ok (.ireturn, 1) := by decide +kernel
theorem dX7_width_104 : decode cX7_width 104 = .ok (.bipush 8, 2) := by decide +kernel
theorem dX7_width_106 : decode cX7_width 106 = .ok (.ireturn, 1) := by decide +kernel
theorem dX7_width_107 : decode cX7_width 107 = .ok (.iconst 4, 1) := by decide +kernel
theorem dX7_width_108 : decode cX7_width 108 = .ok (.ireturn, 1) := by decide +kernel
theorem dX7_load_0 : decode cX7_load 0 = .ok (.lconst 0, 1) := by decide +kernel
theorem dX7_load_1 : decode cX7_load 1 = .ok (.lstore_n 3, 1) := by decide +kernel
theorem dX7_load_2 : decode cX7_load 2 = .ok (.iload_n 1, 1) := by decide +kernel
theorem dX7_load_3 : decode cX7_load 3 = .ok (.invokestatic 51, 3) := by decide +kernel
theorem dX7_load_6 : decode cX7_load 6 = .ok (.iconst 1, 1) := by decide +kernel
theorem dX7_load_7 : decode cX7_load 7 = .ok (.isub, 1) := by decide +kernel
theorem dX7_load_8 : decode cX7_load 8 = .ok (.istore 5, 2) := by decide +kernel
theorem dX7_load_10 : decode cX7_load 10 = .ok (.iload 5, 2) := by decide +kernel
theorem dX7_load_12 : decode cX7_load 12 = .ok (.ifCond .lt 29, 3) := by decide +kernel
theorem dX7_load_15 : decode cX7_load 15 = .ok (.lload_n 3, 1) := by decide +kernel
theorem dX7_load_16 : decode cX7_load 16 = .ok (.bipush 8, 2) := by decide +kernel
theorem dX7_load_18 : decode cX7_load 18 = .ok (.lshl, 1) := by decide +kernel
theorem dX7_load_19 : decode cX7_load 19 = .ok (.aload_n 0, 1) := by decide +kernel
theorem dX7_load_20 : decode cX7_load 20 = .ok (.getfield 19, 3) := by decide +kernel
theorem dX7_load_23 : decode cX7_load 23 = .ok (.iload_n 2, 1) := by decide +kernel
theorem dX7_load_24 : decode cX7_load 24 = .ok (.iload 5, 2) := by decide +kernel
theorem dX7_load_26 : decode cX7_load 26 = .ok (.iadd, 1) := by decide +kernel
theorem dX7_load_27 : decode cX7_load 27 = .ok (.baload, 1) := by decide +kernel
theorem dX7_load_28 : decode cX7_load 28 = .ok (.sipush 255, 3) := by decide +kernel
theorem dX7_load_31 : decode cX7_load 31 = .ok (.iand, 1) := by decide +kernel
theorem dX7_load_32 : decode cX7_load 32 = .ok (.i2l, 1) := by decide +kernel
theorem dX7_load_33 : decode cX7_load 33 = .ok (.lor, 1) := by decide +kernel
theorem dX7_load_34 : decode cX7_load 34 = .ok (.lstore_n 3, 1) := by decide +kernel
theorem dX7_load_35 : decode cX7_load 35 = .ok (.iinc 5 (-1), 3) := by decide +kernel
theorem dX7_load_38 : decode cX7_load 38 = .ok (.goto (-28), 3) := by decide +kernel
theorem dX7_load_41 : decode cX7_load 41 = .ok (.iload_n 1, 1) := by decide +kernel
theorem dX7_load_42 : decode cX7_load 42 = .ok (.tableswitch 82 44 52 #[50, 82, 59, 82, 68, 82, 73, 82, 78], 50) := by decide +kernel
theorem dX7_load_92 : decode cX7_load 92 = .ok (.lload_n 3, 1) := by decide +kernel
theorem dX7_load_93 : decode cX7_load 93 = .ok (.l2i, 1) := by decide +kernel
theorem dX7_load_94 : decode cX7_load 94 = .ok (.i2b, 1) := by decide +kernel
theorem dX7_load_95 : decode cX7_load 95 = .ok (.i2l, 1) := by decide +kernel
theorem dX7_load_96 : decode cX7_load 96 = .ok (.ldc2_w 35, 3) := by decide +kernel
theorem dX7_load_99 : decode cX7_load 99 = .ok (.land, 1) := by decide +kernel
theorem dX7_load_100 : decode cX7_load 100 = .ok (.lreturn, 1) := by decide +kernel
theorem dX7_load_101 : decode cX7_load 101 = .ok (.lload_n 3, 1) := by decide +kernel
theorem dX7_load_102 : decode cX7_load 102 = .ok (.l2i, 1) := by decide +kernel
theorem dX7_load_103 : decode cX7_load 103 = .ok (.i2s, 1) := by decide +kernel
theorem dX7_load_104 : decode cX7_load 104 = .ok (.i2l, 1) := by decide +kernel
theorem dX7_load_105 : decode cX7_load 105 = .ok (.ldc2_w 35, 3) := by decide +kernel
theorem dX7_load_108 : decode cX7_load 108 = .ok (.land, 1) := by decide +kernel
theorem dX7_load_109 : decode cX7_load 109 = .ok (.lreturn, 1) := by decide +kernel
theorem dX7_load_110 : decode cX7_load 110 = .ok (.lload_n 3, 1) := by decide +kernel
theorem dX7_load_111 : decode cX7_load 111 = .ok (.l2i, 1) := by decide +kernel
theorem dX7_load_112 : decode cX7_load 112 = .ok (.i2b, 1) := by decide +kernel
theorem dX7_load_113 : decode cX7_load 113 = .ok (.i2l, 1) := by decide +kernel
theorem dX7_load_114 : decode cX7_load 114 = .ok (.lreturn, 1) := by decide +kernel
theorem dX7_load_115 : decode cX7_load 115 = .ok (.lload_n 3, 1) := by decide +kernel
theorem dX7_load_116 : decode cX7_load 116 = .ok (.l2i, 1) := by decide +kernel
theorem dX7_load_117 : decode cX7_load 117 = .ok (.i2s, 1) := by decide +kernel
theorem dX7_load_118 : decode cX7_load 118 = .ok (.i2l, 1) := by decide +kernel
theorem dX7_load_119 : decode cX7_load 119 = .ok (.lreturn, 1) := by decide +kernel
theorem dX7_load_120 : decode cX7_load 120 = .ok (.lload_n 3, 1) := by decide +kernel
theorem dX7_load_121 : decode cX7_load 121 = .ok (.l2i, 1) := by decide +kernel
theorem dX7_load_122 : decode cX7_load 122 = .ok (.i2l, 1) := by decide +kernel
theorem dX7_load_123 : decode cX7_load 123 = .ok (.lreturn, 1) := by decide +kernel
theorem dX7_load_124 : decode cX7_load 124 = .ok (.lload_n 3, 1) := by decide +kernel
theorem dX7_load_125 : decode cX7_load 125 = .ok (.lreturn, 1) := by decide +kernel
theorem dX7_store_0 : decode cX7_store 0 = .ok (.iconst 0, 1) := by decide +kernel
theorem dX7_store_1 : decode cX7_store 1 = .ok (.istore 5, 2) := by decide +kernel
theorem dX7_store_3 : decode cX7_store 3 = .ok (.iload 5, 2) := by decide +kernel
theorem dX7_store_5 : decode cX7_store 5 = .ok (.iload_n 1, 1) := by decide +kernel
theorem dX7_store_6 : decode cX7_store 6 = .ok (.invokestatic 51, 3) := by decide +kernel
theorem dX7_store_9 : decode cX7_store 9 = .ok (.if_icmp .ge 27, 3) := by decide +kernel
theorem dX7_store_12 : decode cX7_store 12 = .ok (.aload_n 0, 1) := by decide +kernel
theorem dX7_store_13 : decode cX7_store 13 = .ok (.getfield 19, 3) := by decide +kernel
theorem dX7_store_16 : decode cX7_store 16 = .ok (.iload_n 2, 1) := by decide +kernel
theorem dX7_store_17 : decode cX7_store 17 = .ok (.iload 5, 2) := by decide +kernel
theorem dX7_store_19 : decode cX7_store 19 = .ok (.iadd, 1) := by decide +kernel
theorem dX7_store_20 : decode cX7_store 20 = .ok (.lload_n 3, 1) := by decide +kernel
theorem dX7_store_21 : decode cX7_store 21 = .ok (.bipush 8, 2) := by decide +kernel
theorem dX7_store_23 : decode cX7_store 23 = .ok (.iload 5, 2) := by decide +kernel
theorem dX7_store_25 : decode cX7_store 25 = .ok (.imul, 1) := by decide +kernel
theorem dX7_store_26 : decode cX7_store 26 = .ok (.lushr, 1) := by decide +kernel
theorem dX7_store_27 : decode cX7_store 27 = .ok (.l2i, 1) := by decide +kernel
theorem dX7_store_28 : decode cX7_store 28 = .ok (.i2b, 1) := by decide +kernel
theorem dX7_store_29 : decode cX7_store 29 = .ok (.bastore, 1) := by decide +kernel
theorem dX7_store_30 : decode cX7_store 30 = .ok (.iinc 5 1, 3) := by decide +kernel
theorem dX7_store_33 : decode cX7_store 33 = .ok (.goto (-30), 3) := by decide +kernel
theorem dX7_store_36 : decode cX7_store 36 = .ok (.return_, 1) := by decide +kernel
theorem dX8_init_0 : decode cX8_init 0 = .ok (.aload_n 0, 1) := by decide +kernel
theorem dX8_init_1 : decode cX8_init 1 = .ok (.invokespecial 3, 3) := by decide +kernel
theorem dX8_init_4 : decode cX8_init 4 = .ok (.aload_n 0, 1) := by decide +kernel
theorem dX8_init_5 : decode cX8_init 5 = .ok (.bipush 32, 2) := by decide +kernel
theorem dX8_init_7 : decode cX8_init 7 = .ok (.newarray .int, 2) := by decide +kernel
theorem dX8_init_9 : decode cX8_init 9 = .ok (.putfield 9, 3) := by decide +kernel
theorem dX8_init_12 : decode cX8_init 12 = .ok (.aload_n 0, 1) := by decide +kernel
theorem dX8_init_13 : decode cX8_init 13 = .ok (.bipush 32, 2) := by decide +kernel
theorem dX8_init_15 : decode cX8_init 15 = .ok (.newarray .boolean, 2) := by decide +kernel
theorem dX8_init_17 : decode cX8_init 17 = .ok (.putfield 15, 3) := by decide +kernel
theorem dX8_init_20 : decode cX8_init 20 = .ok (.aload_n 0, 1) := by decide +kernel
theorem dX8_init_21 : decode cX8_init 21 = .ok (.iconst 0, 1) := by decide +kernel
theorem dX8_init_22 : decode cX8_init 22 = .ok (.putfield 19, 3) := by decide +kernel
theorem dX8_init_25 : decode cX8_init 25 = .ok (.aload_n 0, 1) := by decide +kernel
theorem dX8_init_26 : decode cX8_init 26 = .ok (.iconst 0, 1) := by decide +kernel
theorem dX8_init_27 : decode cX8_init 27 = .ok (.putfield 23, 3) := by decide +kernel
theorem dX8_init_30 : decode cX8_init 30 = .ok (.aload_n 0, 1) := by decide +kernel
theorem dX8_init_31 : decode cX8_init 31 = .ok (.iconst 0, 1) := by decide +kernel
theorem dX8_init_32 : decode cX8_init 32 = .ok (.putfield 26, 3) := by decide +kernel
theorem dX8_init_35 : decode cX8_init 35 = .ok (.aload_n 0, 1) := by decide +kernel
theorem dX8_init_36 : decode cX8_init 36 = .ok (.iconst (-1), 1) := by decide +kernel
theorem dX8_init_37 : decode cX8_init 37 = .ok (.putfield 29, 3) := by decide +kernel
theorem dX8_init_40 : decode cX8_init 40 = .ok (.aload_n 0, 1) := by decide +kernel
theorem dX8_init_41 : decode cX8_init 41 = .ok (.aload_n 1, 1) := by decide +kernel
theorem dX8_init_42 : decode cX8_init 42 = .ok (.putfield 32, 3) := by decide +kernel
theorem dX8_init_45 : decode cX8_init 45 = .ok (.return_, 1) := by decide +kernel
theorem dX8_start_0 : decode cX8_start 0 = .ok (.aload_n 0, 1) := by decide +kernel
theorem dX8_start_1 : decode cX8_start 1 = .ok (.getfield 32, 3) := by decide +kernel
theorem dX8_start_4 : decode cX8_start 4 = .ok (.getfield 36, 3) := by decide +kernel
theorem dX8_start_7 : decode cX8_start 7 = .ok (.istore 4, 2) := by decide +kernel
theorem dX8_start_9 : decode cX8_start 9 = .ok (.aload_n 0, 1) := by decide +kernel
theorem dX8_start_10 : decode cX8_start 10 = .ok (.getfield 32, 3) := by decide +kernel
theorem dX8_start_13 : decode cX8_start 13 = .ok (.getfield 41, 3) := by decide +kernel
theorem dX8_start_16 : decode cX8_start 16 = .ok (.iconst (-1), 1) := by decide +kernel
theorem dX8_start_17 : decode cX8_start 17 = .ok (.if_icmp .ne 37, 3) := by decide +kernel
theorem dX8_start_20 : decode cX8_start 20 = .ok (.iload 4, 2) := by decide +kernel
theorem dX8_start_22 : decode cX8_start 22 = .ok (.bipush 40, 2) := by decide +kernel
theorem dX8_start_24 : decode cX8_start 24 = .ok (.if_icmp .ge 30, 3) := by decide +kernel
theorem dX8_start_27 : decode cX8_start 27 = .ok (.iload_n 1, 1) := by decide +kernel
theorem dX8_start_28 : decode cX8_start 28 = .ok (.bipush 8, 2) := by decide +kernel
theorem dX8_start_30 : decode cX8_start 30 = .ok (.invokestatic 44, 3) := by decide +kernel
theorem dX8_start_33 : decode cX8_start 33 = .ok (.ifCond .eq 21, 3) := by decide +kernel
theorem dX8_start_36 : decode cX8_start 36 = .ok (.iload_n 2, 1) := by decide +kernel
theorem dX8_start_37 : decode cX8_start 37 = .ok (.bipush 8, 2) := by decide +kernel
theorem dX8_start_39 : decode cX8_start 39 = .ok (.invokestatic 44, 3) := by decide +kernel
theorem dX8_start_42 : decode cX8_start 42 = .ok (.ifCond .eq 12, 3) := by decide +kernel
theorem dX8_start_45 : decode cX8_start 45 = .ok (.iload_n 3, 1) := by decide +kernel
theorem dX8_start_46 : decode cX8_start 46 = .ok (.bipush 8, 2) := by decide +kernel
theorem dX8_start_48 : decode cX8_start 48 = .ok (.invokestatic 44, 3) := by decide +kernel
theorem dX8_start_51 : decode cX8_start 51 = .ok (.ifCond .ne 5, 3) := by decide +kernel
theorem dX8_start_54 : decode cX8_start 54 = .ok (.iconst (-1), 1) := by decide +kernel
theorem dX8_start_55 : decode cX8_start 55 = .ok (.ireturn, 1) := by decide +kernel
theorem dX8_start_56 : decode cX8_start 56 = .ok (.aload_n 0, 1) := by decide +kernel
theorem dX8_start_57 : decode cX8_start 57 = .ok (.getfield 32, 3) := by decide +kernel
theorem dX8_start_60 : decode cX8_start 60 = .ok (.getfield 48, 3) := by decide +kernel
theorem dX8_start_63 : decode cX8_start 63 = .ok (.iload 4, 2) := by decide +kernel
theorem dX8_start_65 : decode cX8_start 65 = .ok (.iload_n 1, 1) := by decide +kernel
theorem dX8_start_66 : decode cX8_start 66 = .ok (.iastore, 1) := by decide +kernel
theorem dX8_start_67 : decode cX8_start 67 = .ok (.aload_n 0, 1) := by decide +kernel
theorem dX8_start_68 : decode cX8_start 68 = .ok (.getfield 32, 3) := by decide +kernel
theorem dX8_start_71 : decode cX8_start 71 = .ok (.getfield 51, 3) := by decide +kernel
theorem dX8_start_74 : decode cX8_start 74 = .ok (.iload 4, 2) := by decide +kernel
theorem dX8_start_76 : decode cX8_start 76 = .ok (.iload_n 2, 1) := by decide +kernel
theorem dX8_start_77 : decode cX8_start 77 = .ok (.iastore, 1) := by decide +kernel
theorem dX8_start_78 : decode cX8_start 78 = .ok (.aload_n 0, 1) := by decide +kernel
theorem dX8_start_79 : decode cX8_start 79 = .ok (.getfield 32, 3) := by decide +kernel
theorem dX8_start_82 : decode cX8_start 82 = .ok (.getfield 54, 3) := by decide +kernel
theorem dX8_start_85 : decode cX8_start 85 = .ok (.iload 4, 2) := by decide +kernel
theorem dX8_start_87 : decode cX8_start 87 = .ok (.iload_n 3, 1) := by decide +kernel
theorem dX8_start_88 : decode cX8_start 88 = .ok (.iastore, 1) := by decide +kernel
theorem dX8_start_89 : decode cX8_start 89 = .ok (.aload_n 0, 1) := by decide +kernel
theorem dX8_start_90 : decode cX8_start 90 = .ok (.getfield 32, 3) := by decide +kernel
theorem dX8_start_93 : decode cX8_start 93 = .ok (.getfield 57, 3) := by decide +kernel
theorem dX8_start_96 : decode cX8_start 96 = .ok (.iload 4, 2) := by decide +kernel
theorem dX8_start_98 : decode cX8_start 98 = .ok (.iconst 0, 1) := by decide +kernel
theorem dX8_start_99 : decode cX8_start 99 = .ok (.iastore, 1) := by decide +kernel
theorem dX8_start_100 : decode cX8_start 100 = .ok (.aload_n 0, 1) := by decide +kernel
theorem dX8_start_101 : decode cX8_start 101 = .ok (.getfield 32, 3) := by decide +kernel
theorem dX8_start_104 : decode cX8_start 104 = .ok (.getfield 60, 3) := by decide +kernel
theorem dX8_start_107 : decode cX8_start 107 = .ok (.iload 4, 2) := by decide +kernel
theorem dX8_start_109 : decode cX8_start 109 = .ok (.iconst 0, 1) := by decide +kernel
theorem dX8_start_110 : decode cX8_start 110 = .ok (.iastore, 1) := by decide +kernel
theorem dX8_start_111 : decode cX8_start 111 = .ok (.aload_n 0, 1) := by decide +kernel
theorem dX8_start_112 : decode cX8_start 112 = .ok (.getfield 32, 3) := by decide +kernel
theorem dX8_start_115 : decode cX8_start 115 = .ok (.getfield 63, 3) := by decide +kernel
theorem dX8_start_118 : decode cX8_start 118 = .ok (.iload 4, 2) := by decide +kernel
theorem dX8_start_120 : decode cX8_start 120 = .ok (.aload_n 0, 1) := by decide +kernel
theorem dX8_start_121 : decode cX8_start 121 = .ok (.getfield 32, 3) := by decide +kernel
theorem dX8_start_124 : decode cX8_start 124 = .ok (.getfield 66, 3) := by decide +kernel
theorem dX8_start_127 : decode cX8_start 127 = .ok (.iastore, 1) := by decide +kernel
theorem dX8_start_128 : decode cX8_start 128 = .ok (.aload_n 0, 1) := by decide +kernel
theorem dX8_start_129 : decode cX8_start 129 = .ok (.getfield 32, 3) := by decide +kernel
theorem dX8_start_132 : decode cX8_start 132 = .ok (.iload 4, 2) := by decide +kernel
theorem dX8_start_134 : decode cX8_start 134 = .ok (.iconst 1, 1) := by decide +kernel
theorem dX8_start_135 : decode cX8_start 135 = .ok (.iadd, 1) := by decide +kernel
theorem dX8_start_136 : decode cX8_start 136 = .ok (.putfield 36, 3) := by decide +kernel
theorem dX8_start_139 : decode cX8_start 139 = .ok (.aload_n 0, 1) := by decide +kernel
theorem dX8_start_140 : decode cX8_start 140 = .ok (.getfield 32, 3) := by decide +kernel
theorem dX8_start_143 : decode cX8_start 143 = .ok (.iload 4, 2) := by decide +kernel
theorem dX8_start_145 : decode cX8_start 145 = .ok (.putfield 41, 3) := by decide +kernel
theorem dX8_start_148 : decode cX8_start 148 = .ok (.aload_n 0, 1) := by decide +kernel
theorem dX8_start_149 : decode cX8_start 149 = .ok (.getfield 9, 3) := by decide +kernel
theorem dX8_start_152 : decode cX8_start 152 = .ok (.iconst 0, 1) := by decide +kernel
theorem dX8_start_153 : decode cX8_start 153 = .ok (.iconst (-1), 1) := by decide +kernel
theorem dX8_start_154 : decode cX8_start 154 = .ok (.iastore, 1) := by decide +kernel
theorem dX8_start_155 : decode cX8_start 155 = .ok (.aload_n 0, 1) := by decide +kernel
theorem dX8_start_156 : decode cX8_start 156 = .ok (.getfield 15, 3) := by decide +kernel
theorem dX8_start_159 : decode cX8_start 159 = .ok (.iconst 0, 1) := by decide +kernel
theorem dX8_start_160 : decode cX8_start 160 = .ok (.iconst 0, 1) := by decide +kernel
theorem dX8_start_161 : decode cX8_start 161 = .ok (.bastore, 1) := by decide +kernel
theorem dX8_start_162 : decode cX8_start 162 = .ok (.aload_n 0, 1) := by decide +kernel
theorem dX8_start_163 : decode cX8_start 163 = .ok (.iconst 1, 1) := by decide +kernel
theorem dX8_start_164 : decode cX8_start 164 = .ok (.putfield 19, 3) := by decide +kernel
theorem dX8_start_167 : decode cX8_start 167 = .ok (.aload_n 0, 1) := by decide +kernel
theorem dX8_start_168 : decode cX8_start 168 = .ok (.iconst 0, 1) := by decide +kernel
theorem dX8_start_169 : decode cX8_start 169 = .ok (.putfield 23, 3) := by decide +kernel
theorem dX8_start_172 : decode cX8_start 172 = .ok (.aload_n 0, 1) := by decide +kernel
theorem dX8_start_173 : decode cX8_start 173 = .ok (.iconst 0, 1) := by decide +kernel
theorem dX8_start_174 : decode cX8_start 174 = .ok (.putfield 26, 3) := by decide +kernel
theorem dX8_start_177 : decode cX8_start 177 = .ok (.iload 4, 2) := by decide +kernel
theorem dX8_start_179 : decode cX8_start 179 = .ok (.ireturn, 1) := by decide +kernel
theorem dX8_abandon_0 : decode cX8_abandon 0 = .ok (.aload_n 0, 1) := by decide +kernel
theorem dX8_abandon_1 : decode cX8_abandon 1 = .ok (.getfield 32, 3) := by decide +kernel
theorem dX8_abandon_4 : decode cX8_abandon 4 = .ok (.getfield 41, 3) := by decide +kernel
theorem dX8_abandon_7 : decode cX8_abandon 7 = .ok (.iconst (-1), 1) := by decide +kernel
theorem dX8_abandon_8 : decode cX8_abandon 8 = .ok (.if_icmp .ne 5, 3) := by decide +kernel
theorem dX8_abandon_11 : decode cX8_abandon 11 = .ok (.iconst 0, 1) := by decide +kernel
theorem dX8_abandon_12 : decode cX8_abandon 12 = .ok (.ireturn, 1) := by decide +kernel
theorem dX8_abandon_13 : decode cX8_abandon 13 = .ok (.aload_n 0, 1) := by decide +kernel
theorem dX8_abandon_14 : decode cX8_abandon 14 = .ok (.getfield 32, 3) := by decide +kernel
theorem dX8_abandon_17 : decode cX8_abandon 17 = .ok (.aload_n 0, 1) := by decide +kernel
theorem dX8_abandon_18 : decode cX8_abandon 18 = .ok (.getfield 32, 3) := by decide +kernel
theorem dX8_abandon_21 : decode cX8_abandon 21 = .ok (.getfield 63, 3) := by decide +kernel
theorem dX8_abandon_24 : decode cX8_abandon 24 = .ok (.aload_n 0, 1) := by decide +kernel
theorem dX8_abandon_25 : decode cX8_abandon 25 = .ok (.getfield 32, 3) := by decide +kernel
theorem dX8_abandon_28 : decode cX8_abandon 28 = .ok (.getfield 41, 3) := by decide +kernel
theorem dX8_abandon_31 : decode cX8_abandon 31 = .ok (.iaload, 1) := by decide +kernel
theorem dX8_abandon_32 : decode cX8_abandon 32 = .ok (.putfield 66, 3) := by decide +kernel
theorem dX8_abandon_35 : decode cX8_abandon 35 = .ok (.aload_n 0, 1) := by decide +kernel
theorem dX8_abandon_36 : decode cX8_abandon 36 = .ok (.getfield 32, 3) := by decide +kernel
theorem dX8_abandon_39 : decode cX8_abandon 39 = .ok (.aload_n 0, 1) := by decide +kernel
theorem dX8_abandon_40 : decode cX8_abandon 40 = .ok (.getfield 32, 3) := by decide +kernel
theorem dX8_abandon_43 : decode cX8_abandon 43 = .ok (.getfield 41, 3) := by decide +kernel
theorem dX8_abandon_46 : decode cX8_abandon 46 = .ok (.putfield 36, 3) := by decide +kernel
theorem dX8_abandon_49 : decode cX8_abandon 49 = .ok (.aload_n 0, 1) := by decide +kernel
theorem dX8_abandon_50 : decode cX8_abandon 50 = .ok (.invokevirtual 69, 3) := by decide +kernel
theorem dX8_abandon_53 : decode cX8_abandon 53 = .ok (.iconst 1, 1) := by decide +kernel
theorem dX8_abandon_54 : decode cX8_abandon 54 = .ok (.ireturn, 1) := by decide +kernel
theorem dX8_write_0 : decode cX8_write 0 = .ok (.aload_n 0, 1) := by decide +kernel
theorem dX8_write_1 : decode cX8_write 1 = .ok (.getfield 32, 3) := by decide +kernel
theorem dX8_write_4 : decode cX8_write 4 = .ok (.getfield 66, 3) := by decide +kernel
theorem dX8_write_7 : decode cX8_write 7 = .ok (.istore 4, 2) := by decide +kernel
theorem dX8_write_9 : decode cX8_write 9 = .ok (.aload_n 0, 1) := by decide +kernel
theorem dX8_write_10 : decode cX8_write 10 = .ok (.getfield 32, 3) := by decide +kernel
theorem dX8_write_13 : decode cX8_write 13 = .ok (.getfield 41, 3) := by decide +kernel
theorem dX8_write_16 : decode cX8_write 16 = .ok (.iconst (-1), 1) := by decide +kernel
theorem dX8_write_17 : decode cX8_write 17 = .ok (.if_icmp .eq 23, 3) := by decide +kernel
theorem dX8_write_20 : decode cX8_write 20 = .ok (.aload_n 0, 1) := by decide +kernel
theorem dX8_write_21 : decode cX8_write 21 = .ok (.getfield 32, 3) := by decide +kernel
theorem dX8_write_24 : decode cX8_write 24 = .ok (.invokevirtual 72, 3) := by decide +kernel
theorem dX8_write_27 : decode cX8_write 27 = .ok (.ifCond .eq 13, 3) := by decide +kernel
theorem dX8_write_30 : decode cX8_write 30 = .ok (.aload_n 0, 1) := by decide +kernel
theorem dX8_write_31 : decode cX8_write 31 = .ok (.iload_n 1, 1) := by decide +kernel
theorem dX8_write_32 : decode cX8_write 32 = .ok (.iload_n 2, 1) := by decide +kernel
theorem dX8_write_33 : decode cX8_write 33 = .ok (.iload_n 3, 1) := by decide +kernel
theorem dX8_write_34 : decode cX8_write 34 = .ok (.invokevirtual 76, 3) := by decide +kernel
theorem dX8_write_37 : decode cX8_write 37 = .ok (.ifCond .ne 5, 3) := by decide +kernel
theorem dX8_write_40 : decode cX8_write 40 = .ok (.iconst (-1), 1) := by decide +kernel
theorem dX8_write_41 : decode cX8_write 41 = .ok (.ireturn, 1) := by decide +kernel
theorem dX8_write_42 : decode cX8_write 42 = .ok (.aload_n 0, 1) := by decide +kernel
theorem dX8_write_43 : decode cX8_write 43 = .ok (.getfield 32, 3) := by decide +kernel
theorem dX8_write_46 : decode cX8_write 46 = .ok (.getfield 80, 3) := by decide +kernel
theorem dX8_write_49 : decode cX8_write 49 = .ok (.iload 4, 2) := by decide +kernel
theorem dX8_write_51 : decode cX8_write 51 = .ok (.iload_n 1, 1) := by decide +kernel
theorem dX8_write_52 : decode cX8_write 52 = .ok (.iastore, 1) := by decide +kernel
theorem dX8_write_53 : decode cX8_write 53 = .ok (.aload_n 0, 1) := by decide +kernel
theorem dX8_write_54 : decode cX8_write 54 = .ok (.getfield 32, 3) := by decide +kernel
theorem dX8_write_57 : decode cX8_write 57 = .ok (.getfield 83, 3) := by decide +kernel
theorem dX8_write_60 : decode cX8_write 60 = .ok (.iload 4, 2) := by decide +kernel
theorem dX8_write_62 : decode cX8_write 62 = .ok (.iload_n 2, 1) := by decide +kernel
theorem dX8_write_63 : decode cX8_write 63 = .ok (.iastore, 1) := by decide +kernel
theorem dX8_write_64 : decode cX8_write 64 = .ok (.aload_n 0, 1) := by decide +kernel
theorem dX8_write_65 : decode cX8_write 65 = .ok (.getfield 32, 3) := by decide +kernel
theorem dX8_write_68 : decode cX8_write 68 = .ok (.getfield 86, 3) := by decide +kernel
theorem dX8_write_71 : decode cX8_write 71 = .ok (.iload 4, 2) := by decide +kernel
theorem dX8_write_73 : decode cX8_write 73 = .ok (.iload_n 3, 1) := by decide +kernel
theorem dX8_write_74 : decode cX8_write 74 = .ok (.iastore, 1) := by decide +kernel
theorem dX8_write_75 : decode cX8_write 75 = .ok (.aload_n 0, 1) := by decide +kernel
theorem dX8_write_76 : decode cX8_write 76 = .ok (.getfield 32, 3) := by decide +kernel
theorem dX8_write_79 : decode cX8_write 79 = .ok (.iload 4, 2) := by decide +kernel
theorem dX8_write_81 : decode cX8_write 81 = .ok (.iconst 1, 1) := by decide +kernel
theorem dX8_write_82 : decode cX8_write 82 = .ok (.iadd, 1) := by decide +kernel
theorem dX8_write_83 : decode cX8_write 83 = .ok (.putfield 66, 3) := by decide +kernel
theorem dX8_write_86 : decode cX8_write 86 = .ok (.aload_n 0, 1) := by decide +kernel
theorem dX8_write_87 : decode cX8_write 87 = .ok (.getfield 32, 3) := by decide +kernel
theorem dX8_write_90 : decode cX8_write 90 = .ok (.getfield 66, 3) := by decide +kernel
theorem dX8_write_93 : decode cX8_write 93 = .ok (.ireturn, 1) := by decide +kernel
theorem dX8_ownOperands_0 : decode cX8_ownOperands 0 = .ok (.aload_n 0, 1) := by decide +kernel
theorem dX8_ownOperands_1 : decode cX8_ownOperands 1 = .ok (.getfield 19, 3) := by decide +kernel
theorem dX8_ownOperands_4 : decode cX8_ownOperands 4 = .ok (.ifCond .ne 7, 3) := by decide +kernel
theorem dX8_ownOperands_7 : decode cX8_ownOperands 7 = .ok (.iconst 0, 1) := by decide +kernel
theorem dX8_ownOperands_8 : decode cX8_ownOperands 8 = .ok (.goto 12, 3) := by decide +kernel
theorem dX8_ownOperands_11 : decode cX8_ownOperands 11 = .ok (.aload_n 0, 1) := by decide +kernel
theorem dX8_ownOperands_12 : decode cX8_ownOperands 12 = .ok (.getfield 23, 3) := by decide +kernel
theorem dX8_ownOperands_15 : decode cX8_ownOperands 15 = .ok (.aload_n 0, 1) := by decide +kernel
theorem dX8_ownOperands_16 : decode cX8_ownOperands 16 = .ok (.invokevirtual 89, 3) := by decide +kernel
theorem dX8_ownOperands_19 : decode cX8_ownOperands 19 = .ok (.isub, 1) := by decide +kernel
theorem dX8_ownOperands_20 : decode cX8_ownOperands 20 = .ok (.ireturn, 1) := by decide +kernel
theorem dX8_isDead_0 : decode cX8_isDead 0 = .ok (.aload_n 0, 1) := by decide +kernel
theorem dX8_isDead_1 : decode cX8_isDead 1 = .ok (.getfield 19, 3) := by decide +kernel
theorem dX8_isDead_4 : decode cX8_isDead 4 = .ok (.ifCond .le 21, 3) := by decide +kernel
theorem dX8_isDead_7 : decode cX8_isDead 7 = .ok (.aload_n 0, 1) := by decide +kernel
theorem dX8_isDead_8 : decode cX8_isDead 8 = .ok (.getfield 15, 3) := by decide +kernel
theorem dX8_isDead_11 : decode cX8_isDead 11 = .ok (.aload_n 0, 1) := by decide +kernel
theorem dX8_isDead_12 : decode cX8_isDead 12 = .ok (.getfield 19, 3) := by decide +kernel
theorem dX8_isDead_15 : decode cX8_isDead 15 = .ok (.iconst 1, 1) := by decide +kernel
theorem dX8_isDead_16 : decode cX8_isDead 16 = .ok (.isub, 1) := by decide +kernel
theorem dX8_isDead_17 : decode cX8_isDead 17 = .ok (.baload, 1) := by decide +kernel
theorem dX8_isDead_18 : decode cX8_isDead 18 = .ok (.ifCond .eq 7, 3) := by decide +kernel
theorem dX8_isDead_21 : decode cX8_isDead 21 = .ok (.iconst 1, 1) := by decide +kernel
theorem dX8_isDead_22 : decode cX8_isDead 22 = .ok (.goto 4, 3) := by decide +kernel
theorem dX8_isDead_25 : decode cX8_isDead 25 = .ok (.iconst 0, 1) := by decide +kernel
theorem dX8_isDead_26 : decode cX8_isDead 26 = .ok (.ireturn, 1) := by decide +kernel
theorem dX8_stop_0 : decode cX8_stop 0 = .ok (.aload_n 0, 1) := by decide +kernel
theorem dX8_stop_1 : decode cX8_stop 1 = .ok (.getfield 32, 3) := by decide +kernel
theorem dX8_stop_4 : decode cX8_stop 4 = .ok (.iconst (-1), 1) := by decide +kernel
theorem dX8_stop_5 : decode cX8_stop 5 = .ok (.putfield 41, 3) := by decide +kernel
theorem dX8_stop_8 : decode cX8_stop 8 = .ok (.aload_n 0, 1) := by decide +kernel
theorem dX8_stop_9 : decode cX8_stop 9 = .ok (.iconst 0, 1) := by decide +kernel
theorem dX8_stop_10 : decode cX8_stop 10 = .ok (.putfield 19, 3) := by decide +kernel
theorem dX8_stop_13 : decode cX8_stop 13 = .ok (.aload_n 0, 1) := by decide +kernel
theorem dX8_stop_14 : decode cX8_stop 14 = .ok (.iconst 0, 1) := by decide +kernel
theorem dX8_stop_15 : decode cX8_stop 15 = .ok (.putfield 23, 3) := by decide +kernel
theorem dX8_stop_18 : decode cX8_stop 18 = .ok (.aload_n 0, 1) := by decide +kernel
theorem dX8_stop_19 : decode cX8_stop 19 = .ok (.iconst 0, 1) := by decide +kernel
theorem dX8_stop_20 : decode cX8_stop 20 = .ok (.putfield 26, 3) := by decide +kernel
theorem dX8_stop_23 : decode cX8_stop 23 = .ok (.return_, 1) := by decide +kernel
theorem dX8_admits_0 : decode cX8_admits 0 = .ok (.aload_n 0, 1) := by decide +kernel
theorem dX8_admits_1 : decode cX8_admits 1 = .ok (.getfield 26, 3) := by decide +kernel
theorem dX8_admits_4 : decode cX8_admits 4 = .ok (.ifCond .gt 9, 3) := by decide +kernel
theorem dX8_admits_7 : decode cX8_admits 7 = .ok (.iload_n 1, 1) := by decide +kernel
theorem dX8_admits_8 : decode cX8_admits 8 = .ok (.bipush 6, 2) := by decide +kernel
theorem dX8_admits_10 : decode cX8_admits 10 = .ok (.if_icmp .ne 30, 3) := by decide +kernel
theorem dX8_admits_13 : decode cX8_admits 13 = .ok (.aload_n 0, 1) := by decide +kernel
theorem dX8_admits_14 : decode cX8_admits 14 = .ok (.getfield 26, 3) := by decide +kernel
theorem dX8_admits_17 : decode cX8_admits 17 = .ok (.ifCond .le 21, 3) := by decide +kernel
theorem dX8_admits_20 : decode cX8_admits 20 = .ok (.iload_n 1, 1) := by decide +kernel
theorem dX8_admits_21 : decode cX8_admits 21 = .ok (.bipush 6, 2) := by decide +kernel
theorem dX8_admits_23 : decode cX8_admits 23 = .ok (.if_icmp .ne 15, 3) := by decide +kernel
theorem dX8_admits_26 : decode cX8_admits 26 = .ok (.aload_n 0, 1) := by decide +kernel
theorem dX8_admits_27 : decode cX8_admits 27 = .ok (.iload_n 2, 1) := by decide +kernel
theorem dX8_admits_28 : decode cX8_admits 28 = .ok (.invokevirtual 93, 3) := by decide +kernel
theorem dX8_admits_31 : decode cX8_admits 31 = .ok (.ifCond .eq 7, 3) := by decide +kernel
theorem dX8_admits_34 : decode cX8_admits 34 = .ok (.iconst 1, 1) := by decide +kernel
theorem dX8_admits_35 : decode cX8_admits 35 = .ok (.goto 4, 3) := by decide +kernel
theorem dX8_admits_38 : decode cX8_admits 38 = .ok (.iconst 0, 1) := by decide +kernel
theorem dX8_admits_39 : decode cX8_admits 39 = .ok (.ireturn, 1) := by decide +kernel
theorem dX8_admits_40 : decode cX8_admits 40 = .ok (.iload_n 1, 1) := by decide +kernel
theorem dX8_admits_41 : decode cX8_admits 41 = .ok (.tableswitch 223 0 17 #[87, 223, 93, 93, 101, 109, 223, 223, 223, 223, 223, 114, 119, 125, 131, 137, 142, 188], 87) := by decide +kernel
theorem dX8_admits_128 : decode cX8_admits 128 = .ok (.aload_n 0, 1) := by decide +kernel
theorem dX8_admits_129 : decode cX8_admits 129 = .ok (.invokevirtual 97, 3) := by decide +kernel
theorem dX8_admits_132 : decode cX8_admits 132 = .ok (.iconst 1, 1) := by decide +kernel
theorem dX8_admits_133 : decode cX8_admits 133 = .ok (.ireturn, 1) := by decide +kernel
theorem dX8_admits_134 : decode cX8_admits 134 = .ok (.aload_n 0, 1) := by decide +kernel
theorem dX8_admits_135 : decode cX8_admits 135 = .ok (.iload_n 2, 1) := by decide +kernel
theorem dX8_admits_136 : decode cX8_admits 136 = .ok (.iload_n 3, 1) := by decide +kernel
theorem dX8_admits_137 : decode cX8_admits 137 = .ok (.iconst 0, 1) := by decide +kernel
theorem dX8_admits_138 : decode cX8_admits 138 = .ok (.invokevirtual 100, 3) := by decide +kernel
theorem dX8_admits_141 : decode cX8_admits 141 = .ok (.ireturn, 1) := by decide +kernel
theorem dX8_admits_142 : decode cX8_admits 142 = .ok (.aload_n 0, 1) := by decide +kernel
theorem dX8_admits_143 : decode cX8_admits 143 = .ok (.iload_n 2, 1) := by decide +kernel
theorem dX8_admits_144 : decode cX8_admits 144 = .ok (.iload_n 3, 1) := by decide +kernel
theorem dX8_admits_145 : decode cX8_admits 145 = .ok (.iconst 1, 1) := by decide +kernel
theorem dX8_admits_146 : decode cX8_admits 146 = .ok (.invokevirtual 100, 3) := by decide +kernel
theorem dX8_admits_149 : decode cX8_admits 149 = .ok (.ireturn, 1) := by decide +kernel
theorem dX8_admits_150 : decode cX8_admits 150 = .ok (.aload_n 0, 1) := by decide +kernel
theorem dX8_admits_151 : decode cX8_admits 151 = .ok (.invokevirtual 103, 3) := by decide +kernel
theorem dX8_admits_154 : decode cX8_admits 154 = .ok (.ireturn, 1) := by decide +kernel
theorem dX8_admits_155 : decode cX8_admits 155 = .ok (.aload_n 0, 1) := by decide +kernel
theorem dX8_admits_156 : decode cX8_admits 156 = .ok (.invokevirtual 106, 3) := by decide +kernel
theorem dX8_admits_159 : decode cX8_admits 159 = .ok (.ireturn, 1) := by decide +kernel
theorem dX8_admits_160 : decode cX8_admits 160 = .ok (.aload_n 0, 1) := by decide +kernel
theorem dX8_admits_161 : decode cX8_admits 161 = .ok (.iload_n 2, 1) := by decide +kernel
theorem dX8_admits_162 : decode cX8_admits 162 = .ok (.invokevirtual 109, 3) := by decide +kernel
theorem dX8_admits_165 : decode cX8_admits 165 = .ok (.ireturn, 1) := by decide +kernel
theorem dX8_admits_166 : decode cX8_admits 166 = .ok (.aload_n 0, 1) := by decide +kernel
theorem dX8_admits_167 : decode cX8_admits 167 = .ok (.iload_n 2, 1) := by decide +kernel
theorem dX8_admits_168 : decode cX8_admits 168 = .ok (.invokevirtual 112, 3) := by decide +kernel
theorem dX8_admits_171 : decode cX8_admits 171 = .ok (.ireturn, 1) := by decide +kernel
theorem dX8_admits_172 : decode cX8_admits 172 = .ok (.aload_n 0, 1) := by decide +kernel
theorem dX8_admits_173 : decode cX8_admits 173 = .ok (.iload_n 2, 1) := by decide +kernel
theorem dX8_admits_174 : decode cX8_admits 174 = .ok (.invokevirtual 115, 3) := by decide +kernel
theorem dX8_admits_177 : decode cX8_admits 177 = .ok (.ireturn, 1) := by decide +kernel
theorem dX8_admits_178 : decode cX8_admits 178 = .ok (.aload_n 0, 1) := by decide +kernel
theorem dX8_admits_179 : decode cX8_admits 179 = .ok (.invokevirtual 118, 3) := by decide +kernel
theorem dX8_admits_182 : decode cX8_admits 182 = .ok (.ireturn, 1) := by decide +kernel
theorem dX8_admits_183 : decode cX8_admits 183 = .ok (.iload_n 2, 1) := by decide +kernel
theorem dX8_admits_184 : decode cX8_admits 184 = .ok (.ifCond .lt 43, 3) := by decide +kernel
theorem dX8_admits_187 : decode cX8_admits 187 = .ok (.iload_n 2, 1) := by decide +kernel
theorem dX8_admits_188 : decode cX8_admits 188 = .ok (.aload_n 0, 1) := by decide +kernel
theorem dX8_admits_189 : decode cX8_admits 189 = .ok (.getfield 32, 3) := by decide +kernel
theorem dX8_admits_192 : decode cX8_admits 192 = .ok (.getfield 36, 3) := by decide +kernel
theorem dX8_admits_195 : decode cX8_admits 195 = .ok (.if_icmp .ge 32, 3) := by decide +kernel
theorem dX8_admits_198 : decode cX8_admits 198 = .ok (.aload_n 0, 1) := by decide +kernel
theorem dX8_admits_199 : decode cX8_admits 199 = .ok (.aload_n 0, 1) := by decide +kernel
theorem dX8_admits_200 : decode cX8_admits 200 = .ok (.getfield 32, 3) := by decide +kernel
theorem dX8_admits_203 : decode cX8_admits 203 = .ok (.getfield 48, 3) := by decide +kernel
theorem dX8_admits_206 : decode cX8_admits 206 = .ok (.iload_n 2, 1) := by decide +kernel
theorem dX8_admits_207 : decode cX8_admits 207 = .ok (.iaload, 1) := by decide +kernel
theorem dX8_admits_208 : decode cX8_admits 208 = .ok (.aload_n 0, 1) := by decide +kernel
theorem dX8_admits_209 : decode cX8_admits 209 = .ok (.getfield 32, 3) := by decide +kernel
theorem dX8_admits_212 : decode cX8_admits 212 = .ok (.getfield 51, 3) := by decide +kernel
theorem dX8_admits_215 : decode cX8_admits 215 = .ok (.iload_n 2, 1) := by decide +kernel
theorem dX8_admits_216 : decode cX8_admits 216 = .ok (.iaload, 1) := by decide +kernel
theorem dX8_admits_217 : decode cX8_admits 217 = .ok (.invokevirtual 121, 3) := by decide +kernel
theorem dX8_admits_220 : decode cX8_admits 220 = .ok (.ifCond .eq 7, 3) := by decide +kernel
theorem dX8_admits_223 : decode cX8_admits 223 = .ok (.iconst 1, 1) := by decide +kernel
theorem dX8_admits_224 : decode cX8_admits 224 = .ok (.goto 4, 3) := by decide +kernel
theorem dX8_admits_227 : decode cX8_admits 227 = .ok (.iconst 0, 1) := by decide +kernel
theorem dX8_admits_228 : decode cX8_admits 228 = .ok (.ireturn, 1) := by decide +kernel
theorem dX8_admits_229 : decode cX8_admits 229 = .ok (.iload_n 2, 1) := by decide +kernel
theorem dX8_admits_230 : decode cX8_admits 230 = .ok (.bipush 8, 2) := by decide +kernel
theorem dX8_admits_232 : decode cX8_admits 232 = .ok (.invokestatic 44, 3) := by decide +kernel
theorem dX8_admits_235 : decode cX8_admits 235 = .ok (.ifCond .eq 27, 3) := by decide +kernel
theorem dX8_admits_238 : decode cX8_admits 238 = .ok (.iload_n 3, 1) := by decide +kernel
theorem dX8_admits_239 : decode cX8_admits 239 = .ok (.bipush 8, 2) := by decide +kernel
theorem dX8_admits_241 : decode cX8_admits 241 = .ok (.invokestatic 44, 3) := by decide +kernel
theorem dX8_admits_244 : decode cX8_admits 244 = .ok (.ifCond .eq 18, 3) := by decide +kernel
theorem dX8_admits_247 : decode cX8_admits 247 = .ok (.aload_n 0, 1) := by decide +kernel
theorem dX8_admits_248 : decode cX8_admits 248 = .ok (.iload_n 2, 1) := by decide +kernel
theorem dX8_admits_249 : decode cX8_admits 249 = .ok (.iconst 1, 1) := by decide +kernel
theorem dX8_admits_250 : decode cX8_admits 250 = .ok (.iadd, 1) := by decide +kernel
theorem dX8_admits_251 : decode cX8_admits 251 = .ok (.iload_n 3, 1) := by decide +kernel
theorem dX8_admits_252 : decode cX8_admits 252 = .ok (.invokevirtual 121, 3) := by decide +kernel
theorem dX8_admits_255 : decode cX8_admits 255 = .ok (.ifCond .eq 7, 3) := by decide +kernel
theorem dX8_admits_258 : decode cX8_admits 258 = .ok (.iconst 1, 1) := by decide +kernel
theorem dX8_admits_259 : decode cX8_admits 259 = .ok (.goto 4, 3) := by decide +kernel
theorem dX8_admits_262 : decode cX8_admits 262 = .ok (.iconst 0, 1) := by decide +kernel
theorem dX8_admits_263 : decode cX8_admits 263 = .ok (.ireturn, 1) := by decide +kernel
theorem dX8_admits_264 : decode cX8_admits 264 = .ok (.aload_n 0, 1) := by decide +kernel
theorem dX8_admits_265 : decode cX8_admits 265 = .ok (.iload_n 1, 1) := by decide +kernel
theorem dX8_admits_266 : decode cX8_admits 266 = .ok (.iload_n 2, 1) := by decide +kernel
theorem dX8_admits_267 : decode cX8_admits 267 = .ok (.invokevirtual 124, 3) := by decide +kernel
theorem dX8_admits_270 : decode cX8_admits 270 = .ok (.ireturn, 1) := by decide +kernel
theorem dX8_admitsBegin_0 : decode cX8_admitsBegin 0 = .ok (.iload_n 1, 1) := by decide +kernel
theorem dX8_admitsBegin_1 : decode cX8_admitsBegin 1 = .ok (.iconst 4, 1) := by decide +kernel
theorem dX8_admitsBegin_2 : decode cX8_admitsBegin 2 = .ok (.invokestatic 44, 3) := by decide +kernel
theorem dX8_admitsBegin_5 : decode cX8_admitsBegin 5 = .ok (.ifCond .eq 28, 3) := by decide +kernel
theorem dX8_admitsBegin_8 : decode cX8_admitsBegin 8 = .ok (.iload_n 2, 1) := by decide +kernel
theorem dX8_admitsBegin_9 : decode cX8_admitsBegin 9 = .ok (.iconst 4, 1) := by decide +kernel
theorem dX8_admitsBegin_10 : decode cX8_admitsBegin 10 = .ok (.invokestatic 44, 3) := by decide +kernel
theorem dX8_admitsBegin_13 : decode cX8_admitsBegin 13 = .ok (.ifCond .eq 20, 3) := by decide +kernel
theorem dX8_admitsBegin_16 : decode cX8_admitsBegin 16 = .ok (.aload_n 0, 1) := by decide +kernel
theorem dX8_admitsBegin_17 : decode cX8_admitsBegin 17 = .ok (.iload_n 1, 1) := by decide +kernel
theorem dX8_admitsBegin_18 : decode cX8_admitsBegin 18 = .ok (.iload_n 3, 1) := by decide +kernel
theorem dX8_admitsBegin_19 : decode cX8_admitsBegin 19 = .ok (.iadd, 1) := by decide +kernel
theorem dX8_admitsBegin_20 : decode cX8_admitsBegin 20 = .ok (.invokevirtual 127, 3) := by decide +kernel
theorem dX8_admitsBegin_23 : decode cX8_admitsBegin 23 = .ok (.ifCond .eq 10, 3) := by decide +kernel
theorem dX8_admitsBegin_26 : decode cX8_admitsBegin 26 = .ok (.aload_n 0, 1) := by decide +kernel
theorem dX8_admitsBegin_27 : decode cX8_admitsBegin 27 = .ok (.invokevirtual 130, 3) := by decide +kernel
theorem dX8_admitsBegin_30 : decode cX8_admitsBegin 30 = .ok (.ifCond .ne 5, 3) := by decide +kernel
theorem dX8_admitsBegin_33 : decode cX8_admitsBegin 33 = .ok (.iconst 0, 1) := by decide +kernel
theorem dX8_admitsBegin_34 : decode cX8_admitsBegin 34 = .ok (.ireturn, 1) := by decide +kernel
theorem dX8_admitsBegin_35 : decode cX8_admitsBegin 35 = .ok (.aload_n 0, 1) := by decide +kernel
theorem dX8_admitsBegin_36 : decode cX8_admitsBegin 36 = .ok (.getfield 32, 3) := by decide +kernel
theorem dX8_admitsBegin_39 : decode cX8_admitsBegin 39 = .ok (.getfield 66, 3) := by decide +kernel
theorem dX8_admitsBegin_42 : decode cX8_admitsBegin 42 = .ok (.istore 4, 2) := by decide +kernel
theorem dX8_admitsBegin_44 : decode cX8_admitsBegin 44 = .ok (.aload_n 0, 1) := by decide +kernel
theorem dX8_admitsBegin_45 : decode cX8_admitsBegin 45 = .ok (.iload_n 1, 1) := by decide +kernel
theorem dX8_admitsBegin_46 : decode cX8_admitsBegin 46 = .ok (.iload_n 3, 1) := by decide +kernel
theorem dX8_admitsBegin_47 : decode cX8_admitsBegin 47 = .ok (.iadd, 1) := by decide +kernel
theorem dX8_admitsBegin_48 : decode cX8_admitsBegin 48 = .ok (.invokevirtual 131, 3) := by decide +kernel
theorem dX8_admitsBegin_51 : decode cX8_admitsBegin 51 = .ok (.aload_n 0, 1) := by decide +kernel
theorem dX8_admitsBegin_52 : decode cX8_admitsBegin 52 = .ok (.getfield 32, 3) := by decide +kernel
theorem dX8_admitsBegin_55 : decode cX8_admitsBegin 55 = .ok (.getfield 135, 3) := by decide +kernel
theorem dX8_admitsBegin_58 : decode cX8_admitsBegin 58 = .ok (.iload 4, 2) := by decide +kernel
theorem dX8_admitsBegin_60 : decode cX8_admitsBegin 60 = .ok (.aload_n 0, 1) := by decide +kernel
theorem dX8_admitsBegin_61 : decode cX8_admitsBegin 61 = .ok (.getfield 23, 3) := by decide +kernel
theorem dX8_admitsBegin_64 : decode cX8_admitsBegin 64 = .ok (.iastore, 1) := by decide +kernel
theorem dX8_admitsBegin_65 : decode cX8_admitsBegin 65 = .ok (.aload_n 0, 1) := by decide +kernel
theorem dX8_admitsBegin_66 : decode cX8_admitsBegin 66 = .ok (.getfield 32, 3) := by decide +kernel
theorem dX8_admitsBegin_69 : decode cX8_admitsBegin 69 = .ok (.getfield 137, 3) := by decide +kernel
theorem dX8_admitsBegin_72 : decode cX8_admitsBegin 72 = .ok (.iload 4, 2) := by decide +kernel
theorem dX8_admitsBegin_74 : decode cX8_admitsBegin 74 = .ok (.iconst (-1), 1) := by decide +kernel
theorem dX8_admitsBegin_75 : decode cX8_admitsBegin 75 = .ok (.iastore, 1) := by decide +kernel
theorem dX8_admitsBegin_76 : decode cX8_admitsBegin 76 = .ok (.aload_n 0, 1) := by decide +kernel
theorem dX8_admitsBegin_77 : decode cX8_admitsBegin 77 = .ok (.getfield 32, 3) := by decide +kernel
theorem dX8_admitsBegin_80 : decode cX8_admitsBegin 80 = .ok (.getfield 140, 3) := by decide +kernel
theorem dX8_admitsBegin_83 : decode cX8_admitsBegin 83 = .ok (.iload 4, 2) := by decide +kernel
theorem dX8_admitsBegin_85 : decode cX8_admitsBegin 85 = .ok (.iconst (-1), 1) := by decide +kernel
theorem dX8_admitsBegin_86 : decode cX8_admitsBegin 86 = .ok (.iastore, 1) := by decide +kernel
theorem dX8_admitsBegin_87 : decode cX8_admitsBegin 87 = .ok (.aload_n 0, 1) := by decide +kernel
theorem dX8_admitsBegin_88 : decode cX8_admitsBegin 88 = .ok (.getfield 9, 3) := by decide +kernel
theorem dX8_admitsBegin_91 : decode cX8_admitsBegin 91 = .ok (.aload_n 0, 1) := by decide +kernel
theorem dX8_admitsBegin_92 : decode cX8_admitsBegin 92 = .ok (.getfield 19, 3) := by decide +kernel
theorem dX8_admitsBegin_95 : decode cX8_admitsBegin 95 = .ok (.iload 4, 2) := by decide +kernel
theorem dX8_admitsBegin_97 : decode cX8_admitsBegin 97 = .ok (.iastore, 1) := by decide +kernel
theorem dX8_admitsBegin_98 : decode cX8_admitsBegin 98 = .ok (.aload_n 0, 1) := by decide +kernel
theorem dX8_admitsBegin_99 : decode cX8_admitsBegin 99 = .ok (.getfield 15, 3) := by decide +kernel
theorem dX8_admitsBegin_102 : decode cX8_admitsBegin 102 = .ok (.aload_n 0, 1) := by decide +kernel
theorem dX8_admitsBegin_103 : decode cX8_admitsBegin 103 = .ok (.getfield 19, 3) := by decide +kernel
theorem dX8_admitsBegin_106 : decode cX8_admitsBegin 106 = .ok (.iconst 0, 1) := by decide +kernel
theorem dX8_admitsBegin_107 : decode cX8_admitsBegin 107 = .ok (.bastore, 1) := by decide +kernel
theorem dX8_admitsBegin_108 : decode cX8_admitsBegin 108 = .ok (.aload_n 0, 1) := by decide +kernel
theorem dX8_admitsBegin_109 : decode cX8_admitsBegin 109 = .ok (.dup, 1) := by decide +kernel
theorem dX8_admitsBegin_110 : decode cX8_admitsBegin 110 = .ok (.getfield 19, 3) := by decide +kernel
theorem dX8_admitsBegin_113 : decode cX8_admitsBegin 113 = .ok (.iconst 1, 1) := by decide +kernel
theorem dX8_admitsBegin_114 : decode cX8_admitsBegin 114 = .ok (.iadd, 1) := by decide +kernel
theorem dX8_admitsBegin_115 : decode cX8_admitsBegin 115 = .ok (.putfield 19, 3) := by decide +kernel
