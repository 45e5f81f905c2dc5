theorem dX6_push_24 : decode cX6_push 24 = .ok (.iload_n 1, 1) := by decide +kernel
theorem dX6_push_25 : decode cX6_push 25 = .ok (.dup2, 1) := by decide +kernel
theorem dX6_push_26 : decode cX6_push 26 = .ok (.iaload, 1) := by decide +kernel
theorem dX6_push_27 : decode cX6_push 27 = .ok (.iconst 1, 1) := by decide +kernel
theorem dX6_push_28 : decode cX6_push 28 = .ok (.iadd, 1) := by decide +kernel
theorem dX6_push_29 : decode cX6_push 29 = .ok (.iastore, 1) := by decide +kernel
theorem dX6_push_30 : decode cX6_push 30 = .ok (.return_, 1) := by decide +kernel
theorem dX6_pop_0 : decode cX6_pop 0 = .ok (.aload_n 0, 1) := by decide +kernel
theorem dX6_pop_1 : decode cX6_pop 1 = .ok (.getfield 19, 3) := by decide +kernel
theorem dX6_pop_4 : decode cX6_pop 4 = .ok (.getfield 136, 3) := by decide +kernel
theorem dX6_pop_7 : decode cX6_pop 7 = .ok (.iload_n 1, 1) := by decide +kernel
theorem dX6_pop_8 : decode cX6_pop 8 = .ok (.dup2, 1) := by decide +kernel
theorem dX6_pop_9 : decode cX6_pop 9 = .ok (.iaload, 1) := by decide +kernel
theorem dX6_pop_10 : decode cX6_pop 10 = .ok (.iconst 1, 1) := by decide +kernel
theorem dX6_pop_11 : decode cX6_pop 11 = .ok (.isub, 1) := by decide +kernel
theorem dX6_pop_12 : decode cX6_pop 12 = .ok (.iastore, 1) := by decide +kernel
theorem dX6_pop_13 : decode cX6_pop 13 = .ok (.aload_n 0, 1) := by decide +kernel
theorem dX6_pop_14 : decode cX6_pop 14 = .ok (.getfield 19, 3) := by decide +kernel
theorem dX6_pop_17 : decode cX6_pop 17 = .ok (.aload_n 0, 1) := by decide +kernel
theorem dX6_pop_18 : decode cX6_pop 18 = .ok (.getfield 19, 3) := by decide +kernel
theorem dX6_pop_21 : decode cX6_pop 21 = .ok (.getfield 136, 3) := by decide +kernel
theorem dX6_pop_24 : decode cX6_pop 24 = .ok (.iload_n 1, 1) := by decide +kernel
theorem dX6_pop_25 : decode cX6_pop 25 = .ok (.iaload, 1) := by decide +kernel
theorem dX6_pop_26 : decode cX6_pop 26 = .ok (.invokevirtual 130, 3) := by decide +kernel
theorem dX6_pop_29 : decode cX6_pop 29 = .ok (.lreturn, 1) := by decide +kernel
theorem dX7_init_0 : decode cX7_init 0 = .ok (.aload_n 0, 1) := by decide +kernel
theorem dX7_init_1 : decode cX7_init 1 = .ok (.invokespecial 3, 3) := by decide +kernel
theorem dX7_init_4 : decode cX7_init 4 = .ok (.aload_n 0, 1) := by decide +kernel
theorem dX7_init_5 : decode cX7_init 5 = .ok (.bipush 30, 2) := by decide +kernel
theorem dX7_init_7 : decode cX7_init 7 = .ok (.newarray .int, 2) := by decide +kernel
theorem dX7_init_9 : decode cX7_init 9 = .ok (.putfield 9, 3) := by decide +kernel
theorem dX7_init_12 : decode cX7_init 12 = .ok (.aload_n 0, 1) := by decide +kernel
theorem dX7_init_13 : decode cX7_init 13 = .ok (.bipush 8, 2) := by decide +kernel
theorem dX7_init_15 : decode cX7_init 15 = .ok (.newarray .long, 2) := by decide +kernel
theorem dX7_init_17 : decode cX7_init 17 = .ok (.putfield 15, 3) := by decide +kernel
theorem dX7_init_20 : decode cX7_init 20 = .ok (.aload_n 0, 1) := by decide +kernel
theorem dX7_init_21 : decode cX7_init 21 = .ok (.sipush 384, 3) := by decide +kernel
theorem dX7_init_24 : decode cX7_init 24 = .ok (.newarray .byte, 2) := by decide +kernel
theorem dX7_init_26 : decode cX7_init 26 = .ok (.putfield 19, 3) := by decide +kernel
theorem dX7_init_29 : decode cX7_init 29 = .ok (.aload_n 0, 1) := by decide +kernel
theorem dX7_init_30 : decode cX7_init 30 = .ok (.iconst 1, 1) := by decide +kernel
theorem dX7_init_31 : decode cX7_init 31 = .ok (.putfield 23, 3) := by decide +kernel
theorem dX7_init_34 : decode cX7_init 34 = .ok (.aload_n 0, 1) := by decide +kernel
theorem dX7_init_35 : decode cX7_init 35 = .ok (.getfield 9, 3) := by decide +kernel
theorem dX7_init_38 : decode cX7_init 38 = .ok (.iconst (-1), 1) := by decide +kernel
theorem dX7_init_39 : decode cX7_init 39 = .ok (.invokestatic 27, 3) := by decide +kernel
theorem dX7_init_42 : decode cX7_init 42 = .ok (.return_, 1) := by decide +kernel
theorem dX7_holds_0 : decode cX7_holds 0 = .ok (.lload_n 1, 1) := by decide +kernel
theorem dX7_holds_1 : decode cX7_holds 1 = .ok (.iload_n 3, 1) := by decide +kernel
theorem dX7_holds_2 : decode cX7_holds 2 = .ok (.i2l, 1) := by decide +kernel
theorem dX7_holds_3 : decode cX7_holds 3 = .ok (.ladd, 1) := by decide +kernel
theorem dX7_holds_4 : decode cX7_holds 4 = .ok (.aload_n 0, 1) := by decide +kernel
theorem dX7_holds_5 : decode cX7_holds 5 = .ok (.getfield 23, 3) := by decide +kernel
theorem dX7_holds_8 : decode cX7_holds 8 = .ok (.i2l, 1) := by decide +kernel
theorem dX7_holds_9 : decode cX7_holds 9 = .ok (.ldc2_w 33, 3) := by decide +kernel
theorem dX7_holds_12 : decode cX7_holds 12 = .ok (.lmul, 1) := by decide +kernel
theorem dX7_holds_13 : decode cX7_holds 13 = .ok (.lcmp, 1) := by decide +kernel
theorem dX7_holds_14 : decode cX7_holds 14 = .ok (.ifCond .gt 7, 3) := by decide +kernel
theorem dX7_holds_17 : decode cX7_holds 17 = .ok (.iconst 1, 1) := by decide +kernel
theorem dX7_holds_18 : decode cX7_holds 18 = .ok (.goto 4, 3) := by decide +kernel
theorem dX7_holds_21 : decode cX7_holds 21 = .ok (.iconst 0, 1) := by decide +kernel
theorem dX7_holds_22 : decode cX7_holds 22 = .ok (.ireturn, 1) := by decide +kernel
theorem dX7_find_0 : decode cX7_find 0 = .ok (.lload_n 1, 1) := by decide +kernel
theorem dX7_find_1 : decode cX7_find 1 = .ok (.ldc2_w 35, 3) := by decide +kernel
theorem dX7_find_4 : decode cX7_find 4 = .ok (.land, 1) := by decide +kernel
theorem dX7_find_5 : decode cX7_find 5 = .ok (.lstore 6, 2) := by decide +kernel
theorem dX7_find_7 : decode cX7_find 7 = .ok (.lload 6, 2) := by decide +kernel
theorem dX7_find_9 : decode cX7_find 9 = .ok (.ldc2_w 37, 3) := by decide +kernel
theorem dX7_find_12 : decode cX7_find 12 = .ok (.lcmp, 1) := by decide +kernel
theorem dX7_find_13 : decode cX7_find 13 = .ok (.ifCond .lt 6, 3) := by decide +kernel
theorem dX7_find_16 : decode cX7_find 16 = .ok (.bipush (-6), 2) := by decide +kernel
theorem dX7_find_18 : decode cX7_find 18 = .ok (.ireturn, 1) := by decide +kernel
theorem dX7_find_19 : decode cX7_find 19 = .ok (.aload_n 0, 1) := by decide +kernel
theorem dX7_find_20 : decode cX7_find 20 = .ok (.getfield 9, 3) := by decide +kernel
theorem dX7_find_23 : decode cX7_find 23 = .ok (.lload 6, 2) := by decide +kernel
theorem dX7_find_25 : decode cX7_find 25 = .ok (.l2i, 1) := by decide +kernel
theorem dX7_find_26 : decode cX7_find 26 = .ok (.iaload, 1) := by decide +kernel
theorem dX7_find_27 : decode cX7_find 27 = .ok (.istore 8, 2) := by decide +kernel
theorem dX7_find_29 : decode cX7_find 29 = .ok (.aload 5, 2) := by decide +kernel
theorem dX7_find_31 : decode cX7_find 31 = .ok (.iload 8, 2) := by decide +kernel
theorem dX7_find_33 : decode cX7_find 33 = .ok (.invokevirtual 39, 3) := by decide +kernel
theorem dX7_find_36 : decode cX7_find 36 = .ok (.ifCond .ne 6, 3) := by decide +kernel
theorem dX7_find_39 : decode cX7_find 39 = .ok (.bipush (-7), 2) := by decide +kernel
theorem dX7_find_41 : decode cX7_find 41 = .ok (.ireturn, 1) := by decide +kernel
theorem dX7_find_42 : decode cX7_find 42 = .ok (.aload 5, 2) := by decide +kernel
theorem dX7_find_44 : decode cX7_find 44 = .ok (.getfield 45, 3) := by decide +kernel
theorem dX7_find_47 : decode cX7_find 47 = .ok (.iload 8, 2) := by decide +kernel
theorem dX7_find_49 : decode cX7_find 49 = .ok (.iaload, 1) := by decide +kernel
theorem dX7_find_50 : decode cX7_find 50 = .ok (.iload_n 3, 1) := by decide +kernel
theorem dX7_find_51 : decode cX7_find 51 = .ok (.if_icmp .ne 20, 3) := by decide +kernel
theorem dX7_find_54 : decode cX7_find 54 = .ok (.aload 5, 2) := by decide +kernel
theorem dX7_find_56 : decode cX7_find 56 = .ok (.getfield 48, 3) := by decide +kernel
theorem dX7_find_59 : decode cX7_find 59 = .ok (.iload 8, 2) := by decide +kernel
theorem dX7_find_61 : decode cX7_find 61 = .ok (.iaload, 1) := by decide +kernel
theorem dX7_find_62 : decode cX7_find 62 = .ok (.iload 4, 2) := by decide +kernel
theorem dX7_find_64 : decode cX7_find 64 = .ok (.if_icmp .ne 7, 3) := by decide +kernel
theorem dX7_find_67 : decode cX7_find 67 = .ok (.iconst 1, 1) := by decide +kernel
theorem dX7_find_68 : decode cX7_find 68 = .ok (.goto 4, 3) := by decide +kernel
theorem dX7_find_71 : decode cX7_find 71 = .ok (.iconst 0, 1) := by decide +kernel
theorem dX7_find_72 : decode cX7_find 72 = .ok (.istore 9, 2) := by decide +kernel
theorem dX7_find_74 : decode cX7_find 74 = .ok (.iload 9, 2) := by decide +kernel
theorem dX7_find_76 : decode cX7_find 76 = .ok (.ifCond .eq 8, 3) := by decide +kernel
theorem dX7_find_79 : decode cX7_find 79 = .ok (.iload 8, 2) := by decide +kernel
theorem dX7_find_81 : decode cX7_find 81 = .ok (.goto 5, 3) := by decide +kernel
theorem dX7_find_84 : decode cX7_find 84 = .ok (.bipush (-8), 2) := by decide +kernel
theorem dX7_find_86 : decode cX7_find 86 = .ok (.ireturn, 1) := by decide +kernel
theorem dX7_grow_0 : decode cX7_grow 0 = .ok (.lload_n 1, 1) := by decide +kernel
theorem dX7_grow_1 : decode cX7_grow 1 = .ok (.ldc2_w 35, 3) := by decide +kernel
theorem dX7_grow_4 : decode cX7_grow 4 = .ok (.land, 1) := by decide +kernel
theorem dX7_grow_5 : decode cX7_grow 5 = .ok (.lstore_n 3, 1) := by decide +kernel
theorem dX7_grow_6 : decode cX7_grow 6 = .ok (.aload_n 0, 1) := by decide +kernel
theorem dX7_grow_7 : decode cX7_grow 7 = .ok (.getfield 23, 3) := by decide +kernel
theorem dX7_grow_10 : decode cX7_grow 10 = .ok (.istore 5, 2) := by decide +kernel
theorem dX7_grow_12 : decode cX7_grow 12 = .ok (.lload_n 3, 1) := by decide +kernel
theorem dX7_grow_13 : decode cX7_grow 13 = .ok (.bipush 6, 2) := by decide +kernel
theorem dX7_grow_15 : decode cX7_grow 15 = .ok (.iload 5, 2) := by decide +kernel
theorem dX7_grow_17 : decode cX7_grow 17 = .ok (.isub, 1) := by decide +kernel
theorem dX7_grow_18 : decode cX7_grow 18 = .ok (.i2l, 1) := by decide +kernel
theorem dX7_grow_19 : decode cX7_grow 19 = .ok (.lcmp, 1) := by decide +kernel
theorem dX7_grow_20 : decode cX7_grow 20 = .ok (.ifCond .le 7, 3) := by decide +kernel
theorem dX7_grow_23 : decode cX7_grow 23 = .ok (.ldc2_w 35, 3) := by decide +kernel
theorem dX7_grow_26 : decode cX7_grow 26 = .ok (.lreturn, 1) := by decide +kernel
theorem dX7_grow_27 : decode cX7_grow 27 = .ok (.aload_n 0, 1) := by decide +kernel
theorem dX7_grow_28 : decode cX7_grow 28 = .ok (.iload 5, 2) := by decide +kernel
theorem dX7_grow_30 : decode cX7_grow 30 = .ok (.lload_n 3, 1) := by decide +kernel
theorem dX7_grow_31 : decode cX7_grow 31 = .ok (.l2i, 1) := by decide +kernel
theorem dX7_grow_32 : decode cX7_grow 32 = .ok (.iadd, 1) := by decide +kernel
theorem dX7_grow_33 : decode cX7_grow 33 = .ok (.putfield 23, 3) := by decide +kernel
theorem dX7_grow_36 : decode cX7_grow 36 = .ok (.iload 5, 2) := by decide +kernel
theorem dX7_grow_38 : decode cX7_grow 38 = .ok (.i2l, 1) := by decide +kernel
theorem dX7_grow_39 : decode cX7_grow 39 = .ok (.lreturn, 1) := by decide +kernel
theorem dX7_place_0 : decode cX7_place 0 = .ok (.lload_n 0, 1) := by decide +kernel
theorem dX7_place_1 : decode cX7_place 1 = .ok (.ldc2_w 35, 3) := by decide +kernel
theorem dX7_place_4 : decode cX7_place 4 = .ok (.land, 1) := by decide +kernel
theorem dX7_place_5 : decode cX7_place 5 = .ok (.iload_n 2, 1) := by decide +kernel
theorem dX7_place_6 : decode cX7_place 6 = .ok (.i2l, 1) := by decide +kernel
theorem dX7_place_7 : decode cX7_place 7 = .ok (.ldc2_w 35, 3) := by decide +kernel
theorem dX7_place_10 : decode cX7_place 10 = .ok (.land, 1) := by decide +kernel
theorem dX7_place_11 : decode cX7_place 11 = .ok (.ladd, 1) := by decide +kernel
theorem dX7_place_12 : decode cX7_place 12 = .ok (.lreturn, 1) := by decide +kernel
theorem dX7_width_0 : decode cX7_width 0 = .ok (.iload_n 0, 1) := by decide +kernel
theorem dX7_width_1 : decode cX7_width 1 = .ok (.tableswitch 106 41 61 #[103, 106, 103, 99, 99, 101, 101, 99, 99, 101, 101, 106, 106, 106, 103, 106, 103, 99, 101, 99, 101], 99) := by decide +kernel
theorem dX7_width_100 : decode cX7_width 100 = .ok (.iconst 1, 1) := by decide +kernel
theorem dX7_width_101 : decode cX7_width 101 = .ok (.ireturn, 1) := by decide +kernel
theorem dX7_width_102 : decode cX7_width 102 = .ok (.iconst 2, 1) := by decide +kernel
theorem dX7_width_103 : decode cX7_width 103 = .ok (.ireturn, 1) := by decide +kernel
theorem dX7_width_104 : decode cX7_width 104 = .ok (.bipush 8, 2) := by decide +kernel
theorem dX7_width_106 : decode cX7_width 106 = .ok (.ireturn, 1) := by decide +kernel
theorem dX7_width_107 : decode cX7_width 107 = .ok (.iconst 4, 1) := by decide +kernel
theorem dX7_width_108 : decode cX7_width 108 = .ok (.ireturn, 1) := by decide +kernel
theorem dX7_load_0 : decode cX7_load 0 = .ok (.lconst 0, 1) := by decide +kernel
theorem dX7_load_1 : decode cX7_load 1 = .ok (.lstore_n 3, 1) := by decide +kernel
theorem dX7_load_2 : decode cX7_load 2 = .ok (.iload_n 1, 1) := by decide +kernel
theorem dX7_load_3 : decode cX7_load 3 = .ok (.invokestatic 51, 3) := by decide +kernel
theorem dX7_load_6 : decode cX7_load 6 = .ok (.iconst 1, 1) := by decide +kernel
theorem dX7_load_7 : decode cX7_load 7 = .ok (.isub, 1) := by decide +kernel
theorem dX7_load_8 : decode cX7_load 8 = .ok (.istore 5, 2) := by decide +kernel
theorem dX7_load_10 : decode cX7_load 10 = .ok (.iload 5, 2) := by decide +kernel
theorem dX7_load_12 : decode cX7_load 12 = .ok (.ifCond .lt 29, 3) := by decide +kernel
theorem dX7_load_15 : decode cX7_load 15 = .ok (.lload_n 3, 1) := by decide +kernel
theorem dX7_load_16 : decode cX7_load 16 = .ok (.bipush 8, 2) := by decide +kernel
theorem dX7_load_18 : decode cX7_load 18 = .ok (.lshl, 1) := by decide +kernel
theorem dX7_load_19 : decode cX7_load 19 = .ok (.aload_n 0, 1) := by decide +kernel
theorem dX7_load_20 : decode cX7_load 20 = .ok (.getfield 19, 3) := by decide +kernel
theorem dX7_load_23 : decode cX7_load 23 = .ok (.iload_n 2, 1) := by decide +kernel
theorem dX7_load_24 : decode cX7_load 24 = .ok (.iload 5, 2) := by decide +kernel
theorem dX7_load_26 : decode cX7_load 26 = .ok (.iadd, 1) := by decide +kernel
theorem dX7_load_27 : decode cX7_load 27 = .ok (.baload, 1) := by decide +kernel
theorem dX7_load_28 : decode cX7_load 28 = .ok (.sipush 255, 3) := by decide +kernel
theorem dX7_load_31 : decode cX7_load 31 = .ok (.iand, 1) := by decide +kernel
theorem dX7_load_32 : decode cX7_load 32 = .ok (.i2l, 1) := by decide +kernel
theorem dX7_load_33 : decode cX7_load 33 = .ok (.lor, 1) := by decide +kernel
theorem dX7_load_34 : decode cX7_load 34 = .ok (.lstore_n 3, 1) := by decide +kernel
theorem dX7_load_35 : decode cX7_load 35 = .ok (.iinc 5 (-1), 3) := by decide +kernel
theorem dX7_load_38 : decode cX7_load 38 = .ok (.goto (-28), 3) := by decide +kernel
theorem dX7_load_41 : decode cX7_load 41 = .ok (.iload_n 1, 1) := by decide +kernel
theorem dX7_load_42 : decode cX7_load 42 = .ok (.tableswitch 82 44 52 #[50, 82, 59, 82, 68, 82, 73, 82, 78], 50) := by decide +kernel
theorem dX7_load_92 : decode cX7_load 92 = .ok (.lload_n 3, 1) := by decide +kernel
theorem dX7_load_93 : decode cX7_load 93 = .ok (.l2i, 1) := by decide +kernel
theorem dX7_load_94 : decode cX7_load 94 = .ok (.i2b, 1) := by decide +kernel
theorem dX7_load_95 : decode cX7_load 95 = .ok (.i2l, 1) := by decide +kernel
theorem dX7_load_96 : decode cX7_load 96 = .ok (.ldc2_w 35, 3) := by decide +kernel
theorem dX7_load_99 : decode cX7_load 99 = .ok (.land, 1) := by decide +kernel
theorem dX7_load_100 : decode cX7_load 100 = .ok (.lreturn, 1) := by decide +kernel
theorem dX7_load_101 : decode cX7_load 101 = .ok (.lload_n 3, 1) := by decide +kernel
theorem dX7_load_102 : decode cX7_load 102 = .ok (.l2i, 1) := by decide +kernel
theorem dX7_load_103 : decode cX7_load 103 = .ok (.i2s, 1) := by decide +kernel
theorem dX7_load_104 : decode cX7_load 104 = .ok (.i2l, 1) := by decide +kernel
theorem dX7_load_105 : decode cX7_load 105 = .ok (.ldc2_w 35, 3) := by decide +kernel
theorem dX7_load_108 : decode cX7_load 108 = .ok (.land, 1) := by decide +kernel
theorem dX7_load_109 : decode cX7_load 109 = .ok (.lreturn, 1) := by decide +kernel
theorem dX7_load_110 : decode cX7_load 110 = .ok (.lload_n 3, 1) := by decide +kernel
theorem dX7_load_111 : decode cX7_load 111 = .ok (.l2i, 1) := by decide +kernel
theorem dX7_load_112 : decode cX7_load 112 = .ok (.i2b, 1) := by decide +kernel
theorem dX7_load_113 : decode cX7_load 113 = .ok (.i2l, 1) := by decide +kernel
theorem dX7_load_114 : decode cX7_load 114 = .ok (.lreturn, 1) := by decide +kernel
theorem dX7_load_115 : decode cX7_load 115 = .ok (.lload_n 3, 1) := by decide +kernel
theorem dX7_load_116 : decode cX7_load 116 = .ok (.l2i, 1) := by decide +kernel
theorem dX7_load_117 : decode cX7_load 117 = .ok (.i2s, 1) := by decide +kernel
theorem dX7_load_118 : decode cX7_load 118 = .ok (.i2l, 1) := by decide +kernel
theorem dX7_load_119 : decode cX7_load 119 = .ok (.lreturn, 1) := by decide +kernel
theorem dX7_load_120 : decode cX7_load 120 = .ok (.lload_n 3, 1) := by decide +kernel
theorem dX7_load_121 : decode cX7_load 121 = .ok (.l2i, 1) := by decide +kernel
theorem dX7_load_122 : decode cX7_load 122 = .ok (.i2l, 1) := by decide +kernel
theorem dX7_load_123 : decode cX7_load 123 = .ok (.lreturn, 1) := by decide +kernel
theorem dX7_load_124 : decode cX7_load 124 = .ok (.lload_n 3, 1) := by decide +kernel
theorem dX7_load_125 : decode cX7_load 125 = .ok (.lreturn, 1) := by decide +kernel
theorem dX7_store_0 : decode cX7_store 0 = .ok (.iconst 0, 1) := by decide +kernel
theorem dX7_store_1 : decode cX7_store 1 = .ok (.istore 5, 2) := by decide +kernel
theorem dX7_store_3 : decode cX7_store 3 = .ok (.iload 5, 2) := by decide +kernel
theorem dX7_store_5 : decode cX7_store 5 = .ok (.iload_n 1, 1) := by decide +kernel
theorem dX7_store_6 : decode cX7_store 6 = .ok (.invokestatic 51, 3) := by decide +kernel
theorem dX7_store_9 : decode cX7_store 9 = .ok (.if_icmp .ge 27, 3) := by decide +kernel
theorem dX7_store_12 : decode cX7_store 12 = .ok (.aload_n 0, 1) := by decide +kernel
theorem dX7_store_13 : decode cX7_store 13 = .ok (.getfield 19, 3) := by decide +kernel
theorem dX7_store_16 : decode cX7_store 16 = .ok (.iload_n 2, 1) := by decide +kernel
theorem dX7_store_17 : decode cX7_store 17 = .ok (.iload 5, 2) := by decide +kernel
theorem dX7_store_19 : decode cX7_store 19 = .ok (.iadd, 1) := by decide +kernel
theorem dX7_store_20 : decode cX7_store 20 = .ok (.lload_n 3, 1) := by decide +kernel
theorem dX7_store_21 : decode cX7_store 21 = .ok (.bipush 8, 2) := by decide +kernel
theorem dX7_store_23 : decode cX7_store 23 = .ok (.iload 5, 2) := by decide +kernel
theorem dX7_store_25 : decode cX7_store 25 = .ok (.imul, 1) := by decide +kernel
theorem dX7_store_26 : decode cX7_store 26 = .ok (.lushr, 1) := by decide +kernel
theorem dX7_store_27 : decode cX7_store 27 = .ok (.l2i, 1) := by decide +kernel
theorem dX7_store_28 : decode cX7_store 28 = .ok (.i2b, 1) := by decide +kernel
theorem dX7_store_29 : decode cX7_store 29 = .ok (.bastore, 1) := by decide +kernel
theorem dX7_store_30 : decode cX7_store 30 = .ok (.iinc 5 1, 3) := by decide +kernel
theorem dX7_store_33 : decode cX7_store 33 = .ok (.goto (-30), 3) := by decide +kernel
theorem dX7_store_36 : decode cX7_store 36 = .ok (.return_, 1) := by decide +kernel
theorem dX8_init_0 : decode cX8_init 0 = .ok (.aload_n 0, 1) := by decide +kernel
theorem dX8_init_1 : decode cX8_init 1 = .ok (.invokespecial 3, 3) := by decide +kernel
theorem dX8_init_4 : decode cX8_init 4 = .ok (.aload_n 0, 1) := by decide +kernel
theorem dX8_init_5 : decode cX8_init 5 = .ok (.sipush 1501, 3) := by decide +kernel
theorem dX8_init_8 : decode cX8_init 8 = .ok (.newarray .int, 2) := by decide +kernel
theorem dX8_init_10 : decode cX8_init 10 = .ok (.putfield 9, 3) := by decide +kernel
theorem dX8_init_13 : decode cX8_init 13 = .ok (.aload_n 0, 1) := by decide +kernel
theorem dX8_init_14 : decode cX8_init 14 = .ok (.sipush 1501, 3) := by decide +kernel
theorem dX8_init_17 : decode cX8_init 17 = .ok (.newarray .boolean, 2) := by decide +kernel
theorem dX8_init_19 : decode cX8_init 19 = .ok (.putfield 15, 3) := by decide +kernel
theorem dX8_init_22 : decode cX8_init 22 = .ok (.aload_n 0, 1) := by decide +kernel
theorem dX8_init_23 : decode cX8_init 23 = .ok (.iconst 0, 1) := by decide +kernel
theorem dX8_init_24 : decode cX8_init 24 = .ok (.putfield 19, 3) := by decide +kernel
theorem dX8_init_27 : decode cX8_init 27 = .ok (.aload_n 0, 1) := by decide +kernel
theorem dX8_init_28 : decode cX8_init 28 = .ok (.iconst 0, 1) := by decide +kernel
theorem dX8_init_29 : decode cX8_init 29 = .ok (.putfield 23, 3) := by decide +kernel
theorem dX8_init_32 : decode cX8_init 32 = .ok (.aload_n 0, 1) := by decide +kernel
theorem dX8_init_33 : decode cX8_init 33 = .ok (.iconst 0, 1) := by decide +kernel
theorem dX8_init_34 : decode cX8_init 34 = .ok (.putfield 26, 3) := by decide +kernel
theorem dX8_init_37 : decode cX8_init 37 = .ok (.aload_n 0, 1) := by decide +kernel
theorem dX8_init_38 : decode cX8_init 38 = .ok (.iconst (-1), 1) := by decide +kernel
theorem dX8_init_39 : decode cX8_init 39 = .ok (.putfield 29, 3) := by decide +kernel
theorem dX8_init_42 : decode cX8_init 42 = .ok (.aload_n 0, 1) := by decide +kernel
theorem dX8_init_43 : decode cX8_init 43 = .ok (.aload_n 1, 1) := by decide +kernel
theorem dX8_init_44 : decode cX8_init 44 = .ok (.putfield 32, 3) := by decide +kernel
theorem dX8_init_47 : decode cX8_init 47 = .ok (.return_, 1) := by decide +kernel
theorem dX8_start_0 : decode cX8_start 0 = .ok (.aload_n 0, 1) := by decide +kernel
theorem dX8_start_1 : decode cX8_start 1 = .ok (.getfield 32, 3) := by decide +kernel
theorem dX8_start_4 : decode cX8_start 4 = .ok (.getfield 36, 3) := by decide +kernel
theorem dX8_start_7 : decode cX8_start 7 = .ok (.istore 4, 2) := by decide +kernel
theorem dX8_start_9 : decode cX8_start 9 = .ok (.aload_n 0, 1) := by decide +kernel
theorem dX8_start_10 : decode cX8_start 10 = .ok (.getfield 32, 3) := by decide +kernel
theorem dX8_start_13 : decode cX8_start 13 = .ok (.getfield 41, 3) := by decide +kernel
theorem dX8_start_16 : decode cX8_start 16 = .ok (.iconst (-1), 1) := by decide +kernel
theorem dX8_start_17 : decode cX8_start 17 = .ok (.if_icmp .ne 37, 3) := by decide +kernel
theorem dX8_start_20 : decode cX8_start 20 = .ok (.iload 4, 2) := by decide +kernel
theorem dX8_start_22 : decode cX8_start 22 = .ok (.bipush 40, 2) := by decide +kernel
theorem dX8_start_24 : decode cX8_start 24 = .ok (.if_icmp .ge 30, 3) := by decide +kernel
theorem dX8_start_27 : decode cX8_start 27 = .ok (.iload_n 1, 1) := by decide +kernel
theorem dX8_start_28 : decode cX8_start 28 = .ok (.bipush 8, 2) := by decide +kernel
theorem dX8_start_30 : decode cX8_start 30 = .ok (.invokestatic 44, 3) := by decide +kernel
theorem dX8_start_33 : decode cX8_start 33 = .ok (.ifCond .eq 21, 3) := by decide +kernel
theorem dX8_start_36 : decode cX8_start 36 = .ok (.iload_n 2, 1) := by decide +kernel
theorem dX8_start_37 : decode cX8_start 37 = .ok (.bipush 8, 2) := by decide +kernel
theorem dX8_start_39 : decode cX8_start 39 = .ok (.invokestatic 44, 3) := by decide +kernel
theorem dX8_start_42 : decode cX8_start 42 = .ok (.ifCond .eq 12, 3) := by decide +kernel
theorem dX8_start_45 : decode cX8_start 45 = .ok (.iload_n 3, 1) := by decide +kernel
theorem dX8_start_46 : decode cX8_start 46 = .ok (.bipush 8, 2) := by decide +kernel
theorem dX8_start_48 : decode cX8_start 48 = .ok (.invokestatic 44, 3) := by decide +kernel
theorem dX8_start_51 : decode cX8_start 51 = .ok (.ifCond .ne 5, 3) := by decide +kernel
theorem dX8_start_54 : decode cX8_start 54 = .ok (.iconst (-1), 1) := by decide +kernel
theorem dX8_start_55 : decode cX8_start 55 = .ok (.ireturn, 1) := by decide +kernel
theorem dX8_start_56 : decode cX8_start 56 = .ok (.aload_n 0, 1) := by decide +kernel
theorem dX8_start_57 : decode cX8_start 57 = .ok (.getfield 32, 3) := by decide +kernel
theorem dX8_start_60 : decode cX8_start 60 = .ok (.getfield 48, 3) := by decide +kernel
theorem dX8_start_63 : decode cX8_start 63 = .ok (.iload 4, 2) := by decide +kernel
theorem dX8_start_65 : decode cX8_start 65 = .ok (.iload_n 1, 1) := by decide +kernel
theorem dX8_start_66 : decode cX8_start 66 = .ok (.iastore, 1) := by decide +kernel
theorem dX8_start_67 : decode cX8_start 67 = .ok (.aload_n 0, 1) := by decide +kernel
theorem dX8_start_68 : decode cX8_start 68 = .ok (.getfield 32, 3) := by decide +kernel
theorem dX8_start_71 : decode cX8_start 71 = .ok (.getfield 51, 3) := by decide +kernel
theorem dX8_start_74 : decode cX8_start 74 = .ok (.iload 4, 2) := by decide +kernel
theorem dX8_start_76 : decode cX8_start 76 = .ok (.iload_n 2, 1) := by decide +kernel
theorem dX8_start_77 : decode cX8_start 77 = .ok (.iastore, 1) := by decide +kernel
theorem dX8_start_78 : decode cX8_start 78 = .ok (.aload_n 0, 1) := by decide +kernel
theorem dX8_start_79 : decode cX8_start 79 = .ok (.getfield 32, 3) := by decide +kernel
theorem dX8_start_82 : decode cX8_start 82 = .ok (.getfield 54, 3) := by decide +kernel
theorem dX8_start_85 : decode cX8_start 85 = .ok (.iload 4, 2) := by decide +kernel
theorem dX8_start_87 : decode cX8_start 87 = .ok (.iload_n 3, 1) := by decide +kernel
theorem dX8_start_88 : decode cX8_start 88 = .ok (.iastore, 1) := by decide +kernel
theorem dX8_start_89 : decode cX8_start 89 = .ok (.aload_n 0, 1) := by decide +kernel
theorem dX8_start_90 : decode cX8_start 90 = .ok (.getfield 32, 3) := by decide +kernel
theorem dX8_start_93 : decode cX8_start 93 = .ok (.getfield 57, 3) := by decide +kernel
theorem dX8_start_96 : decode cX8_start 96 = .ok (.iload 4, 2) := by decide +kernel
theorem dX8_start_98 : decode cX8_start 98 = .ok (.iconst 0, 1) := by decide +kernel
theorem dX8_start_99 : decode cX8_start 99 = .ok (.iastore, 1) := by decide +kernel
theorem dX8_start_100 : decode cX8_start 100 = .ok (.aload_n 0, 1) := by decide +kernel
theorem dX8_start_101 : decode cX8_start 101 = .ok (.getfield 32, 3) := by decide +kernel
theorem dX8_start_104 : decode cX8_start 104 = .ok (.getfield 60, 3) := by decide +kernel
theorem dX8_start_107 : decode cX8_start 107 = .ok (.iload 4, 2) := by decide +kernel
theorem dX8_start_109 : decode cX8_start 109 = .ok (.iconst 0, 1) := by decide +kernel
theorem dX8_start_110 : decode cX8_start 110 = .ok (.iastore, 1) := by decide +kernel
theorem dX8_start_111 : decode cX8_start 111 = .ok (.aload_n 0, 1) := by decide +kernel
theorem dX8_start_112 : decode cX8_start 112 = .ok (.getfield 32, 3) := by decide +kernel
theorem dX8_start_115 : decode cX8_start 115 = .ok (.getfield 63, 3) := by decide +kernel
theorem dX8_start_118 : decode cX8_start 118 = .ok (.iload 4, 2) := by decide +kernel
theorem dX8_start_120 : decode cX8_start 120 = .ok (.aload_n 0, 1) := by decide +kernel
theorem dX8_start_121 : decode cX8_start 121 = .ok (.getfield 32, 3) := by decide +kernel
theorem dX8_start_124 : decode cX8_start 124 = .ok (.getfield 66, 3) := by decide +kernel
theorem dX8_start_127 : decode cX8_start 127 = .ok (.iastore, 1) := by decide +kernel
theorem dX8_start_128 : decode cX8_start 128 = .ok (.aload_n 0, 1) := by decide +kernel
theorem dX8_start_129 : decode cX8_start 129 = .ok (.getfield 32, 3) := by decide +kernel
theorem dX8_start_132 : decode cX8_start 132 = .ok (.iload 4, 2) := by decide +kernel
theorem dX8_start_134 : decode cX8_start 134 = .ok (.iconst 1, 1) := by decide +kernel
theorem dX8_start_135 : decode cX8_start 135 = .ok (.iadd, 1) := by decide +kernel
theorem dX8_start_136 : decode cX8_start 136 = .ok (.putfield 36, 3) := by decide +kernel
theorem dX8_start_139 : decode cX8_start 139 = .ok (.aload_n 0, 1) := by decide +kernel
theorem dX8_start_140 : decode cX8_start 140 = .ok (.getfield 32, 3) := by decide +kernel
theorem dX8_start_143 : decode cX8_start 143 = .ok (.iload 4, 2) := by decide +kernel
theorem dX8_start_145 : decode cX8_start 145 = .ok (.putfield 41, 3) := by decide +kernel
theorem dX8_start_148 : decode cX8_start 148 = .ok (.aload_n 0, 1) := by decide +kernel
theorem dX8_start_149 : decode cX8_start 149 = .ok (.getfield 9, 3) := by decide +kernel
theorem dX8_start_152 : decode cX8_start 152 = .ok (.iconst 0, 1) := by decide +kernel
theorem dX8_start_153 : decode cX8_start 153 = .ok (.iconst (-1), 1) := by decide +kernel
theorem dX8_start_154 : decode cX8_start 154 = .ok (.iastore, 1) := by decide +kernel
theorem dX8_start_155 : decode cX8_start 155 = .ok (.aload_n 0, 1) := by decide +kernel
theorem dX8_start_156 : decode cX8_start 156 = .ok (.getfield 15, 3) := by decide +kernel
theorem dX8_start_159 : decode cX8_start 159 = .ok (.iconst 0, 1) := by decide +kernel
theorem dX8_start_160 : decode cX8_start 160 = .ok (.iconst 0, 1) := by decide +kernel
theorem dX8_start_161 : decode cX8_start 161 = .ok (.bastore, 1) := by decide +kernel
theorem dX8_start_162 : decode cX8_start 162 = .ok (.aload_n 0, 1) := by decide +kernel
theorem dX8_start_163 : decode cX8_start 163 = .ok (.iconst 1, 1) := by decide +kernel
theorem dX8_start_164 : decode cX8_start 164 = .ok (.putfield 19, 3) := by decide +kernel
theorem dX8_start_167 : decode cX8_start 167 = .ok (.aload_n 0, 1) := by decide +kernel
theorem dX8_start_168 : decode cX8_start 168 = .ok (.iconst 0, 1) := by decide +kernel
theorem dX8_start_169 : decode cX8_start 169 = .ok (.putfield 23, 3) := by decide +kernel
theorem dX8_start_172 : decode cX8_start 172 = .ok (.aload_n 0, 1) := by decide +kernel
theorem dX8_start_173 : decode cX8_start 173 = .ok (.iconst 0, 1) := by decide +kernel
theorem dX8_start_174 : decode cX8_start 174 = .ok (.putfield 26, 3) := by decide +kernel
theorem dX8_start_177 : decode cX8_start 177 = .ok (.iload 4, 2) := by decide +kernel
theorem dX8_start_179 : decode cX8_start 179 = .ok (.ireturn, 1) := by decide +kernel
theorem dX8_abandon_0 : decode cX8_abandon 0 = .ok (.aload_n 0, 1) := by decide +kernel
theorem dX8_abandon_1 : decode cX8_abandon 1 = .ok (.getfield 32, 3) := by decide +kernel
theorem dX8_abandon_4 : decode cX8_abandon 4 = .ok (.getfield 41, 3) := by decide +kernel
theorem dX8_abandon_7 : decode cX8_abandon 7 = .ok (.iconst (-1), 1) := by decide +kernel
theorem dX8_abandon_8 : decode cX8_abandon 8 = .ok (.if_icmp .ne 5, 3) := by decide +kernel
theorem dX8_abandon_11 : decode cX8_abandon 11 = .ok (.iconst 0, 1) := by decide +kernel
theorem dX8_abandon_12 : decode cX8_abandon 12 = .ok (.ireturn, 1) := by decide +kernel
theorem dX8_abandon_13 : decode cX8_abandon 13 = .ok (.aload_n 0, 1) := by decide +kernel
theorem dX8_abandon_14 : decode cX8_abandon 14 = .ok (.getfield 32, 3) := by decide +kernel
theorem dX8_abandon_17 : decode cX8_abandon 17 = .ok (.aload_n 0, 1) := by decide +kernel
theorem dX8_abandon_18 : decode cX8_abandon 18 = .ok (.getfield 32, 3) := by decide +kernel
theorem dX8_abandon_21 : decode cX8_abandon 21 = .ok (.getfield 63, 3) := by decide +kernel
theorem dX8_abandon_24 : decode cX8_abandon 24 = .ok (.aload_n 0, 1) := by decide +kernel
theorem dX8_abandon_25 : decode cX8_abandon 25 = .ok (.getfield 32, 3) := by decide +kernel
theorem dX8_abandon_28 : decode cX8_abandon 28 = .ok (.getfield 41, 3) := by decide +kernel
theorem dX8_abandon_31 : decode cX8_abandon 31 = .ok (.iaload, 1) := by decide +kernel
theorem dX8_abandon_32 : decode cX8_abandon 32 = .ok (.putfield 66, 3) := by decide +kernel
theorem dX8_abandon_35 : decode cX8_abandon 35 = .ok (.aload_n 0, 1) := by decide +kernel
theorem dX8_abandon_36 : decode cX8_abandon 36 = .ok (.getfield 32, 3) := by decide +kernel
theorem dX8_abandon_39 : decode cX8_abandon 39 = .ok (.aload_n 0, 1) := by decide +kernel
theorem dX8_abandon_40 : decode cX8_abandon 40 = .ok (.getfield 32, 3) := by decide +kernel
theorem dX8_abandon_43 : decode cX8_abandon 43 = .ok (.getfield 41, 3) := by decide +kernel
theorem dX8_abandon_46 : decode cX8_abandon 46 = .ok (.putfield 36, 3) := by decide +kernel
theorem dX8_abandon_49 : decode cX8_abandon 49 = .ok (.aload_n 0, 1) := by decide +kernel
theorem dX8_abandon_50 : decode cX8_abandon 50 = .ok (.invokevirtual 69, 3) := by decide +kernel
theorem dX8_abandon_53 : decode cX8_abandon 53 = .ok (.iconst 1, 1) := by decide +kernel
theorem dX8_abandon_54 : decode cX8_abandon 54 = .ok (.ireturn, 1) := by decide +kernel
theorem dX8_write_0 : decode cX8_write 0 = .ok (.aload_n 0, 1) := by decide +kernel
theorem dX8_write_1 : decode cX8_write 1 = .ok (.getfield 32, 3) := by decide +kernel
theorem dX8_write_4 : decode cX8_write 4 = .ok (.getfield 66, 3) := by decide +kernel
theorem dX8_write_7 : decode cX8_write 7 = .ok (.istore 4, 2) := by decide +kernel
theorem dX8_write_9 : decode cX8_write 9 = .ok (.aload_n 0, 1) := by decide +kernel
theorem dX8_write_10 : decode cX8_write 10 = .ok (.getfield 32, 3) := by decide +kernel
theorem dX8_write_13 : decode cX8_write 13 = .ok (.getfield 41, 3) := by decide +kernel
theorem dX8_write_16 : decode cX8_write 16 = .ok (.iconst (-1), 1) := by decide +kernel
theorem dX8_write_17 : decode cX8_write 17 = .ok (.if_icmp .eq 21, 3) := by decide +kernel
theorem dX8_write_20 : decode cX8_write 20 = .ok (.iload 4, 2) := by decide +kernel
theorem dX8_write_22 : decode cX8_write 22 = .ok (.sipush 1500, 3) := by decide +kernel
theorem dX8_write_25 : decode cX8_write 25 = .ok (.if_icmp .ge 13, 3) := by decide +kernel
theorem dX8_write_28 : decode cX8_write 28 = .ok (.aload_n 0, 1) := by decide +kernel
theorem dX8_write_29 : decode cX8_write 29 = .ok (.iload_n 1, 1) := by decide +kernel
theorem dX8_write_30 : decode cX8_write 30 = .ok (.iload_n 2, 1) := by decide +kernel
theorem dX8_write_31 : decode cX8_write 31 = .ok (.iload_n 3, 1) := by decide +kernel
theorem dX8_write_32 : decode cX8_write 32 = .ok (.invokevirtual 72, 3) := by decide +kernel
theorem dX8_write_35 : decode cX8_write 35 = .ok (.ifCond .ne 5, 3) := by decide +kernel
theorem dX8_write_38 : decode cX8_write 38 = .ok (.iconst (-1), 1) := by decide +kernel
theorem dX8_write_39 : decode cX8_write 39 = .ok (.ireturn, 1) := by decide +kernel
theorem dX8_write_40 : decode cX8_write 40 = .ok (.aload_n 0, 1) := by decide +kernel
theorem dX8_write_41 : decode cX8_write 41 = .ok (.getfield 32, 3) := by decide +kernel
theorem dX8_write_44 : decode cX8_write 44 = .ok (.getfield 76, 3) := by decide +kernel
theorem dX8_write_47 : decode cX8_write 47 = .ok (.iload 4, 2) := by decide +kernel
theorem dX8_write_49 : decode cX8_write 49 = .ok (.iload_n 1, 1) := by decide +kernel
theorem dX8_write_50 : decode cX8_write 50 = .ok (.iastore, 1) := by decide +kernel
theorem dX8_write_51 : decode cX8_write 51 = .ok (.aload_n 0, 1) := by decide +kernel
theorem dX8_write_52 : decode cX8_write 52 = .ok (.getfield 32, 3) := by decide +kernel
theorem dX8_write_55 : decode cX8_write 55 = .ok (.getfield 79, 3) := by decide +kernel
theorem dX8_write_58 : decode cX8_write 58 = .ok (.iload 4, 2) := by decide +kernel
theorem dX8_write_60 : decode cX8_write 60 = .ok (.iload_n 2, 1) := by decide +kernel
theorem dX8_write_61 : decode cX8_write 61 = .ok (.iastore, 1) := by decide +kernel
theorem dX8_write_62 : decode cX8_write 62 = .ok (.aload_n 0, 1) := by decide +kernel
theorem dX8_write_63 : decode cX8_write 63 = .ok (.getfield 32, 3) := by decide +kernel
theorem dX8_write_66 : decode cX8_write 66 = .ok (.getfield 82, 3) := by decide +kernel
theorem dX8_write_69 : decode cX8_write 69 = .ok (.iload 4, 2) := by decide +kernel
theorem dX8_write_71 : decode cX8_write 71 = .ok (.iload_n 3, 1) := by decide +kernel
theorem dX8_write_72 : decode cX8_write 72 = .ok (.iastore, 1) := by decide +kernel
theorem dX8_write_73 : decode cX8_write 73 = .ok (.aload_n 0, 1) := by decide +kernel
theorem dX8_write_74 : decode cX8_write 74 = .ok (.getfield 32, 3) := by decide +kernel
theorem dX8_write_77 : decode cX8_write 77 = .ok (.iload 4, 2) := by decide +kernel
theorem dX8_write_79 : decode cX8_write 79 = .ok (.iconst 1, 1) := by decide +kernel
theorem dX8_write_80 : decode cX8_write 80 = .ok (.iadd, 1) := by decide +kernel
theorem dX8_write_81 : decode cX8_write 81 = .ok (.putfield 66, 3) := by decide +kernel
theorem dX8_write_84 : decode cX8_write 84 = .ok (.aload_n 0, 1) := by decide +kernel
theorem dX8_write_85 : decode cX8_write 85 = .ok (.getfield 32, 3) := by decide +kernel
theorem dX8_write_88 : decode cX8_write 88 = .ok (.getfield 66, 3) := by decide +kernel
theorem dX8_write_91 : decode cX8_write 91 = .ok (.ireturn, 1) := by decide +kernel
theorem dX8_ownOperands_0 : decode cX8_ownOperands 0 = .ok (.aload_n 0, 1) := by decide +kernel
theorem dX8_ownOperands_1 : decode cX8_ownOperands 1 = .ok (.getfield 19, 3) := by decide +kernel
theorem dX8_ownOperands_4 : decode cX8_ownOperands 4 = .ok (.ifCond .ne 7, 3) := by decide +kernel
theorem dX8_ownOperands_7 : decode cX8_ownOperands 7 = .ok (.iconst 0, 1) := by decide +kernel
theorem dX8_ownOperands_8 : decode cX8_ownOperands 8 = .ok (.goto 12, 3) := by decide +kernel
theorem dX8_ownOperands_11 : decode cX8_ownOperands 11 = .ok (.aload_n 0, 1) := by decide +kernel
theorem dX8_ownOperands_12 : decode cX8_ownOperands 12 = .ok (.getfield 23, 3) := by decide +kernel
theorem dX8_ownOperands_15 : decode cX8_ownOperands 15 = .ok (.aload_n 0, 1) := by decide +kernel
theorem dX8_ownOperands_16 : decode cX8_ownOperands 16 = .ok (.invokevirtual 85, 3) := by decide +kernel
theorem dX8_ownOperands_19 : decode cX8_ownOperands 19 = .ok (.isub, 1) := by decide +kernel
theorem dX8_ownOperands_20 : decode cX8_ownOperands 20 = .ok (.ireturn, 1) := by decide +kernel
theorem dX8_isDead_0 : decode cX8_isDead 0 = .ok (.aload_n 0, 1) := by decide +kernel
theorem dX8_isDead_1 : decode cX8_isDead 1 = .ok (.getfield 19, 3) := by decide +kernel
theorem dX8_isDead_4 : decode cX8_isDead 4 = .ok (.ifCond .le 21, 3) := by decide +kernel
theorem dX8_isDead_7 : decode cX8_isDead 7 = .ok (.aload_n 0, 1) := by decide +kernel
theorem dX8_isDead_8 : decode cX8_isDead 8 = .ok (.getfield 15, 3) := by decide +kernel
theorem dX8_isDead_11 : decode cX8_isDead 11 = .ok (.aload_n 0, 1) := by decide +kernel
theorem dX8_isDead_12 : decode cX8_isDead 12 = .ok (.getfield 19, 3) := by decide +kernel
theorem dX8_isDead_15 : decode cX8_isDead 15 = .ok (.iconst 1, 1) := by decide +kernel
theorem dX8_isDead_16 : decode cX8_isDead 16 = .ok (.isub, 1) := by decide +kernel
theorem dX8_isDead_17 : decode cX8_isDead 17 = .ok (.baload, 1) := by decide +kernel
theorem dX8_isDead_18 : decode cX8_isDead 18 = .ok (.ifCond .eq 7, 3) := by decide +kernel
theorem dX8_isDead_21 : decode cX8_isDead 21 = .ok (.iconst 1, 1) := by decide +kernel
theorem dX8_isDead_22 : decode cX8_isDead 22 = .ok (.goto 4, 3) := by decide +kernel
theorem dX8_isDead_25 : decode cX8_isDead 25 = .ok (.iconst 0, 1) := by decide +kernel
theorem dX8_isDead_26 : decode cX8_isDead 26 = .ok (.ireturn, 1) := by decide +kernel
theorem dX8_stop_0 : decode cX8_stop 0 = .ok (.aload_n 0, 1) := by decide +kernel
theorem dX8_stop_1 : decode cX8_stop 1 = .ok (.getfield 32, 3) := by decide +kernel
theorem dX8_stop_4 : decode cX8_stop 4 = .ok (.iconst (-1), 1) := by decide +kernel
theorem dX8_stop_5 : decode cX8_stop 5 = .ok (.putfield 41, 3) := by decide +kernel
theorem dX8_stop_8 : decode cX8_stop 8 = .ok (.aload_n 0, 1) := by decide +kernel
theorem dX8_stop_9 : decode cX8_stop 9 = .ok (.iconst 0, 1) := by decide +kernel
theorem dX8_stop_10 : decode cX8_stop 10 = .ok (.putfield 19, 3) := by decide +kernel
theorem dX8_stop_13 : decode cX8_stop 13 = .ok (.aload_n 0, 1) := by decide +kernel
theorem dX8_stop_14 : decode cX8_stop 14 = .ok (.iconst 0, 1) := by decide +kernel
theorem dX8_stop_15 : decode cX8_stop 15 = .ok (.putfield 23, 3) := by decide +kernel
theorem dX8_stop_18 : decode cX8_stop 18 = .ok (.aload_n 0, 1) := by decide +kernel
theorem dX8_stop_19 : decode cX8_stop 19 = .ok (.iconst 0, 1) := by decide +kernel
theorem dX8_stop_20 : decode cX8_stop 20 = .ok (.putfield 26, 3) := by decide +kernel
theorem dX8_stop_23 : decode cX8_stop 23 = .ok (.return_, 1) := by decide +kernel
theorem dX8_admits_0 : decode cX8_admits 0 = .ok (.aload_n 0, 1) := by decide +kernel
theorem dX8_admits_1 : decode cX8_admits 1 = .ok (.getfield 26, 3) := by decide +kernel
theorem dX8_admits_4 : decode cX8_admits 4 = .ok (.ifCond .gt 9, 3) := by decide +kernel
theorem dX8_admits_7 : decode cX8_admits 7 = .ok (.iload_n 1, 1) := by decide +kernel
theorem dX8_admits_8 : decode cX8_admits 8 = .ok (.bipush 6, 2) := by decide +kernel
theorem dX8_admits_10 : decode cX8_admits 10 = .ok (.if_icmp .ne 30, 3) := by decide +kernel
theorem dX8_admits_13 : decode cX8_admits 13 = .ok (.aload_n 0, 1) := by decide +kernel
theorem dX8_admits_14 : decode cX8_admits 14 = .ok (.getfield 26, 3) := by decide +kernel
theorem dX8_admits_17 : decode cX8_admits 17 = .ok (.ifCond .le 21, 3) := by decide +kernel
theorem dX8_admits_20 : decode cX8_admits 20 = .ok (.iload_n 1, 1) := by decide +kernel
theorem dX8_admits_21 : decode cX8_admits 21 = .ok (.bipush 6, 2) := by decide +kernel
theorem dX8_admits_23 : decode cX8_admits 23 = .ok (.if_icmp .ne 15, 3) := by decide +kernel
theorem dX8_admits_26 : decode cX8_admits 26 = .ok (.aload_n 0, 1) := by decide +kernel
theorem dX8_admits_27 : decode cX8_admits 27 = .ok (.iload_n 2, 1) := by decide +kernel
theorem dX8_admits_28 : decode cX8_admits 28 = .ok (.invokevirtual 89, 3) := by decide +kernel
theorem dX8_admits_31 : decode cX8_admits 31 = .ok (.ifCond .eq 7, 3) := by decide +kernel
theorem dX8_admits_34 : decode cX8_admits 34 = .ok (.iconst 1, 1) := by decide +kernel
theorem dX8_admits_35 : decode cX8_admits 35 = .ok (.goto 4, 3) := by decide +kernel
theorem dX8_admits_38 : decode cX8_admits 38 = .ok (.iconst 0, 1) := by decide +kernel
theorem dX8_admits_39 : decode cX8_admits 39 = .ok (.ireturn, 1) := by decide +kernel
theorem dX8_admits_40 : decode cX8_admits 40 = .ok (.iload_n 1, 1) := by decide +kernel
theorem dX8_admits_41 : decode cX8_admits 41 = .ok (.tableswitch 223 0 17 #[87, 223, 93, 93, 101, 109, 223, 223, 223, 223, 223, 114, 119, 125, 131, 137, 142, 188], 87) := by decide +kernel
theorem dX8_admits_128 : decode cX8_admits 128 = .ok (.aload_n 0, 1) := by decide +kernel
theorem dX8_admits_129 : decode cX8_admits 129 = .ok (.invokevirtual 93, 3) := by decide +kernel
theorem dX8_admits_132 : decode cX8_admits 132 = .ok (.iconst 1, 1) := by decide +kernel
theorem dX8_admits_133 : decode cX8_admits 133 = .ok (.ireturn, 1) := by decide +kernel
theorem dX8_admits_134 : decode cX8_admits 134 = .ok (.aload_n 0, 1) := by decide +kernel
theorem dX8_admits_135 : decode cX8_admits 135 = .ok (.iload_n 2, 1) := by decide +kernel
theorem dX8_admits_136 : decode cX8_admits 136 = .ok (.iload_n 3, 1) := by decide +kernel
theorem dX8_admits_137 : decode cX8_admits 137 = .ok (.iconst 0, 1) := by decide +kernel
theorem dX8_admits_138 : decode cX8_admits 138 = .ok (.invokevirtual 96, 3) := by decide +kernel
theorem dX8_admits_141 : decode cX8_admits 141 = .ok (.ireturn, 1) := by decide +kernel
theorem dX8_admits_142 : decode cX8_admits 142 = .ok (.aload_n 0, 1) := by decide +kernel
theorem dX8_admits_143 : decode cX8_admits 143 = .ok (.iload_n 2, 1) := by decide +kernel
theorem dX8_admits_144 : decode cX8_admits 144 = .ok (.iload_n 3, 1) := by decide +kernel
theorem dX8_admits_145 : decode cX8_admits 145 = .ok (.iconst 1, 1) := by decide +kernel
theorem dX8_admits_146 : decode cX8_admits 146 = .ok (.invokevirtual 96, 3) := by decide +kernel
theorem dX8_admits_149 : decode cX8_admits 149 = .ok (.ireturn, 1) := by decide +kernel
theorem dX8_admits_150 : decode cX8_admits 150 = .ok (.aload_n 0, 1) := by decide +kernel
theorem dX8_admits_151 : decode cX8_admits 151 = .ok (.invokevirtual 99, 3) := by decide +kernel
theorem dX8_admits_154 : decode cX8_admits 154 = .ok (.ireturn, 1) := by decide +kernel
theorem dX8_admits_155 : decode cX8_admits 155 = .ok (.aload_n 0, 1) := by decide +kernel
theorem dX8_admits_156 : decode cX8_admits 156 = .ok (.invokevirtual 103, 3) := by decide +kernel
theorem dX8_admits_159 : decode cX8_admits 159 = .ok (.ireturn, 1) := by decide +kernel
theorem dX8_admits_160 : decode cX8_admits 160 = .ok (.aload_n 0, 1) := by decide +kernel
theorem dX8_admits_161 : decode cX8_admits 161 = .ok (.iload_n 2, 1) := by decide +kernel
theorem dX8_admits_162 : decode cX8_admits 162 = .ok (.invokevirtual 106, 3) := by decide +kernel
theorem dX8_admits_165 : decode cX8_admits 165 = .ok (.ireturn, 1) := by decide +kernel
theorem dX8_admits_166 : decode cX8_admits 166 = .ok (.aload_n 0, 1) := by decide +kernel
theorem dX8_admits_167 : decode cX8_admits 167 = .ok (.iload_n 2, 1) := by decide +kernel
theorem dX8_admits_168 : decode cX8_admits 168 = .ok (.invokevirtual 109, 3) := by decide +kernel
theorem dX8_admits_171 : decode cX8_admits 171 = .ok (.ireturn, 1) := by decide +kernel
theorem dX8_admits_172 : decode cX8_admits 172 = .ok (.aload_n 0, 1) := by decide +kernel
theorem dX8_admits_173 : decode cX8_admits 173 = .ok (.iload_n 2, 1) := by decide +kernel
theorem dX8_admits_174 : decode cX8_admits 174 = .ok (.invokevirtual 112, 3) := by decide +kernel
theorem dX8_admits_177 : decode cX8_admits 177 = .ok (.ireturn, 1) := by decide +kernel
theorem dX8_admits_178 : decode cX8_admits 178 = .ok (.aload_n 0, 1) := by decide +kernel
theorem dX8_admits_179 : decode cX8_admits 179 = .ok (.invokevirtual 115, 3) := by decide +kernel
theorem dX8_admits_182 : decode cX8_admits 182 = .ok (.ireturn, 1) := by decide +kernel
theorem dX8_admits_183 : decode cX8_admits 183 = .ok (.iload_n 2, 1) := by decide +kernel
theorem dX8_admits_184 : decode cX8_admits 184 = .ok (.ifCond .lt 43, 3) := by decide +kernel
theorem dX8_admits_187 : decode cX8_admits 187 = .ok (.iload_n 2, 1) := by decide +kernel
theorem dX8_admits_188 : decode cX8_admits 188 = .ok (.aload_n 0, 1) := by decide +kernel
theorem dX8_admits_189 : decode cX8_admits 189 = .ok (.getfield 32, 3) := by decide +kernel
theorem dX8_admits_192 : decode cX8_admits 192 = .ok (.getfield 36, 3) := by decide +kernel
theorem dX8_admits_195 : decode cX8_admits 195 = .ok (.if_icmp .ge 32, 3) := by decide +kernel
theorem dX8_admits_198 : decode cX8_admits 198 = .ok (.aload_n 0, 1) := by decide +kernel
theorem dX8_admits_199 : decode cX8_admits 199 = .ok (.aload_n 0, 1) := by decide +kernel
theorem dX8_admits_200 : decode cX8_admits 200 = .ok (.getfield 32, 3) := by decide +kernel
theorem dX8_admits_203 : decode cX8_admits 203 = .ok (.getfield 48, 3) := by decide +kernel
theorem dX8_admits_206 : decode cX8_admits 206 = .ok (.iload_n 2, 1) := by decide +kernel
theorem dX8_admits_207 : decode cX8_admits 207 = .ok (.iaload, 1) := by decide +kernel
theorem dX8_admits_208 : decode cX8_admits 208 = .ok (.aload_n 0, 1) := by decide +kernel
theorem dX8_admits_209 : decode cX8_admits 209 = .ok (.getfield 32, 3) := by decide +kernel
theorem dX8_admits_212 : decode cX8_admits 212 = .ok (.getfield 51, 3) := by decide +kernel
theorem dX8_admits_215 : decode cX8_admits 215 = .ok (.iload_n 2, 1) := by decide +kernel
theorem dX8_admits_216 : decode cX8_admits 216 = .ok (.iaload, 1) := by decide +kernel
theorem dX8_admits_217 : decode cX8_admits 217 = .ok (.invokevirtual 118, 3) := by decide +kernel
theorem dX8_admits_220 : decode cX8_admits 220 = .ok (.ifCond .eq 7, 3) := by decide +kernel
theorem dX8_admits_223 : decode cX8_admits 223 = .ok (.iconst 1, 1) := by decide +kernel
theorem dX8_admits_224 : decode cX8_admits 224 = .ok (.goto 4, 3) := by decide +kernel
theorem dX8_admits_227 : decode cX8_admits 227 = .ok (.iconst 0, 1) := by decide +kernel
theorem dX8_admits_228 : decode cX8_admits 228 = .ok (.ireturn, 1) := by decide +kernel
theorem dX8_admits_229 : decode cX8_admits 229 = .ok (.iload_n 2, 1) := by decide +kernel
theorem dX8_admits_230 : decode cX8_admits 230 = .ok (.bipush 8, 2) := by decide +kernel
theorem dX8_admits_232 : decode cX8_admits 232 = .ok (.invokestatic 44, 3) := by decide +kernel
theorem dX8_admits_235 : decode cX8_admits 235 = .ok (.ifCond .eq 27, 3) := by decide +kernel
theorem dX8_admits_238 : decode cX8_admits 238 = .ok (.iload_n 3, 1) := by decide +kernel
theorem dX8_admits_239 : decode cX8_admits 239 = .ok (.bipush 8, 2) := by decide +kernel
theorem dX8_admits_241 : decode cX8_admits 241 = .ok (.invokestatic 44, 3) := by decide +kernel
theorem dX8_admits_244 : decode cX8_admits 244 = .ok (.ifCond .eq 18, 3) := by decide +kernel
theorem dX8_admits_247 : decode cX8_admits 247 = .ok (.aload_n 0, 1) := by decide +kernel
theorem dX8_admits_248 : decode cX8_admits 248 = .ok (.iload_n 2, 1) := by decide +kernel
theorem dX8_admits_249 : decode cX8_admits 249 = .ok (.iconst 1, 1) := by decide +kernel
theorem dX8_admits_250 : decode cX8_admits 250 = .ok (.iadd, 1) := by decide +kernel
theorem dX8_admits_251 : decode cX8_admits 251 = .ok (.iload_n 3, 1) := by decide +kernel
theorem dX8_admits_252 : decode cX8_admits 252 = .ok (.invokevirtual 118, 3) := by decide +kernel
theorem dX8_admits_255 : decode cX8_admits 255 = .ok (.ifCond .eq 7, 3) := by decide +kernel
theorem dX8_admits_258 : decode cX8_admits 258 = .ok (.iconst 1, 1) := by decide +kernel
theorem dX8_admits_259 : decode cX8_admits 259 = .ok (.goto 4, 3) := by decide +kernel
theorem dX8_admits_262 : decode cX8_admits 262 = .ok (.iconst 0, 1) := by decide +kernel
theorem dX8_admits_263 : decode cX8_admits 263 = .ok (.ireturn, 1) := by decide +kernel
theorem dX8_admits_264 : decode cX8_admits 264 = .ok (.aload_n 0, 1) := by decide +kernel
theorem dX8_admits_265 : decode cX8_admits 265 = .ok (.iload_n 1, 1) := by decide +kernel
theorem dX8_admits_266 : decode cX8_admits 266 = .ok (.iload_n 2, 1) := by decide +kernel
theorem dX8_admits_267 : decode cX8_admits 267 = .ok (.invokevirtual 121, 3) := by decide +kernel
theorem dX8_admits_270 : decode cX8_admits 270 = .ok (.ireturn, 1) := by decide +kernel
theorem dX8_admitsBegin_0 : decode cX8_admitsBegin 0 = .ok (.iload_n 1, 1) := by decide +kernel
theorem dX8_admitsBegin_1 : decode cX8_admitsBegin 1 = .ok (.iconst 4, 1) := by decide +kernel
theorem dX8_admitsBegin_2 : decode cX8_admitsBegin 2 = .ok (.invokestatic 44, 3) := by decide +kernel
theorem dX8_admitsBegin_5 : decode cX8_admitsBegin 5 = .ok (.ifCond .eq 33, 3) := by decide +kernel
theorem dX8_admitsBegin_8 : decode cX8_admitsBegin 8 = .ok (.iload_n 2, 1) := by decide +kernel
theorem dX8_admitsBegin_9 : decode cX8_admitsBegin 9 = .ok (.iconst 4, 1) := by decide +kernel
theorem dX8_admitsBegin_10 : decode cX8_admitsBegin 10 = .ok (.invokestatic 44, 3) := by decide +kernel
theorem dX8_admitsBegin_13 : decode cX8_admitsBegin 13 = .ok (.ifCond .eq 25, 3) := by decide +kernel
theorem dX8_admitsBegin_16 : decode cX8_admitsBegin 16 = .ok (.aload_n 0, 1) := by decide +kernel
theorem dX8_admitsBegin_17 : decode cX8_admitsBegin 17 = .ok (.iload_n 1, 1) := by decide +kernel
theorem dX8_admitsBegin_18 : decode cX8_admitsBegin 18 = .ok (.iload_n 3, 1) := by decide +kernel
theorem dX8_admitsBegin_19 : decode cX8_admitsBegin 19 = .ok (.iadd, 1) := by decide +kernel
theorem dX8_admitsBegin_20 : decode cX8_admitsBegin 20 = .ok (.invokevirtual 124, 3) := by decide +kernel
theorem dX8_admitsBegin_23 : decode cX8_admitsBegin 23 = .ok (.ifCond .eq 15, 3) := by decide +kernel
theorem dX8_admitsBegin_26 : decode cX8_admitsBegin 26 = .ok (.aload_n 0, 1) := by decide +kernel
theorem dX8_admitsBegin_27 : decode cX8_admitsBegin 27 = .ok (.getfield 19, 3) := by decide +kernel
theorem dX8_admitsBegin_30 : decode cX8_admitsBegin 30 = .ok (.aload_n 0, 1) := by decide +kernel
theorem dX8_admitsBegin_31 : decode cX8_admitsBegin 31 = .ok (.getfield 9, 3) := by decide +kernel
theorem dX8_admitsBegin_34 : decode cX8_admitsBegin 34 = .ok (.arraylength, 1) := by decide +kernel
theorem dX8_admitsBegin_35 : decode cX8_admitsBegin 35 = .ok (.if_icmp .lt 5, 3) := by decide +kernel
theorem dX8_admitsBegin_38 : decode cX8_admitsBegin 38 = .ok (.iconst 0, 1) := by decide +kernel
theorem dX8_admitsBegin_39 : decode cX8_admitsBegin 39 = .ok (.ireturn, 1) := by decide +kernel
theorem dX8_admitsBegin_40 : decode cX8_admitsBegin 40 = .ok (.aload_n 0, 1) := by decide +kernel
theorem dX8_admitsBegin_41 : decode cX8_admitsBegin 41 = .ok (.getfield 32, 3) := by decide +kernel
theorem dX8_admitsBegin_44 : decode cX8_admitsBegin 44 = .ok (.getfield 66, 3) := by decide +kernel
theorem dX8_admitsBegin_47 : decode cX8_admitsBegin 47 = .ok (.istore 4, 2) := by decide +kernel
theorem dX8_admitsBegin_49 : decode cX8_admitsBegin 49 = .ok (.aload_n 0, 1) := by decide +kernel
theorem dX8_admitsBegin_50 : decode cX8_admitsBegin 50 = .ok (.iload_n 1, 1) := by decide +kernel
theorem dX8_admitsBegin_51 : decode cX8_admitsBegin 51 = .ok (.iload_n 3, 1) := by decide +kernel
theorem dX8_admitsBegin_52 : decode cX8_admitsBegin 52 = .ok (.iadd, 1) := by decide +kernel
theorem dX8_admitsBegin_53 : decode cX8_admitsBegin 53 = .ok (.invokevirtual 127, 3) := by decide +kernel
theorem dX8_admitsBegin_56 : decode cX8_admitsBegin 56 = .ok (.aload_n 0, 1) := by decide +kernel
theorem dX8_admitsBegin_57 : decode cX8_admitsBegin 57 = .ok (.getfield 32, 3) := by decide +kernel
theorem dX8_admitsBegin_60 : decode cX8_admitsBegin 60 = .ok (.getfield 131, 3) := by decide +kernel
theorem dX8_admitsBegin_63 : decode cX8_admitsBegin 63 = .ok (.iload 4, 2) := by decide +kernel
theorem dX8_admitsBegin_65 : decode cX8_admitsBegin 65 = .ok (.aload_n 0, 1) := by decide +kernel
theorem dX8_admitsBegin_66 : decode cX8_admitsBegin 66 = .ok (.getfield 23, 3) := by decide +kernel
theorem dX8_admitsBegin_69 : decode cX8_admitsBegin 69 = .ok (.iastore, 1) := by decide +kernel
theorem dX8_admitsBegin_70 : decode cX8_admitsBegin 70 = .ok (.aload_n 0, 1) := by decide +kernel
theorem dX8_admitsBegin_71 : decode cX8_admitsBegin 71 = .ok (.getfield 32, 3) := by decide +kernel
theorem dX8_admitsBegin_74 : decode cX8_admitsBegin 74 = .ok (.getfield 133, 3) := by decide +kernel
theorem dX8_admitsBegin_77 : decode cX8_admitsBegin 77 = .ok (.iload 4, 2) := by decide +kernel
theorem dX8_admitsBegin_79 : decode cX8_admitsBegin 79 = .ok (.iconst (-1), 1) := by decide +kernel
theorem dX8_admitsBegin_80 : decode cX8_admitsBegin 80 = .ok (.iastore, 1) := by decide +kernel
theorem dX8_admitsBegin_81 : decode cX8_admitsBegin 81 = .ok (.aload_n 0, 1) := by decide +kernel
theorem dX8_admitsBegin_82 : decode cX8_admitsBegin 82 = .ok (.getfield 32, 3) := by decide +kernel
theorem dX8_admitsBegin_85 : decode cX8_admitsBegin 85 = .ok (.getfield 136, 3) := by decide +kernel
theorem dX8_admitsBegin_88 : decode cX8_admitsBegin 88 = .ok (.iload 4, 2) := by decide +kernel
theorem dX8_admitsBegin_90 : decode cX8_admitsBegin 90 = .ok (.iconst (-1), 1) := by decide +kernel
theorem dX8_admitsBegin_91 : decode cX8_admitsBegin 91 = .ok (.iastore, 1) := by decide +kernel
theorem dX8_admitsBegin_92 : decode cX8_admitsBegin 92 = .ok (.aload_n 0, 1) := by decide +kernel
theorem dX8_admitsBegin_93 : decode cX8_admitsBegin 93 = .ok (.getfield 9, 3) := by decide +kernel
theorem dX8_admitsBegin_96 : decode cX8_admitsBegin 96 = .ok (.aload_n 0, 1) := by decide +kernel
theorem dX8_admitsBegin_97 : decode cX8_admitsBegin 97 = .ok (.getfield 19, 3) := by decide +kernel
theorem dX8_admitsBegin_100 : decode cX8_admitsBegin 100 = .ok (.iload 4, 2) := by decide +kernel
theorem dX8_admitsBegin_102 : decode cX8_admitsBegin 102 = .ok (.iastore, 1) := by decide +kernel
theorem dX8_admitsBegin_103 : decode cX8_admitsBegin 103 = .ok (.aload_n 0, 1) := by decide +kernel
theorem dX8_admitsBegin_104 : decode cX8_admitsBegin 104 = .ok (.getfield 15, 3) := by decide +kernel
theorem dX8_admitsBegin_107 : decode cX8_admitsBegin 107 = .ok (.aload_n 0, 1) := by decide +kernel
theorem dX8_admitsBegin_108 : decode cX8_admitsBegin 108 = .ok (.getfield 19, 3) := by decide +kernel
theorem dX8_admitsBegin_111 : decode cX8_admitsBegin 111 = .ok (.iconst 0, 1) := by decide +kernel
theorem dX8_admitsBegin_112 : decode cX8_admitsBegin 112 = .ok (.bastore, 1) := by decide +kernel
theorem dX8_admitsBegin_113 : decode cX8_admitsBegin 113 = .ok (.aload_n 0, 1) := by decide +kernel
theorem dX8_admitsBegin_114 : decode cX8_admitsBegin 114 = .ok (.dup, 1) := by decide +kernel
theorem dX8_admitsBegin_115 : decode cX8_admitsBegin 115 = .ok (.getfield 19, 3) := by decide +kernel
theorem dX8_admitsBegin_118 : decode cX8_admitsBegin 118 = .ok (.iconst 1, 1) := by decide +kernel
theorem dX8_admitsBegin_119 : decode cX8_admitsBegin 119 = .ok (.iadd, 1) := by decide +kernel
theorem dX8_admitsBegin_120 : decode cX8_admitsBegin 120 = .ok (.putfield 19, 3) := by decide +kernel
theorem dX8_admitsBegin_123 : decode cX8_admitsBegin 123 = .ok (.aload_n 0, 1) := by decide +kernel
theorem dX8_admitsBegin_124 : decode cX8_admitsBegin 124 = .ok (.iload_n 1, 1) := by decide +kernel
theorem dX8_admitsBegin_125 : decode cX8_admitsBegin 125 = .ok (.invokevirtual 139, 3) := by decide +kernel
theorem dX8_admitsBegin_128 : decode cX8_admitsBegin 128 = .ok (.iconst 1, 1) := by decide +kernel
theorem dX8_admitsBegin_129 : decode cX8_admitsBegin 129 = .ok (.ireturn, 1) := by decide +kernel
theorem dX8_admitsElse_0 : decode cX8_admitsElse 0 = .ok (.aload_n 0, 1) := by decide +kernel
theorem dX8_admitsElse_1 : decode cX8_admitsElse 1 = .ok (.getfield 9, 3) := by decide +kernel
theorem dX8_admitsElse_4 : decode cX8_admitsElse 4 = .ok (.aload_n 0, 1) := by decide +kernel
theorem dX8_admitsElse_5 : decode cX8_admitsElse 5 = .ok (.getfield 19, 3) := by decide +kernel
theorem dX8_admitsElse_8 : decode cX8_admitsElse 8 = .ok (.iconst 1, 1) := by decide +kernel
theorem dX8_admitsElse_9 : decode cX8_admitsElse 9 = .ok (.isub, 1) := by decide +kernel
theorem dX8_admitsElse_10 : decode cX8_admitsElse 10 = .ok (.iaload, 1) := by decide +kernel
theorem dX8_admitsElse_11 : decode cX8_admitsElse 11 = .ok (.istore_n 1, 1) := by decide +kernel
theorem dX8_admitsElse_12 : decode cX8_admitsElse 12 = .ok (.aload_n 0, 1) := by decide +kernel
theorem dX8_admitsElse_13 : decode cX8_admitsElse 13 = .ok (.iload_n 1, 1) := by decide +kernel
theorem dX8_admitsElse_14 : decode cX8_admitsElse 14 = .ok (.invokevirtual 142, 3) := by decide +kernel
theorem dX8_admitsElse_17 : decode cX8_admitsElse 17 = .ok (.ifCond .eq 10, 3) := by decide +kernel
theorem dX8_admitsElse_20 : decode cX8_admitsElse 20 = .ok (.aload_n 0, 1) := by decide +kernel
theorem dX8_admitsElse_21 : decode cX8_admitsElse 21 = .ok (.invokevirtual 145, 3) := by decide +kernel
theorem dX8_admitsElse_24 : decode cX8_admitsElse 24 = .ok (.ifCond .ne 5, 3) := by decide +kernel
theorem dX8_admitsElse_27 : decode cX8_admitsElse 27 = .ok (.iconst 0, 1) := by decide +kernel
theorem dX8_admitsElse_28 : decode cX8_admitsElse 28 = .ok (.ireturn, 1) := by decide +kernel
theorem dX8_admitsElse_29 : decode cX8_admitsElse 29 = .ok (.aload_n 0, 1) := by decide +kernel
theorem dX8_admitsElse_30 : decode cX8_admitsElse 30 = .ok (.getfield 32, 3) := by decide +kernel
theorem dX8_admitsElse_33 : decode cX8_admitsElse 33 = .ok (.getfield 66, 3) := by decide +kernel
theorem dX8_admitsElse_36 : decode cX8_admitsElse 36 = .ok (.istore_n 2, 1) := by decide +kernel
theorem dX8_admitsElse_37 : decode cX8_admitsElse 37 = .ok (.aload_n 0, 1) := by decide +kernel
theorem dX8_admitsElse_38 : decode cX8_admitsElse 38 = .ok (.getfield 32, 3) := by decide +kernel
theorem dX8_admitsElse_41 : decode cX8_admitsElse 41 = .ok (.getfield 136, 3) := by decide +kernel
theorem dX8_admitsElse_44 : decode cX8_admitsElse 44 = .ok (.iload_n 1, 1) := by decide +kernel
theorem dX8_admitsElse_45 : decode cX8_admitsElse 45 = .ok (.iload_n 2, 1) := by decide +kernel
theorem dX8_admitsElse_46 : decode cX8_admitsElse 46 = .ok (.iastore, 1) := by decide +kernel
theorem dX8_admitsElse_47 : decode cX8_admitsElse 47 = .ok (.aload_n 0, 1) := by decide +kernel
theorem dX8_admitsElse_48 : decode cX8_admitsElse 48 = .ok (.getfield 32, 3) := by decide +kernel
theorem dX8_admitsElse_51 : decode cX8_admitsElse 51 = .ok (.getfield 136, 3) := by decide +kernel
theorem dX8_admitsElse_54 : decode cX8_admitsElse 54 = .ok (.iload_n 2, 1) := by decide +kernel
theorem dX8_admitsElse_55 : decode cX8_admitsElse 55 = .ok (.iload_n 1, 1) := by decide +kernel
theorem dX8_admitsElse_56 : decode cX8_admitsElse 56 = .ok (.iastore, 1) := by decide +kernel
theorem dX8_admitsElse_57 : decode cX8_admitsElse 57 = .ok (.aload_n 0, 1) := by decide +kernel
theorem dX8_admitsElse_58 : decode cX8_admitsElse 58 = .ok (.getfield 32, 3) := by decide +kernel
theorem dX8_admitsElse_61 : decode cX8_admitsElse 61 = .ok (.getfield 133, 3) := by decide +kernel
theorem dX8_admitsElse_64 : decode cX8_admitsElse 64 = .ok (.iload_n 2, 1) := by decide +kernel
theorem dX8_admitsElse_65 : decode cX8_admitsElse 65 = .ok (.iconst (-1), 1) := by decide +kernel
theorem dX8_admitsElse_66 : decode cX8_admitsElse 66 = .ok (.iastore, 1) := by decide +kernel
theorem dX8_admitsElse_67 : decode cX8_admitsElse 67 = .ok (.aload_n 0, 1) := by decide +kernel
theorem dX8_admitsElse_68 : decode cX8_admitsElse 68 = .ok (.aload_n 0, 1) := by decide +kernel
theorem dX8_admitsElse_69 : decode cX8_admitsElse 69 = .ok (.getfield 32, 3) := by decide +kernel
theorem dX8_admitsElse_72 : decode cX8_admitsElse 72 = .ok (.getfield 131, 3) := by decide +kernel
theorem dX8_admitsElse_75 : decode cX8_admitsElse 75 = .ok (.iload_n 1, 1) := by decide +kernel
theorem dX8_admitsElse_76 : decode cX8_admitsElse 76 = .ok (.iaload, 1) := by decide +kernel
theorem dX8_admitsElse_77 : decode cX8_admitsElse 77 = .ok (.putfield 23, 3) := by decide +kernel
theorem dX8_admitsElse_80 : decode cX8_admitsElse 80 = .ok (.aload_n 0, 1) := by decide +kernel
theorem dX8_admitsElse_81 : decode cX8_admitsElse 81 = .ok (.getfield 15, 3) := by decide +kernel
theorem dX8_admitsElse_84 : decode cX8_admitsElse 84 = .ok (.aload_n 0, 1) := by decide +kernel
theorem dX8_admitsElse_85 : decode cX8_admitsElse 85 = .ok (.getfield 19, 3) := by decide +kernel
theorem dX8_admitsElse_88 : decode cX8_admitsElse 88 = .ok (.iconst 1, 1) := by decide +kernel
theorem dX8_admitsElse_89 : decode cX8_admitsElse 89 = .ok (.isub, 1) := by decide +kernel
theorem dX8_admitsElse_90 : decode cX8_admitsElse 90 = .ok (.iconst 0, 1) := by decide +kernel
theorem dX8_admitsElse_91 : decode cX8_admitsElse 91 = .ok (.bastore, 1) := by decide +kernel
theorem dX8_admitsElse_92 : decode cX8_admitsElse 92 = .ok (.aload_n 0, 1) := by decide +kernel
theorem dX8_admitsElse_93 : decode cX8_admitsElse 93 = .ok (.aload_n 0, 1) := by decide +kernel
theorem dX8_admitsElse_94 : decode cX8_admitsElse 94 = .ok (.getfield 32, 3) := by decide +kernel
theorem dX8_admitsElse_97 : decode cX8_admitsElse 97 = .ok (.getfield 79, 3) := by decide +kernel
theorem dX8_admitsElse_100 : decode cX8_admitsElse 100 = .ok (.iload_n 1, 1) := by decide +kernel
theorem dX8_admitsElse_101 : decode cX8_admitsElse 101 = .ok (.iaload, 1) := by decide +kernel
theorem dX8_admitsElse_102 : decode cX8_admitsElse 102 = .ok (.invokevirtual 139, 3) := by decide +kernel
theorem dX8_admitsElse_105 : decode cX8_admitsElse 105 = .ok (.iconst 1, 1) := by decide +kernel
theorem dX8_admitsElse_106 : decode cX8_admitsElse 106 = .ok (.ireturn, 1) := by decide +kernel
theorem dX8_admitsEnd_0 : decode cX8_admitsEnd 0 = .ok (.aload_n 0, 1) := by decide +kernel
theorem dX8_admitsEnd_1 : decode cX8_admitsEnd 1 = .ok (.getfield 9, 3) := by decide +kernel
theorem dX8_admitsEnd_4 : decode cX8_admitsEnd 4 = .ok (.aload_n 0, 1) := by decide +kernel
theorem dX8_admitsEnd_5 : decode cX8_admitsEnd 5 = .ok (.getfield 19, 3) := by decide +kernel
theorem dX8_admitsEnd_8 : decode cX8_admitsEnd 8 = .ok (.iconst 1, 1) := by decide +kernel
theorem dX8_admitsEnd_9 : decode cX8_admitsEnd 9 = .ok (.isub, 1) := by decide +kernel
theorem dX8_admitsEnd_10 : decode cX8_admitsEnd 10 = .ok (.iaload, 1) := by decide +kernel
theorem dX8_admitsEnd_11 : decode cX8_admitsEnd 11 = .ok (.istore_n 1, 1) := by decide +kernel
theorem dX8_admitsEnd_12 : decode cX8_admitsEnd 12 = .ok (.aload_n 0, 1) := by decide +kernel
theorem dX8_admitsEnd_13 : decode cX8_admitsEnd 13 = .ok (.iload_n 1, 1) := by decide +kernel
theorem dX8_admitsEnd_14 : decode cX8_admitsEnd 14 = .ok (.invokevirtual 142, 3) := by decide +kernel
theorem dX8_admitsEnd_17 : decode cX8_admitsEnd 17 = .ok (.ifCond .eq 28, 3) := by decide +kernel
theorem dX8_admitsEnd_20 : decode cX8_admitsEnd 20 = .ok (.aload_n 0, 1) := by decide +kernel
theorem dX8_admitsEnd_21 : decode cX8_admitsEnd 21 = .ok (.getfield 32, 3) := by decide +kernel
theorem dX8_admitsEnd_24 : decode cX8_admitsEnd 24 = .ok (.getfield 79, 3) := by decide +kernel
theorem dX8_admitsEnd_27 : decode cX8_admitsEnd 27 = .ok (.iload_n 1, 1) := by decide +kernel
theorem dX8_admitsEnd_28 : decode cX8_admitsEnd 28 = .ok (.iaload, 1) := by decide +kernel
theorem dX8_admitsEnd_29 : decode cX8_admitsEnd 29 = .ok (.aload_n 0, 1) := by decide +kernel
theorem dX8_admitsEnd_30 : decode cX8_admitsEnd 30 = .ok (.getfield 32, 3) := by decide +kernel
theorem dX8_admitsEnd_33 : decode cX8_admitsEnd 33 = .ok (.getfield 82, 3) := by decide +kernel
theorem dX8_admitsEnd_36 : decode cX8_admitsEnd 36 = .ok (.iload_n 1, 1) := by decide +kernel
theorem dX8_admitsEnd_37 : decode cX8_admitsEnd 37 = .ok (.iaload, 1) := by decide +kernel
theorem dX8_admitsEnd_38 : decode cX8_admitsEnd 38 = .ok (.if_icmp .eq 7, 3) := by decide +kernel
theorem dX8_admitsEnd_41 : decode cX8_admitsEnd 41 = .ok (.iconst 1, 1) := by decide +kernel
theorem dX8_admitsEnd_42 : decode cX8_admitsEnd 42 = .ok (.goto 4, 3) := by decide +kernel
theorem dX8_admitsEnd_45 : decode cX8_admitsEnd 45 = .ok (.iconst 0, 1) := by decide +kernel
theorem dX8_admitsEnd_46 : decode cX8_admitsEnd 46 = .ok (.istore_n 2, 1) := by decide +kernel
theorem dX8_admitsEnd_47 : decode cX8_admitsEnd 47 = .ok (.iload_n 2, 1) := by decide +kernel
theorem dX8_admitsEnd_48 : decode cX8_admitsEnd 48 = .ok (.ifCond .ne 10, 3) := by decide +kernel
theorem dX8_admitsEnd_51 : decode cX8_admitsEnd 51 = .ok (.aload_n 0, 1) := by decide +kernel
theorem dX8_admitsEnd_52 : decode cX8_admitsEnd 52 = .ok (.invokevirtual 145, 3) := by decide +kernel
theorem dX8_admitsEnd_55 : decode cX8_admitsEnd 55 = .ok (.ifCond .ne 5, 3) := by decide +kernel
theorem dX8_admitsEnd_58 : decode cX8_admitsEnd 58 = .ok (.iconst 0, 1) := by decide +kernel
theorem dX8_admitsEnd_59 : decode cX8_admitsEnd 59 = .ok (.ireturn, 1) := by decide +kernel
theorem dX8_admitsEnd_60 : decode cX8_admitsEnd 60 = .ok (.aload_n 0, 1) := by decide +kernel
theorem dX8_admitsEnd_61 : decode cX8_admitsEnd 61 = .ok (.getfield 32, 3) := by decide +kernel
theorem dX8_admitsEnd_64 : decode cX8_admitsEnd 64 = .ok (.getfield 66, 3) := by decide +kernel
theorem dX8_admitsEnd_67 : decode cX8_admitsEnd 67 = .ok (.istore_n 3, 1) := by decide +kernel
theorem dX8_admitsEnd_68 : decode cX8_admitsEnd 68 = .ok (.aload_n 0, 1) := by decide +kernel
theorem dX8_admitsEnd_69 : decode cX8_admitsEnd 69 = .ok (.getfield 32, 3) := by decide +kernel
theorem dX8_admitsEnd_72 : decode cX8_admitsEnd 72 = .ok (.getfield 133, 3) := by decide +kernel
theorem dX8_admitsEnd_75 : decode cX8_admitsEnd 75 = .ok (.iload_n 3, 1) := by decide +kernel
theorem dX8_admitsEnd_76 : decode cX8_admitsEnd 76 = .ok (.iload_n 1, 1) := by decide +kernel
theorem dX8_admitsEnd_77 : decode cX8_admitsEnd 77 = .ok (.iastore, 1) := by decide +kernel
theorem dX8_admitsEnd_78 : decode cX8_admitsEnd 78 = .ok (.iload_n 1, 1) := by decide +kernel
theorem dX8_admitsEnd_79 : decode cX8_admitsEnd 79 = .ok (.iconst (-1), 1) := by decide +kernel
theorem dX8_admitsEnd_80 : decode cX8_admitsEnd 80 = .ok (.if_icmp .ne 25, 3) := by decide +kernel
theorem dX8_admitsEnd_83 : decode cX8_admitsEnd 83 = .ok (.aload_n 0, 1) := by decide +kernel
theorem dX8_admitsEnd_84 : decode cX8_admitsEnd 84 = .ok (.getfield 32, 3) := by decide +kernel
theorem dX8_admitsEnd_87 : decode cX8_admitsEnd 87 = .ok (.getfield 148, 3) := by decide +kernel
theorem dX8_admitsEnd_90 : decode cX8_admitsEnd 90 = .ok (.aload_n 0, 1) := by decide +kernel
theorem dX8_admitsEnd_91 : decode cX8_admitsEnd 91 = .ok (.getfield 32, 3) := by decide +kernel
theorem dX8_admitsEnd_94 : decode cX8_admitsEnd 94 = .ok (.getfield 41, 3) := by decide +kernel
theorem dX8_admitsEnd_97 : decode cX8_admitsEnd 97 = .ok (.iload_n 3, 1) := by decide +kernel
theorem dX8_admitsEnd_98 : decode cX8_admitsEnd 98 = .ok (.iastore, 1) := by decide +kernel
theorem dX8_admitsEnd_99 : decode cX8_admitsEnd 99 = .ok (.aload_n 0, 1) := by decide +kernel
theorem dX8_admitsEnd_100 : decode cX8_admitsEnd 100 = .ok (.invokevirtual 69, 3) := by decide +kernel
theorem dX8_admitsEnd_103 : decode cX8_admitsEnd 103 = .ok (.iconst 1, 1) := by decide +kernel
theorem dX8_admitsEnd_104 : decode cX8_admitsEnd 104 = .ok (.ireturn, 1) := by decide +kernel
theorem dX8_admitsEnd_105 : decode cX8_admitsEnd 105 = .ok (.aload_n 0, 1) := by decide +kernel
theorem dX8_admitsEnd_106 : decode cX8_admitsEnd 106 = .ok (.getfield 32, 3) := by decide +kernel
theorem dX8_admitsEnd_109 : decode cX8_admitsEnd 109 = .ok (.getfield 133, 3) := by decide +kernel
theorem dX8_admitsEnd_112 : decode cX8_admitsEnd 112 = .ok (.iload_n 1, 1) := by decide +kernel
theorem dX8_admitsEnd_113 : decode cX8_admitsEnd 113 = .ok (.iload_n 3, 1) := by decide +kernel
theorem dX8_admitsEnd_114 : decode cX8_admitsEnd 114 = .ok (.iastore, 1) := by decide +kernel
theorem dX8_admitsEnd_115 : decode cX8_admitsEnd 115 = .ok (.aload_n 0, 1) := by decide +kernel
theorem dX8_admitsEnd_116 : decode cX8_admitsEnd 116 = .ok (.getfield 32, 3) := by decide +kernel
theorem dX8_admitsEnd_119 : decode cX8_admitsEnd 119 = .ok (.getfield 136, 3) := by decide +kernel
theorem dX8_admitsEnd_122 : decode cX8_admitsEnd 122 = .ok (.iload_n 1, 1) := by decide +kernel
theorem dX8_admitsEnd_123 : decode cX8_admitsEnd 123 = .ok (.iaload, 1) := by decide +kernel
theorem dX8_admitsEnd_124 : decode cX8_admitsEnd 124 = .ok (.iconst (-1), 1) := by decide +kernel
theorem dX8_admitsEnd_125 : decode cX8_admitsEnd 125 = .ok (.if_icmp .eq 21, 3) := by decide +kernel
theorem dX8_admitsEnd_128 : decode cX8_admitsEnd 128 = .ok (.aload_n 0, 1) := by decide +kernel
theorem dX8_admitsEnd_129 : decode cX8_admitsEnd 129 = .ok (.getfield 32, 3) := by decide +kernel
theorem dX8_admitsEnd_132 : decode cX8_admitsEnd 132 = .ok (.getfield 133, 3) := by decide +kernel
theorem dX8_admitsEnd_135 : decode cX8_admitsEnd 135 = .ok (.aload_n 0, 1) := by decide +kernel
theorem dX8_admitsEnd_136 : decode cX8_admitsEnd 136 = .ok (.getfield 32, 3) := by decide +kernel
theorem dX8_admitsEnd_139 : decode cX8_admitsEnd 139 = .ok (.getfield 136, 3) := by decide +kernel
theorem dX8_admitsEnd_142 : decode cX8_admitsEnd 142 = .ok (.iload_n 1, 1) := by decide +kernel
theorem dX8_admitsEnd_143 : decode cX8_admitsEnd 143 = .ok (.iaload, 1) := by decide +kernel
theorem dX8_admitsEnd_144 : decode cX8_admitsEnd 144 = .ok (.iload_n 3, 1) := by decide +kernel
theorem dX8_admitsEnd_145 : decode cX8_admitsEnd 145 = .ok (.iastore, 1) := by decide +kernel
theorem dX8_admitsEnd_146 : decode cX8_admitsEnd 146 = .ok (.aload_n 0, 1) := by decide +kernel
theorem dX8_admitsEnd_147 : decode cX8_admitsEnd 147 = .ok (.aload_n 0, 1) := by decide +kernel
theorem dX8_admitsEnd_148 : decode cX8_admitsEnd 148 = .ok (.invokevirtual 85, 3) := by decide +kernel
theorem dX8_admitsEnd_151 : decode cX8_admitsEnd 151 = .ok (.putfield 23, 3) := by decide +kernel
theorem dX8_admitsEnd_154 : decode cX8_admitsEnd 154 = .ok (.aload_n 0, 1) := by decide +kernel
theorem dX8_admitsEnd_155 : decode cX8_admitsEnd 155 = .ok (.dup, 1) := by decide +kernel
theorem dX8_admitsEnd_156 : decode cX8_admitsEnd 156 = .ok (.getfield 19, 3) := by decide +kernel
theorem dX8_admitsEnd_159 : decode cX8_admitsEnd 159 = .ok (.iconst 1, 1) := by decide +kernel
theorem dX8_admitsEnd_160 : decode cX8_admitsEnd 160 = .ok (.isub, 1) := by decide +kernel
theorem dX8_admitsEnd_161 : decode cX8_admitsEnd 161 = .ok (.putfield 19, 3) := by decide +kernel
