theorem dX0_init_0 : decode cX0_init 0 = .ok (.aload_n 0, 1) := by decide +kernel
theorem dX0_init_1 : decode cX0_init 1 = .ok (.invokespecial 3, 3) := by decide +kernel
theorem dX0_init_4 : decode cX0_init 4 = .ok (.aload_n 0, 1) := by decide +kernel
theorem dX0_init_5 : decode cX0_init 5 = .ok (.bipush 7, 2) := by decide +kernel
theorem dX0_init_7 : decode cX0_init 7 = .ok (.newarray .int, 2) := by decide +kernel
theorem dX0_init_9 : decode cX0_init 9 = .ok (.putfield 11, 3) := by decide +kernel
theorem dX0_init_12 : decode cX0_init 12 = .ok (.aload_n 0, 1) := by decide +kernel
theorem dX0_init_13 : decode cX0_init 13 = .ok (.bipush 32, 2) := by decide +kernel
theorem dX0_init_15 : decode cX0_init 15 = .ok (.newarray .long, 2) := by decide +kernel
theorem dX0_init_17 : decode cX0_init 17 = .ok (.putfield 15, 3) := by decide +kernel
theorem dX0_init_20 : decode cX0_init 20 = .ok (.aload_n 0, 1) := by decide +kernel
theorem dX0_init_21 : decode cX0_init 21 = .ok (.bipush 60, 2) := by decide +kernel
theorem dX0_init_23 : decode cX0_init 23 = .ok (.newarray .int, 2) := by decide +kernel
theorem dX0_init_25 : decode cX0_init 25 = .ok (.putfield 19, 3) := by decide +kernel
theorem dX0_init_28 : decode cX0_init 28 = .ok (.aload_n 0, 1) := by decide +kernel
theorem dX0_init_29 : decode cX0_init 29 = .ok (.iconst 0, 1) := by decide +kernel
theorem dX0_init_30 : decode cX0_init 30 = .ok (.putfield 22, 3) := by decide +kernel
theorem dX0_init_33 : decode cX0_init 33 = .ok (.aload_n 0, 1) := by decide +kernel
theorem dX0_init_34 : decode cX0_init 34 = .ok (.iconst 0, 1) := by decide +kernel
theorem dX0_init_35 : decode cX0_init 35 = .ok (.putfield 26, 3) := by decide +kernel
theorem dX0_init_38 : decode cX0_init 38 = .ok (.aload_n 0, 1) := by decide +kernel
theorem dX0_init_39 : decode cX0_init 39 = .ok (.iconst 0, 1) := by decide +kernel
theorem dX0_init_40 : decode cX0_init 40 = .ok (.putfield 29, 3) := by decide +kernel
theorem dX0_init_43 : decode cX0_init 43 = .ok (.aload_n 0, 1) := by decide +kernel
theorem dX0_init_44 : decode cX0_init 44 = .ok (.iconst 0, 1) := by decide +kernel
theorem dX0_init_45 : decode cX0_init 45 = .ok (.putfield 32, 3) := by decide +kernel
theorem dX0_init_48 : decode cX0_init 48 = .ok (.aload_n 0, 1) := by decide +kernel
theorem dX0_init_49 : decode cX0_init 49 = .ok (.iconst 0, 1) := by decide +kernel
theorem dX0_init_50 : decode cX0_init 50 = .ok (.putfield 35, 3) := by decide +kernel
theorem dX0_init_53 : decode cX0_init 53 = .ok (.aload_n 0, 1) := by decide +kernel
theorem dX0_init_54 : decode cX0_init 54 = .ok (.aload_n 1, 1) := by decide +kernel
theorem dX0_init_55 : decode cX0_init 55 = .ok (.putfield 38, 3) := by decide +kernel
theorem dX0_init_58 : decode cX0_init 58 = .ok (.aload_n 0, 1) := by decide +kernel
theorem dX0_init_59 : decode cX0_init 59 = .ok (.aload_n 2, 1) := by decide +kernel
theorem dX0_init_60 : decode cX0_init 60 = .ok (.putfield 42, 3) := by decide +kernel
theorem dX0_init_63 : decode cX0_init 63 = .ok (.aload_n 0, 1) := by decide +kernel
theorem dX0_init_64 : decode cX0_init 64 = .ok (.aload_n 3, 1) := by decide +kernel
theorem dX0_init_65 : decode cX0_init 65 = .ok (.getfield 46, 3) := by decide +kernel
theorem dX0_init_68 : decode cX0_init 68 = .ok (.putfield 52, 3) := by decide +kernel
theorem dX0_init_71 : decode cX0_init 71 = .ok (.aload_n 0, 1) := by decide +kernel
theorem dX0_init_72 : decode cX0_init 72 = .ok (.aload_n 3, 1) := by decide +kernel
theorem dX0_init_73 : decode cX0_init 73 = .ok (.getfield 53, 3) := by decide +kernel
theorem dX0_init_76 : decode cX0_init 76 = .ok (.putfield 57, 3) := by decide +kernel
theorem dX0_init_79 : decode cX0_init 79 = .ok (.return_, 1) := by decide +kernel
theorem dX0_begin_0 : decode cX0_begin 0 = .ok (.aload_n 0, 1) := by decide +kernel
theorem dX0_begin_1 : decode cX0_begin 1 = .ok (.aload_n 1, 1) := by decide +kernel
theorem dX0_begin_2 : decode cX0_begin 2 = .ok (.getfield 46, 3) := by decide +kernel
theorem dX0_begin_5 : decode cX0_begin 5 = .ok (.putfield 52, 3) := by decide +kernel
theorem dX0_begin_8 : decode cX0_begin 8 = .ok (.aload_n 0, 1) := by decide +kernel
theorem dX0_begin_9 : decode cX0_begin 9 = .ok (.aload_n 1, 1) := by decide +kernel
theorem dX0_begin_10 : decode cX0_begin 10 = .ok (.getfield 53, 3) := by decide +kernel
theorem dX0_begin_13 : decode cX0_begin 13 = .ok (.putfield 57, 3) := by decide +kernel
theorem dX0_begin_16 : decode cX0_begin 16 = .ok (.aload_n 0, 1) := by decide +kernel
theorem dX0_begin_17 : decode cX0_begin 17 = .ok (.iload_n 2, 1) := by decide +kernel
theorem dX0_begin_18 : decode cX0_begin 18 = .ok (.putfield 22, 3) := by decide +kernel
theorem dX0_begin_21 : decode cX0_begin 21 = .ok (.aload_n 0, 1) := by decide +kernel
theorem dX0_begin_22 : decode cX0_begin 22 = .ok (.iload_n 3, 1) := by decide +kernel
theorem dX0_begin_23 : decode cX0_begin 23 = .ok (.putfield 26, 3) := by decide +kernel
theorem dX0_begin_26 : decode cX0_begin 26 = .ok (.aload_n 0, 1) := by decide +kernel
theorem dX0_begin_27 : decode cX0_begin 27 = .ok (.aload_n 1, 1) := by decide +kernel
theorem dX0_begin_28 : decode cX0_begin 28 = .ok (.getfield 58, 3) := by decide +kernel
theorem dX0_begin_31 : decode cX0_begin 31 = .ok (.putfield 29, 3) := by decide +kernel
theorem dX0_begin_34 : decode cX0_begin 34 = .ok (.aload_n 0, 1) := by decide +kernel
theorem dX0_begin_35 : decode cX0_begin 35 = .ok (.aload_n 1, 1) := by decide +kernel
theorem dX0_begin_36 : decode cX0_begin 36 = .ok (.getfield 59, 3) := by decide +kernel
theorem dX0_begin_39 : decode cX0_begin 39 = .ok (.putfield 32, 3) := by decide +kernel
theorem dX0_begin_42 : decode cX0_begin 42 = .ok (.aload_n 0, 1) := by decide +kernel
theorem dX0_begin_43 : decode cX0_begin 43 = .ok (.iload 4, 2) := by decide +kernel
theorem dX0_begin_45 : decode cX0_begin 45 = .ok (.putfield 35, 3) := by decide +kernel
theorem dX0_begin_48 : decode cX0_begin 48 = .ok (.aload_n 1, 1) := by decide +kernel
theorem dX0_begin_49 : decode cX0_begin 49 = .ok (.getfield 60, 3) := by decide +kernel
theorem dX0_begin_52 : decode cX0_begin 52 = .ok (.aload_n 0, 1) := by decide +kernel
theorem dX0_begin_53 : decode cX0_begin 53 = .ok (.getfield 15, 3) := by decide +kernel
theorem dX0_begin_56 : decode cX0_begin 56 = .ok (.invokestatic 61, 3) := by decide +kernel
theorem dX0_begin_59 : decode cX0_begin 59 = .ok (.aload_n 0, 1) := by decide +kernel
theorem dX0_begin_60 : decode cX0_begin 60 = .ok (.getfield 11, 3) := by decide +kernel
theorem dX0_begin_63 : decode cX0_begin 63 = .ok (.iconst 0, 1) := by decide +kernel
theorem dX0_begin_64 : decode cX0_begin 64 = .ok (.invokestatic 65, 3) := by decide +kernel
theorem dX0_begin_67 : decode cX0_begin 67 = .ok (.aload_n 0, 1) := by decide +kernel
theorem dX0_begin_68 : decode cX0_begin 68 = .ok (.getfield 11, 3) := by decide +kernel
theorem dX0_begin_71 : decode cX0_begin 71 = .ok (.iconst 5, 1) := by decide +kernel
theorem dX0_begin_72 : decode cX0_begin 72 = .ok (.iconst (-1), 1) := by decide +kernel
theorem dX0_begin_73 : decode cX0_begin 73 = .ok (.iastore, 1) := by decide +kernel
theorem dX0_begin_74 : decode cX0_begin 74 = .ok (.aload_n 0, 1) := by decide +kernel
theorem dX0_begin_75 : decode cX0_begin 75 = .ok (.getfield 11, 3) := by decide +kernel
theorem dX0_begin_78 : decode cX0_begin 78 = .ok (.iconst 4, 1) := by decide +kernel
theorem dX0_begin_79 : decode cX0_begin 79 = .ok (.aload_n 0, 1) := by decide +kernel
theorem dX0_begin_80 : decode cX0_begin 80 = .ok (.invokevirtual 71, 3) := by decide +kernel
theorem dX0_begin_83 : decode cX0_begin 83 = .ok (.iastore, 1) := by decide +kernel
theorem dX0_begin_84 : decode cX0_begin 84 = .ok (.return_, 1) := by decide +kernel
theorem dX0_draw_0 : decode cX0_draw 0 = .ok (.aload_n 0, 1) := by decide +kernel
theorem dX0_draw_1 : decode cX0_draw 1 = .ok (.aload_n 0, 1) := by decide +kernel
theorem dX0_draw_2 : decode cX0_draw 2 = .ok (.getfield 35, 3) := by decide +kernel
theorem dX0_draw_5 : decode cX0_draw 5 = .ok (.sipush 3541, 3) := by decide +kernel
theorem dX0_draw_8 : decode cX0_draw 8 = .ok (.imul, 1) := by decide +kernel
theorem dX0_draw_9 : decode cX0_draw 9 = .ok (.sipush 8713, 3) := by decide +kernel
theorem dX0_draw_12 : decode cX0_draw 12 = .ok (.iadd, 1) := by decide +kernel
theorem dX0_draw_13 : decode cX0_draw 13 = .ok (.ldc 75, 2) := by decide +kernel
theorem dX0_draw_15 : decode cX0_draw 15 = .ok (.irem, 1) := by decide +kernel
theorem dX0_draw_16 : decode cX0_draw 16 = .ok (.putfield 35, 3) := by decide +kernel
theorem dX0_draw_19 : decode cX0_draw 19 = .ok (.aload_n 0, 1) := by decide +kernel
theorem dX0_draw_20 : decode cX0_draw 20 = .ok (.getfield 35, 3) := by decide +kernel
theorem dX0_draw_23 : decode cX0_draw 23 = .ok (.bipush 8, 2) := by decide +kernel
theorem dX0_draw_25 : decode cX0_draw 25 = .ok (.idiv, 1) := by decide +kernel
theorem dX0_draw_26 : decode cX0_draw 26 = .ok (.iconst 1, 1) := by decide +kernel
theorem dX0_draw_27 : decode cX0_draw 27 = .ok (.iload_n 1, 1) := by decide +kernel
theorem dX0_draw_28 : decode cX0_draw 28 = .ok (.invokestatic 76, 3) := by decide +kernel
theorem dX0_draw_31 : decode cX0_draw 31 = .ok (.irem, 1) := by decide +kernel
theorem dX0_draw_32 : decode cX0_draw 32 = .ok (.ireturn, 1) := by decide +kernel
theorem dX0_drawTruth_0 : decode cX0_drawTruth 0 = .ok (.aload_n 0, 1) := by decide +kernel
theorem dX0_drawTruth_1 : decode cX0_drawTruth 1 = .ok (.sipush 1000, 3) := by decide +kernel
theorem dX0_drawTruth_4 : decode cX0_drawTruth 4 = .ok (.invokevirtual 82, 3) := by decide +kernel
theorem dX0_drawTruth_7 : decode cX0_drawTruth 7 = .ok (.istore_n 1, 1) := by decide +kernel
theorem dX0_drawTruth_8 : decode cX0_drawTruth 8 = .ok (.lconst 0, 1) := by decide +kernel
theorem dX0_drawTruth_9 : decode cX0_drawTruth 9 = .ok (.lstore_n 2, 1) := by decide +kernel
theorem dX0_drawTruth_10 : decode cX0_drawTruth 10 = .ok (.aload_n 0, 1) := by decide +kernel
theorem dX0_drawTruth_11 : decode cX0_drawTruth 11 = .ok (.getfield 52, 3) := by decide +kernel
theorem dX0_drawTruth_14 : decode cX0_drawTruth 14 = .ok (.invokevirtual 86, 3) := by decide +kernel
theorem dX0_drawTruth_17 : decode cX0_drawTruth 17 = .ok (.iconst 1, 1) := by decide +kernel
theorem dX0_drawTruth_18 : decode cX0_drawTruth 18 = .ok (.isub, 1) := by decide +kernel
theorem dX0_drawTruth_19 : decode cX0_drawTruth 19 = .ok (.istore 4, 2) := by decide +kernel
theorem dX0_drawTruth_21 : decode cX0_drawTruth 21 = .ok (.iconst 0, 1) := by decide +kernel
theorem dX0_drawTruth_22 : decode cX0_drawTruth 22 = .ok (.istore 5, 2) := by decide +kernel
theorem dX0_drawTruth_24 : decode cX0_drawTruth 24 = .ok (.iload 5, 2) := by decide +kernel
theorem dX0_drawTruth_26 : decode cX0_drawTruth 26 = .ok (.iload 4, 2) := by decide +kernel
theorem dX0_drawTruth_28 : decode cX0_drawTruth 28 = .ok (.if_icmp .ge 33, 3) := by decide +kernel
theorem dX0_drawTruth_31 : decode cX0_drawTruth 31 = .ok (.lload_n 2, 1) := by decide +kernel
theorem dX0_drawTruth_32 : decode cX0_drawTruth 32 = .ok (.aload_n 0, 1) := by decide +kernel
theorem dX0_drawTruth_33 : decode cX0_drawTruth 33 = .ok (.getfield 15, 3) := by decide +kernel
theorem dX0_drawTruth_36 : decode cX0_drawTruth 36 = .ok (.iload 5, 2) := by decide +kernel
theorem dX0_drawTruth_38 : decode cX0_drawTruth 38 = .ok (.laload, 1) := by decide +kernel
theorem dX0_drawTruth_39 : decode cX0_drawTruth 39 = .ok (.ladd, 1) := by decide +kernel
theorem dX0_drawTruth_40 : decode cX0_drawTruth 40 = .ok (.lstore_n 2, 1) := by decide +kernel
theorem dX0_drawTruth_41 : decode cX0_drawTruth 41 = .ok (.lload_n 2, 1) := by decide +kernel
theorem dX0_drawTruth_42 : decode cX0_drawTruth 42 = .ok (.ldc2_w 91, 3) := by decide +kernel
theorem dX0_drawTruth_45 : decode cX0_drawTruth 45 = .ok (.ldiv, 1) := by decide +kernel
theorem dX0_drawTruth_46 : decode cX0_drawTruth 46 = .ok (.iload_n 1, 1) := by decide +kernel
theorem dX0_drawTruth_47 : decode cX0_drawTruth 47 = .ok (.i2l, 1) := by decide +kernel
theorem dX0_drawTruth_48 : decode cX0_drawTruth 48 = .ok (.lcmp, 1) := by decide +kernel
theorem dX0_drawTruth_49 : decode cX0_drawTruth 49 = .ok (.ifCond .le 6, 3) := by decide +kernel
theorem dX0_drawTruth_52 : decode cX0_drawTruth 52 = .ok (.iload 5, 2) := by decide +kernel
theorem dX0_drawTruth_54 : decode cX0_drawTruth 54 = .ok (.ireturn, 1) := by decide +kernel
theorem dX0_drawTruth_55 : decode cX0_drawTruth 55 = .ok (.iinc 5 1, 3) := by decide +kernel
theorem dX0_drawTruth_58 : decode cX0_drawTruth 58 = .ok (.goto (-34), 3) := by decide +kernel
theorem dX0_drawTruth_61 : decode cX0_drawTruth 61 = .ok (.iload 4, 2) := by decide +kernel
theorem dX0_drawTruth_63 : decode cX0_drawTruth 63 = .ok (.ireturn, 1) := by decide +kernel
theorem dX0_follow_0 : decode cX0_follow 0 = .ok (.iconst 0, 1) := by decide +kernel
theorem dX0_follow_1 : decode cX0_follow 1 = .ok (.istore_n 1, 1) := by decide +kernel
theorem dX0_follow_2 : decode cX0_follow 2 = .ok (.iconst 0, 1) := by decide +kernel
theorem dX0_follow_3 : decode cX0_follow 3 = .ok (.istore_n 2, 1) := by decide +kernel
theorem dX0_follow_4 : decode cX0_follow 4 = .ok (.iload_n 2, 1) := by decide +kernel
theorem dX0_follow_5 : decode cX0_follow 5 = .ok (.ldc 93, 2) := by decide +kernel
theorem dX0_follow_7 : decode cX0_follow 7 = .ok (.if_icmp .ge 105, 3) := by decide +kernel
theorem dX0_follow_10 : decode cX0_follow 10 = .ok (.iload_n 1, 1) := by decide +kernel
theorem dX0_follow_11 : decode cX0_follow 11 = .ok (.ifCond .lt 14, 3) := by decide +kernel
theorem dX0_follow_14 : decode cX0_follow 14 = .ok (.iload_n 1, 1) := by decide +kernel
theorem dX0_follow_15 : decode cX0_follow 15 = .ok (.aload_n 0, 1) := by decide +kernel
theorem dX0_follow_16 : decode cX0_follow 16 = .ok (.getfield 57, 3) := by decide +kernel
theorem dX0_follow_19 : decode cX0_follow 19 = .ok (.getfield 94, 3) := by decide +kernel
theorem dX0_follow_22 : decode cX0_follow 22 = .ok (.if_icmp .lt 5, 3) := by decide +kernel
theorem dX0_follow_25 : decode cX0_follow 25 = .ok (.iconst 3, 1) := by decide +kernel
theorem dX0_follow_26 : decode cX0_follow 26 = .ok (.ireturn, 1) := by decide +kernel
theorem dX0_follow_27 : decode cX0_follow 27 = .ok (.aload_n 0, 1) := by decide +kernel
theorem dX0_follow_28 : decode cX0_follow 28 = .ok (.getfield 57, 3) := by decide +kernel
theorem dX0_follow_31 : decode cX0_follow 31 = .ok (.getfield 99, 3) := by decide +kernel
theorem dX0_follow_34 : decode cX0_follow 34 = .ok (.iload_n 1, 1) := by decide +kernel
theorem dX0_follow_35 : decode cX0_follow 35 = .ok (.iaload, 1) := by decide +kernel
theorem dX0_follow_36 : decode cX0_follow 36 = .ok (.istore_n 3, 1) := by decide +kernel
theorem dX0_follow_37 : decode cX0_follow 37 = .ok (.iload_n 3, 1) := by decide +kernel
theorem dX0_follow_38 : decode cX0_follow 38 = .ok (.ifCond .ne 12, 3) := by decide +kernel
theorem dX0_follow_41 : decode cX0_follow 41 = .ok (.aload_n 0, 1) := by decide +kernel
theorem dX0_follow_42 : decode cX0_follow 42 = .ok (.iload_n 1, 1) := by decide +kernel
theorem dX0_follow_43 : decode cX0_follow 43 = .ok (.invokevirtual 102, 3) := by decide +kernel
theorem dX0_follow_46 : decode cX0_follow 46 = .ok (.istore_n 1, 1) := by decide +kernel
theorem dX0_follow_47 : decode cX0_follow 47 = .ok (.goto 59, 3) := by decide +kernel
theorem dX0_follow_50 : decode cX0_follow 50 = .ok (.aload_n 0, 1) := by decide +kernel
theorem dX0_follow_51 : decode cX0_follow 51 = .ok (.getfield 11, 3) := by decide +kernel
theorem dX0_follow_54 : decode cX0_follow 54 = .ok (.iconst 1, 1) := by decide +kernel
theorem dX0_follow_55 : decode cX0_follow 55 = .ok (.iaload, 1) := by decide +kernel
theorem dX0_follow_56 : decode cX0_follow 56 = .ok (.bipush 100, 2) := by decide +kernel
theorem dX0_follow_58 : decode cX0_follow 58 = .ok (.if_icmp .lt 13, 3) := by decide +kernel
theorem dX0_follow_61 : decode cX0_follow 61 = .ok (.aload_n 0, 1) := by decide +kernel
theorem dX0_follow_62 : decode cX0_follow 62 = .ok (.getfield 11, 3) := by decide +kernel
theorem dX0_follow_65 : decode cX0_follow 65 = .ok (.bipush 6, 2) := by decide +kernel
theorem dX0_follow_67 : decode cX0_follow 67 = .ok (.iconst 1, 1) := by decide +kernel
theorem dX0_follow_68 : decode cX0_follow 68 = .ok (.iastore, 1) := by decide +kernel
theorem dX0_follow_69 : decode cX0_follow 69 = .ok (.iconst 3, 1) := by decide +kernel
theorem dX0_follow_70 : decode cX0_follow 70 = .ok (.ireturn, 1) := by decide +kernel
theorem dX0_follow_71 : decode cX0_follow 71 = .ok (.aload_n 0, 1) := by decide +kernel
theorem dX0_follow_72 : decode cX0_follow 72 = .ok (.getfield 11, 3) := by decide +kernel
theorem dX0_follow_75 : decode cX0_follow 75 = .ok (.iconst 1, 1) := by decide +kernel
theorem dX0_follow_76 : decode cX0_follow 76 = .ok (.dup2, 1) := by decide +kernel
theorem dX0_follow_77 : decode cX0_follow 77 = .ok (.iaload, 1) := by decide +kernel
theorem dX0_follow_78 : decode cX0_follow 78 = .ok (.iconst 1, 1) := by decide +kernel
theorem dX0_follow_79 : decode cX0_follow 79 = .ok (.iadd, 1) := by decide +kernel
theorem dX0_follow_80 : decode cX0_follow 80 = .ok (.iastore, 1) := by decide +kernel
theorem dX0_follow_81 : decode cX0_follow 81 = .ok (.iload_n 3, 1) := by decide +kernel
theorem dX0_follow_82 : decode cX0_follow 82 = .ok (.bipush 7, 2) := by decide +kernel
theorem dX0_follow_84 : decode cX0_follow 84 = .ok (.if_icmp .ne 8, 3) := by decide +kernel
theorem dX0_follow_87 : decode cX0_follow 87 = .ok (.aload_n 0, 1) := by decide +kernel
theorem dX0_follow_88 : decode cX0_follow 88 = .ok (.invokevirtual 105, 3) := by decide +kernel
theorem dX0_follow_91 : decode cX0_follow 91 = .ok (.ireturn, 1) := by decide +kernel
theorem dX0_follow_92 : decode cX0_follow 92 = .ok (.iload_n 3, 1) := by decide +kernel
theorem dX0_follow_93 : decode cX0_follow 93 = .ok (.bipush 8, 2) := by decide +kernel
theorem dX0_follow_95 : decode cX0_follow 95 = .ok (.if_icmp .ne 5, 3) := by decide +kernel
theorem dX0_follow_98 : decode cX0_follow 98 = .ok (.iconst 3, 1) := by decide +kernel
theorem dX0_follow_99 : decode cX0_follow 99 = .ok (.ireturn, 1) := by decide +kernel
theorem dX0_follow_100 : decode cX0_follow 100 = .ok (.aload_n 0, 1) := by decide +kernel
theorem dX0_follow_101 : decode cX0_follow 101 = .ok (.iload_n 1, 1) := by decide +kernel
theorem dX0_follow_102 : decode cX0_follow 102 = .ok (.invokevirtual 108, 3) := by decide +kernel
theorem dX0_follow_105 : decode cX0_follow 105 = .ok (.istore_n 1, 1) := by decide +kernel
theorem dX0_follow_106 : decode cX0_follow 106 = .ok (.iinc 2 1, 3) := by decide +kernel
theorem dX0_follow_109 : decode cX0_follow 109 = .ok (.goto (-105), 3) := by decide +kernel
theorem dX0_follow_112 : decode cX0_follow 112 = .ok (.iconst 3, 1) := by decide +kernel
theorem dX0_follow_113 : decode cX0_follow 113 = .ok (.ireturn, 1) := by decide +kernel
theorem dX0_lineBehindEnd_0 : decode cX0_lineBehindEnd 0 = .ok (.aload_n 0, 1) := by decide +kernel
theorem dX0_lineBehindEnd_1 : decode cX0_lineBehindEnd 1 = .ok (.getfield 57, 3) := by decide +kernel
theorem dX0_lineBehindEnd_4 : decode cX0_lineBehindEnd 4 = .ok (.getfield 111, 3) := by decide +kernel
theorem dX0_lineBehindEnd_7 : decode cX0_lineBehindEnd 7 = .ok (.iload_n 1, 1) := by decide +kernel
theorem dX0_lineBehindEnd_8 : decode cX0_lineBehindEnd 8 = .ok (.iaload, 1) := by decide +kernel
theorem dX0_lineBehindEnd_9 : decode cX0_lineBehindEnd 9 = .ok (.istore_n 2, 1) := by decide +kernel
theorem dX0_lineBehindEnd_10 : decode cX0_lineBehindEnd 10 = .ok (.iload_n 2, 1) := by decide +kernel
theorem dX0_lineBehindEnd_11 : decode cX0_lineBehindEnd 11 = .ok (.ifCond .lt 45, 3) := by decide +kernel
theorem dX0_lineBehindEnd_14 : decode cX0_lineBehindEnd 14 = .ok (.iload_n 2, 1) := by decide +kernel
theorem dX0_lineBehindEnd_15 : decode cX0_lineBehindEnd 15 = .ok (.iload_n 1, 1) := by decide +kernel
theorem dX0_lineBehindEnd_16 : decode cX0_lineBehindEnd 16 = .ok (.if_icmp .ge 40, 3) := by decide +kernel
theorem dX0_lineBehindEnd_19 : decode cX0_lineBehindEnd 19 = .ok (.aload_n 0, 1) := by decide +kernel
theorem dX0_lineBehindEnd_20 : decode cX0_lineBehindEnd 20 = .ok (.getfield 57, 3) := by decide +kernel
theorem dX0_lineBehindEnd_23 : decode cX0_lineBehindEnd 23 = .ok (.getfield 99, 3) := by decide +kernel
theorem dX0_lineBehindEnd_26 : decode cX0_lineBehindEnd 26 = .ok (.iload_n 2, 1) := by decide +kernel
theorem dX0_lineBehindEnd_27 : decode cX0_lineBehindEnd 27 = .ok (.iaload, 1) := by decide +kernel
theorem dX0_lineBehindEnd_28 : decode cX0_lineBehindEnd 28 = .ok (.bipush 6, 2) := by decide +kernel
theorem dX0_lineBehindEnd_30 : decode cX0_lineBehindEnd 30 = .ok (.if_icmp .ne 26, 3) := by decide +kernel
theorem dX0_lineBehindEnd_33 : decode cX0_lineBehindEnd 33 = .ok (.aload_n 0, 1) := by decide +kernel
theorem dX0_lineBehindEnd_34 : decode cX0_lineBehindEnd 34 = .ok (.getfield 19, 3) := by decide +kernel
theorem dX0_lineBehindEnd_37 : decode cX0_lineBehindEnd 37 = .ok (.iload_n 2, 1) := by decide +kernel
theorem dX0_lineBehindEnd_38 : decode cX0_lineBehindEnd 38 = .ok (.dup2, 1) := by decide +kernel
theorem dX0_lineBehindEnd_39 : decode cX0_lineBehindEnd 39 = .ok (.iaload, 1) := by decide +kernel
theorem dX0_lineBehindEnd_40 : decode cX0_lineBehindEnd 40 = .ok (.iconst 1, 1) := by decide +kernel
theorem dX0_lineBehindEnd_41 : decode cX0_lineBehindEnd 41 = .ok (.isub, 1) := by decide +kernel
theorem dX0_lineBehindEnd_42 : decode cX0_lineBehindEnd 42 = .ok (.iastore, 1) := by decide +kernel
theorem dX0_lineBehindEnd_43 : decode cX0_lineBehindEnd 43 = .ok (.aload_n 0, 1) := by decide +kernel
theorem dX0_lineBehindEnd_44 : decode cX0_lineBehindEnd 44 = .ok (.getfield 19, 3) := by decide +kernel
theorem dX0_lineBehindEnd_47 : decode cX0_lineBehindEnd 47 = .ok (.iload_n 2, 1) := by decide +kernel
theorem dX0_lineBehindEnd_48 : decode cX0_lineBehindEnd 48 = .ok (.iaload, 1) := by decide +kernel
theorem dX0_lineBehindEnd_49 : decode cX0_lineBehindEnd 49 = .ok (.ifCond .le 7, 3) := by decide +kernel
theorem dX0_lineBehindEnd_52 : decode cX0_lineBehindEnd 52 = .ok (.iload_n 2, 1) := by decide +kernel
theorem dX0_lineBehindEnd_53 : decode cX0_lineBehindEnd 53 = .ok (.iconst 1, 1) := by decide +kernel
theorem dX0_lineBehindEnd_54 : decode cX0_lineBehindEnd 54 = .ok (.iadd, 1) := by decide +kernel
theorem dX0_lineBehindEnd_55 : decode cX0_lineBehindEnd 55 = .ok (.ireturn, 1) := by decide +kernel
theorem dX0_lineBehindEnd_56 : decode cX0_lineBehindEnd 56 = .ok (.iload_n 1, 1) := by decide +kernel
theorem dX0_lineBehindEnd_57 : decode cX0_lineBehindEnd 57 = .ok (.iconst 1, 1) := by decide +kernel
theorem dX0_lineBehindEnd_58 : decode cX0_lineBehindEnd 58 = .ok (.iadd, 1) := by decide +kernel
theorem dX0_lineBehindEnd_59 : decode cX0_lineBehindEnd 59 = .ok (.ireturn, 1) := by decide +kernel
theorem dX0_doStep_0 : decode cX0_doStep 0 = .ok (.aload_n 0, 1) := by decide +kernel
theorem dX0_doStep_1 : decode cX0_doStep 1 = .ok (.getfield 57, 3) := by decide +kernel
theorem dX0_doStep_4 : decode cX0_doStep 4 = .ok (.getfield 114, 3) := by decide +kernel
theorem dX0_doStep_7 : decode cX0_doStep 7 = .ok (.iload_n 1, 1) := by decide +kernel
theorem dX0_doStep_8 : decode cX0_doStep 8 = .ok (.iaload, 1) := by decide +kernel
theorem dX0_doStep_9 : decode cX0_doStep 9 = .ok (.istore_n 2, 1) := by decide +kernel
theorem dX0_doStep_10 : decode cX0_doStep 10 = .ok (.aload_n 0, 1) := by decide +kernel
theorem dX0_doStep_11 : decode cX0_doStep 11 = .ok (.getfield 57, 3) := by decide +kernel
theorem dX0_doStep_14 : decode cX0_doStep 14 = .ok (.getfield 117, 3) := by decide +kernel
theorem dX0_doStep_17 : decode cX0_doStep 17 = .ok (.iload_n 1, 1) := by decide +kernel
theorem dX0_doStep_18 : decode cX0_doStep 18 = .ok (.iaload, 1) := by decide +kernel
theorem dX0_doStep_19 : decode cX0_doStep 19 = .ok (.istore_n 3, 1) := by decide +kernel
theorem dX0_doStep_20 : decode cX0_doStep 20 = .ok (.aload_n 0, 1) := by decide +kernel
theorem dX0_doStep_21 : decode cX0_doStep 21 = .ok (.getfield 57, 3) := by decide +kernel
theorem dX0_doStep_24 : decode cX0_doStep 24 = .ok (.getfield 99, 3) := by decide +kernel
theorem dX0_doStep_27 : decode cX0_doStep 27 = .ok (.iload_n 1, 1) := by decide +kernel
theorem dX0_doStep_28 : decode cX0_doStep 28 = .ok (.iaload, 1) := by decide +kernel
theorem dX0_doStep_29 : decode cX0_doStep 29 = .ok (.tableswitch 105 1 6 #[39, 47, 55, 77, 105, 95], 39) := by decide +kernel
theorem dX0_doStep_68 : decode cX0_doStep 68 = .ok (.aload_n 0, 1) := by decide +kernel
theorem dX0_doStep_69 : decode cX0_doStep 69 = .ok (.iload_n 2, 1) := by decide +kernel
theorem dX0_doStep_70 : decode cX0_doStep 70 = .ok (.invokevirtual 120, 3) := by decide +kernel
theorem dX0_doStep_73 : decode cX0_doStep 73 = .ok (.goto 97, 3) := by decide +kernel
theorem dX0_doStep_76 : decode cX0_doStep 76 = .ok (.aload_n 0, 1) := by decide +kernel
theorem dX0_doStep_77 : decode cX0_doStep 77 = .ok (.iload_n 2, 1) := by decide +kernel
theorem dX0_doStep_78 : decode cX0_doStep 78 = .ok (.invokevirtual 124, 3) := by decide +kernel
theorem dX0_doStep_81 : decode cX0_doStep 81 = .ok (.goto 89, 3) := by decide +kernel
theorem dX0_doStep_84 : decode cX0_doStep 84 = .ok (.iconst 0, 1) := by decide +kernel
theorem dX0_doStep_85 : decode cX0_doStep 85 = .ok (.istore 4, 2) := by decide +kernel
theorem dX0_doStep_87 : decode cX0_doStep 87 = .ok (.iload 4, 2) := by decide +kernel
theorem dX0_doStep_89 : decode cX0_doStep 89 = .ok (.iload_n 3, 1) := by decide +kernel
theorem dX0_doStep_90 : decode cX0_doStep 90 = .ok (.if_icmp .ge 13, 3) := by decide +kernel
theorem dX0_doStep_93 : decode cX0_doStep 93 = .ok (.aload_n 0, 1) := by decide +kernel
theorem dX0_doStep_94 : decode cX0_doStep 94 = .ok (.invokevirtual 127, 3) := by decide +kernel
theorem dX0_doStep_97 : decode cX0_doStep 97 = .ok (.iinc 4 1, 3) := by decide +kernel
theorem dX0_doStep_100 : decode cX0_doStep 100 = .ok (.goto (-13), 3) := by decide +kernel
theorem dX0_doStep_103 : decode cX0_doStep 103 = .ok (.goto 67, 3) := by decide +kernel
theorem dX0_doStep_106 : decode cX0_doStep 106 = .ok (.aload_n 0, 1) := by decide +kernel
theorem dX0_doStep_107 : decode cX0_doStep 107 = .ok (.iload_n 3, 1) := by decide +kernel
theorem dX0_doStep_108 : decode cX0_doStep 108 = .ok (.aload_n 0, 1) := by decide +kernel
theorem dX0_doStep_109 : decode cX0_doStep 109 = .ok (.getfield 52, 3) := by decide +kernel
theorem dX0_doStep_112 : decode cX0_doStep 112 = .ok (.getfield 130, 3) := by decide +kernel
theorem dX0_doStep_115 : decode cX0_doStep 115 = .ok (.invokestatic 133, 3) := by decide +kernel
theorem dX0_doStep_118 : decode cX0_doStep 118 = .ok (.invokevirtual 136, 3) := by decide +kernel
theorem dX0_doStep_121 : decode cX0_doStep 121 = .ok (.goto 49, 3) := by decide +kernel
theorem dX0_doStep_124 : decode cX0_doStep 124 = .ok (.aload_n 0, 1) := by decide +kernel
theorem dX0_doStep_125 : decode cX0_doStep 125 = .ok (.getfield 19, 3) := by decide +kernel
theorem dX0_doStep_128 : decode cX0_doStep 128 = .ok (.iload_n 1, 1) := by decide +kernel
theorem dX0_doStep_129 : decode cX0_doStep 129 = .ok (.iload_n 3, 1) := by decide +kernel
theorem dX0_doStep_130 : decode cX0_doStep 130 = .ok (.iastore, 1) := by decide +kernel
theorem dX0_doStep_131 : decode cX0_doStep 131 = .ok (.goto 39, 3) := by decide +kernel
theorem dX0_doStep_134 : decode cX0_doStep 134 = .ok (.aload_n 0, 1) := by decide +kernel
theorem dX0_doStep_135 : decode cX0_doStep 135 = .ok (.aload_n 0, 1) := by decide +kernel
theorem dX0_doStep_136 : decode cX0_doStep 136 = .ok (.getfield 57, 3) := by decide +kernel
theorem dX0_doStep_139 : decode cX0_doStep 139 = .ok (.getfield 99, 3) := by decide +kernel
theorem dX0_doStep_142 : decode cX0_doStep 142 = .ok (.iload_n 1, 1) := by decide +kernel
theorem dX0_doStep_143 : decode cX0_doStep 143 = .ok (.iaload, 1) := by decide +kernel
theorem dX0_doStep_144 : decode cX0_doStep 144 = .ok (.iload_n 2, 1) := by decide +kernel
theorem dX0_doStep_145 : decode cX0_doStep 145 = .ok (.iload_n 3, 1) := by decide +kernel
theorem dX0_doStep_146 : decode cX0_doStep 146 = .ok (.invokevirtual 139, 3) := by decide +kernel
theorem dX0_doStep_149 : decode cX0_doStep 149 = .ok (.ifCond .eq 9, 3) := by decide +kernel
theorem dX0_doStep_152 : decode cX0_doStep 152 = .ok (.iload_n 1, 1) := by decide +kernel
theorem dX0_doStep_153 : decode cX0_doStep 153 = .ok (.iconst 1, 1) := by decide +kernel
theorem dX0_doStep_154 : decode cX0_doStep 154 = .ok (.iadd, 1) := by decide +kernel
theorem dX0_doStep_155 : decode cX0_doStep 155 = .ok (.goto 14, 3) := by decide +kernel
theorem dX0_doStep_158 : decode cX0_doStep 158 = .ok (.aload_n 0, 1) := by decide +kernel
theorem dX0_doStep_159 : decode cX0_doStep 159 = .ok (.getfield 57, 3) := by decide +kernel
theorem dX0_doStep_162 : decode cX0_doStep 162 = .ok (.getfield 111, 3) := by decide +kernel
theorem dX0_doStep_165 : decode cX0_doStep 165 = .ok (.iload_n 1, 1) := by decide +kernel
theorem dX0_doStep_166 : decode cX0_doStep 166 = .ok (.iaload, 1) := by decide +kernel
theorem dX0_doStep_167 : decode cX0_doStep 167 = .ok (.iconst 1, 1) := by decide +kernel
theorem dX0_doStep_168 : decode cX0_doStep 168 = .ok (.iadd, 1) := by decide +kernel
theorem dX0_doStep_169 : decode cX0_doStep 169 = .ok (.ireturn, 1) := by decide +kernel
theorem dX0_doStep_170 : decode cX0_doStep 170 = .ok (.iload_n 1, 1) := by decide +kernel
theorem dX0_doStep_171 : decode cX0_doStep 171 = .ok (.iconst 1, 1) := by decide +kernel
theorem dX0_doStep_172 : decode cX0_doStep 172 = .ok (.iadd, 1) := by decide +kernel
theorem dX0_doStep_173 : decode cX0_doStep 173 = .ok (.ireturn, 1) := by decide +kernel
theorem dX0_cellOf_0 : decode cX0_cellOf 0 = .ok (.iload_n 1, 1) := by decide +kernel
theorem dX0_cellOf_1 : decode cX0_cellOf 1 = .ok (.ifCond .lt 26, 3) := by decide +kernel
theorem dX0_cellOf_4 : decode cX0_cellOf 4 = .ok (.iload_n 1, 1) := by decide +kernel
theorem dX0_cellOf_5 : decode cX0_cellOf 5 = .ok (.aload_n 0, 1) := by decide +kernel
theorem dX0_cellOf_6 : decode cX0_cellOf 6 = .ok (.getfield 52, 3) := by decide +kernel
theorem dX0_cellOf_9 : decode cX0_cellOf 9 = .ok (.getfield 143, 3) := by decide +kernel
theorem dX0_cellOf_12 : decode cX0_cellOf 12 = .ok (.if_icmp .ge 15, 3) := by decide +kernel
theorem dX0_cellOf_15 : decode cX0_cellOf 15 = .ok (.aload_n 0, 1) := by decide +kernel
theorem dX0_cellOf_16 : decode cX0_cellOf 16 = .ok (.getfield 52, 3) := by decide +kernel
theorem dX0_cellOf_19 : decode cX0_cellOf 19 = .ok (.getfield 145, 3) := by decide +kernel
theorem dX0_cellOf_22 : decode cX0_cellOf 22 = .ok (.iload_n 1, 1) := by decide +kernel
theorem dX0_cellOf_23 : decode cX0_cellOf 23 = .ok (.iaload, 1) := by decide +kernel
theorem dX0_cellOf_24 : decode cX0_cellOf 24 = .ok (.goto 4, 3) := by decide +kernel
theorem dX0_cellOf_27 : decode cX0_cellOf 27 = .ok (.iconst (-1), 1) := by decide +kernel
theorem dX0_cellOf_28 : decode cX0_cellOf 28 = .ok (.ireturn, 1) := by decide +kernel
theorem dX0_takeSounding_0 : decode cX0_takeSounding 0 = .ok (.aload_n 0, 1) := by decide +kernel
theorem dX0_takeSounding_1 : decode cX0_takeSounding 1 = .ok (.iload_n 1, 1) := by decide +kernel
theorem dX0_takeSounding_2 : decode cX0_takeSounding 2 = .ok (.invokevirtual 148, 3) := by decide +kernel
theorem dX0_takeSounding_5 : decode cX0_takeSounding 5 = .ok (.istore_n 2, 1) := by decide +kernel
theorem dX0_takeSounding_6 : decode cX0_takeSounding 6 = .ok (.iload_n 2, 1) := by decide +kernel
theorem dX0_takeSounding_7 : decode cX0_takeSounding 7 = .ok (.iconst (-1), 1) := by decide +kernel
theorem dX0_takeSounding_8 : decode cX0_takeSounding 8 = .ok (.if_icmp .ne 4, 3) := by decide +kernel
theorem dX0_takeSounding_11 : decode cX0_takeSounding 11 = .ok (.return_, 1) := by decide +kernel
theorem dX0_takeSounding_12 : decode cX0_takeSounding 12 = .ok (.aload_n 0, 1) := by decide +kernel
theorem dX0_takeSounding_13 : decode cX0_takeSounding 13 = .ok (.getfield 11, 3) := by decide +kernel
theorem dX0_takeSounding_16 : decode cX0_takeSounding 16 = .ok (.iconst 0, 1) := by decide +kernel
theorem dX0_takeSounding_17 : decode cX0_takeSounding 17 = .ok (.dup2, 1) := by decide +kernel
theorem dX0_takeSounding_18 : decode cX0_takeSounding 18 = .ok (.iaload, 1) := by decide +kernel
theorem dX0_takeSounding_19 : decode cX0_takeSounding 19 = .ok (.bipush 30, 2) := by decide +kernel
theorem dX0_takeSounding_21 : decode cX0_takeSounding 21 = .ok (.iadd, 1) := by decide +kernel
theorem dX0_takeSounding_22 : decode cX0_takeSounding 22 = .ok (.iastore, 1) := by decide +kernel
theorem dX0_takeSounding_23 : decode cX0_takeSounding 23 = .ok (.aload_n 0, 1) := by decide +kernel
theorem dX0_takeSounding_24 : decode cX0_takeSounding 24 = .ok (.getfield 11, 3) := by decide +kernel
theorem dX0_takeSounding_27 : decode cX0_takeSounding 27 = .ok (.iconst 2, 1) := by decide +kernel
theorem dX0_takeSounding_28 : decode cX0_takeSounding 28 = .ok (.dup2, 1) := by decide +kernel
theorem dX0_takeSounding_29 : decode cX0_takeSounding 29 = .ok (.iaload, 1) := by decide +kernel
theorem dX0_takeSounding_30 : decode cX0_takeSounding 30 = .ok (.iconst 1, 1) := by decide +kernel
theorem dX0_takeSounding_31 : decode cX0_takeSounding 31 = .ok (.iadd, 1) := by decide +kernel
theorem dX0_takeSounding_32 : decode cX0_takeSounding 32 = .ok (.iastore, 1) := by decide +kernel
theorem dX0_takeSounding_33 : decode cX0_takeSounding 33 = .ok (.aload_n 0, 1) := by decide +kernel
theorem dX0_takeSounding_34 : decode cX0_takeSounding 34 = .ok (.getfield 52, 3) := by decide +kernel
theorem dX0_takeSounding_37 : decode cX0_takeSounding 37 = .ok (.aload_n 0, 1) := by decide +kernel
theorem dX0_takeSounding_38 : decode cX0_takeSounding 38 = .ok (.getfield 52, 3) := by decide +kernel
theorem dX0_takeSounding_41 : decode cX0_takeSounding 41 = .ok (.aload_n 0, 1) := by decide +kernel
theorem dX0_takeSounding_42 : decode cX0_takeSounding 42 = .ok (.getfield 29, 3) := by decide +kernel
theorem dX0_takeSounding_45 : decode cX0_takeSounding 45 = .ok (.invokevirtual 151, 3) := by decide +kernel
theorem dX0_takeSounding_48 : decode cX0_takeSounding 48 = .ok (.iload_n 2, 1) := by decide +kernel
theorem dX0_takeSounding_49 : decode cX0_takeSounding 49 = .ok (.aload_n 0, 1) := by decide +kernel
theorem dX0_takeSounding_50 : decode cX0_takeSounding 50 = .ok (.getfield 11, 3) := by decide +kernel
theorem dX0_takeSounding_53 : decode cX0_takeSounding 53 = .ok (.iconst 4, 1) := by decide +kernel
theorem dX0_takeSounding_54 : decode cX0_takeSounding 54 = .ok (.iaload, 1) := by decide +kernel
theorem dX0_takeSounding_55 : decode cX0_takeSounding 55 = .ok (.invokevirtual 154, 3) := by decide +kernel
theorem dX0_takeSounding_58 : decode cX0_takeSounding 58 = .ok (.istore_n 3, 1) := by decide +kernel
theorem dX0_takeSounding_59 : decode cX0_takeSounding 59 = .ok (.aload_n 0, 1) := by decide +kernel
theorem dX0_takeSounding_60 : decode cX0_takeSounding 60 = .ok (.bipush 32, 2) := by decide +kernel
theorem dX0_takeSounding_62 : decode cX0_takeSounding 62 = .ok (.invokevirtual 82, 3) := by decide +kernel
theorem dX0_takeSounding_65 : decode cX0_takeSounding 65 = .ok (.istore 4, 2) := by decide +kernel
theorem dX0_takeSounding_67 : decode cX0_takeSounding 67 = .ok (.iload 4, 2) := by decide +kernel
theorem dX0_takeSounding_69 : decode cX0_takeSounding 69 = .ok (.iconst 2, 1) := by decide +kernel
theorem dX0_takeSounding_70 : decode cX0_takeSounding 70 = .ok (.aload_n 0, 1) := by decide +kernel
theorem dX0_takeSounding_71 : decode cX0_takeSounding 71 = .ok (.getfield 52, 3) := by decide +kernel
theorem dX0_takeSounding_74 : decode cX0_takeSounding 74 = .ok (.getfield 158, 3) := by decide +kernel
theorem dX0_takeSounding_77 : decode cX0_takeSounding 77 = .ok (.imul, 1) := by decide +kernel
theorem dX0_takeSounding_78 : decode cX0_takeSounding 78 = .ok (.if_icmp .lt 26, 3) := by decide +kernel
theorem dX0_takeSounding_81 : decode cX0_takeSounding 81 = .ok (.iload_n 3, 1) := by decide +kernel
theorem dX0_takeSounding_82 : decode cX0_takeSounding 82 = .ok (.iload 4, 2) := by decide +kernel
theorem dX0_takeSounding_84 : decode cX0_takeSounding 84 = .ok (.bipush 16, 2) := by decide +kernel
theorem dX0_takeSounding_86 : decode cX0_takeSounding 86 = .ok (.aload_n 0, 1) := by decide +kernel
theorem dX0_takeSounding_87 : decode cX0_takeSounding 87 = .ok (.getfield 52, 3) := by decide +kernel
theorem dX0_takeSounding_90 : decode cX0_takeSounding 90 = .ok (.getfield 158, 3) := by decide +kernel
theorem dX0_takeSounding_93 : decode cX0_takeSounding 93 = .ok (.iadd, 1) := by decide +kernel
theorem dX0_takeSounding_94 : decode cX0_takeSounding 94 = .ok (.if_icmp .ge 7, 3) := by decide +kernel
theorem dX0_takeSounding_97 : decode cX0_takeSounding 97 = .ok (.iconst 1, 1) := by decide +kernel
theorem dX0_takeSounding_98 : decode cX0_takeSounding 98 = .ok (.goto 4, 3) := by decide +kernel
theorem dX0_takeSounding_101 : decode cX0_takeSounding 101 = .ok (.iconst (-1), 1) := by decide +kernel
theorem dX0_takeSounding_102 : decode cX0_takeSounding 102 = .ok (.iadd, 1) := by decide +kernel
theorem dX0_takeSounding_103 : decode cX0_takeSounding 103 = .ok (.istore_n 3, 1) := by decide +kernel
theorem dX0_takeSounding_104 : decode cX0_takeSounding 104 = .ok (.aload_n 0, 1) := by decide +kernel
theorem dX0_takeSounding_105 : decode cX0_takeSounding 105 = .ok (.getfield 38, 3) := by decide +kernel
theorem dX0_takeSounding_108 : decode cX0_takeSounding 108 = .ok (.aload_n 0, 1) := by decide +kernel
theorem dX0_takeSounding_109 : decode cX0_takeSounding 109 = .ok (.getfield 52, 3) := by decide +kernel
theorem dX0_takeSounding_112 : decode cX0_takeSounding 112 = .ok (.aload_n 0, 1) := by decide +kernel
theorem dX0_takeSounding_113 : decode cX0_takeSounding 113 = .ok (.getfield 15, 3) := by decide +kernel
theorem dX0_takeSounding_116 : decode cX0_takeSounding 116 = .ok (.aload_n 0, 1) := by decide +kernel
theorem dX0_takeSounding_117 : decode cX0_takeSounding 117 = .ok (.getfield 29, 3) := by decide +kernel
theorem dX0_takeSounding_120 : decode cX0_takeSounding 120 = .ok (.iload_n 2, 1) := by decide +kernel
theorem dX0_takeSounding_121 : decode cX0_takeSounding 121 = .ok (.iload_n 3, 1) := by decide +kernel
theorem dX0_takeSounding_122 : decode cX0_takeSounding 122 = .ok (.invokevirtual 161, 3) := by decide +kernel
theorem dX0_takeSounding_125 : decode cX0_takeSounding 125 = .ok (.pop, 1) := by decide +kernel
theorem dX0_takeSounding_126 : decode cX0_takeSounding 126 = .ok (.return_, 1) := by decide +kernel
theorem dX0_takeColour_0 : decode cX0_takeColour 0 = .ok (.aload_n 0, 1) := by decide +kernel
theorem dX0_takeColour_1 : decode cX0_takeColour 1 = .ok (.iload_n 1, 1) := by decide +kernel
theorem dX0_takeColour_2 : decode cX0_takeColour 2 = .ok (.invokevirtual 148, 3) := by decide +kernel
theorem dX0_takeColour_5 : decode cX0_takeColour 5 = .ok (.istore_n 2, 1) := by decide +kernel
theorem dX0_takeColour_6 : decode cX0_takeColour 6 = .ok (.iload_n 2, 1) := by decide +kernel
theorem dX0_takeColour_7 : decode cX0_takeColour 7 = .ok (.iconst (-1), 1) := by decide +kernel
theorem dX0_takeColour_8 : decode cX0_takeColour 8 = .ok (.if_icmp .ne 4, 3) := by decide +kernel
theorem dX0_takeColour_11 : decode cX0_takeColour 11 = .ok (.return_, 1) := by decide +kernel
theorem dX0_takeColour_12 : decode cX0_takeColour 12 = .ok (.aload_n 0, 1) := by decide +kernel
theorem dX0_takeColour_13 : decode cX0_takeColour 13 = .ok (.getfield 11, 3) := by decide +kernel
theorem dX0_takeColour_16 : decode cX0_takeColour 16 = .ok (.iconst 0, 1) := by decide +kernel
theorem dX0_takeColour_17 : decode cX0_takeColour 17 = .ok (.dup2, 1) := by decide +kernel
theorem dX0_takeColour_18 : decode cX0_takeColour 18 = .ok (.iaload, 1) := by decide +kernel
theorem dX0_takeColour_19 : decode cX0_takeColour 19 = .ok (.iconst 5, 1) := by decide +kernel
theorem dX0_takeColour_20 : decode cX0_takeColour 20 = .ok (.iadd, 1) := by decide +kernel
theorem dX0_takeColour_21 : decode cX0_takeColour 21 = .ok (.iastore, 1) := by decide +kernel
theorem dX0_takeColour_22 : decode cX0_takeColour 22 = .ok (.aload_n 0, 1) := by decide +kernel
theorem dX0_takeColour_23 : decode cX0_takeColour 23 = .ok (.getfield 11, 3) := by decide +kernel
theorem dX0_takeColour_26 : decode cX0_takeColour 26 = .ok (.iconst 4, 1) := by decide +kernel
theorem dX0_takeColour_27 : decode cX0_takeColour 27 = .ok (.iaload, 1) := by decide +kernel
theorem dX0_takeColour_28 : decode cX0_takeColour 28 = .ok (.iload_n 1, 1) := by decide +kernel
theorem dX0_takeColour_29 : decode cX0_takeColour 29 = .ok (.ishr, 1) := by decide +kernel
theorem dX0_takeColour_30 : decode cX0_takeColour 30 = .ok (.iconst 1, 1) := by decide +kernel
theorem dX0_takeColour_31 : decode cX0_takeColour 31 = .ok (.iand, 1) := by decide +kernel
theorem dX0_takeColour_32 : decode cX0_takeColour 32 = .ok (.iconst 1, 1) := by decide +kernel
theorem dX0_takeColour_33 : decode cX0_takeColour 33 = .ok (.if_icmp .ne 7, 3) := by decide +kernel
theorem dX0_takeColour_36 : decode cX0_takeColour 36 = .ok (.iconst 1, 1) := by decide +kernel
theorem dX0_takeColour_37 : decode cX0_takeColour 37 = .ok (.goto 4, 3) := by decide +kernel
theorem dX0_takeColour_40 : decode cX0_takeColour 40 = .ok (.iconst 0, 1) := by decide +kernel
theorem dX0_takeColour_41 : decode cX0_takeColour 41 = .ok (.istore_n 3, 1) := by decide +kernel
theorem dX0_takeColour_42 : decode cX0_takeColour 42 = .ok (.aload_n 0, 1) := by decide +kernel
theorem dX0_takeColour_43 : decode cX0_takeColour 43 = .ok (.bipush 16, 2) := by decide +kernel
theorem dX0_takeColour_45 : decode cX0_takeColour 45 = .ok (.invokevirtual 82, 3) := by decide +kernel
theorem dX0_takeColour_48 : decode cX0_takeColour 48 = .ok (.aload_n 0, 1) := by decide +kernel
theorem dX0_takeColour_49 : decode cX0_takeColour 49 = .ok (.getfield 52, 3) := by decide +kernel
theorem dX0_takeColour_52 : decode cX0_takeColour 52 = .ok (.getfield 167, 3) := by decide +kernel
theorem dX0_takeColour_55 : decode cX0_takeColour 55 = .ok (.if_icmp .ge 7, 3) := by decide +kernel
theorem dX0_takeColour_58 : decode cX0_takeColour 58 = .ok (.iconst 1, 1) := by decide +kernel
theorem dX0_takeColour_59 : decode cX0_takeColour 59 = .ok (.goto 4, 3) := by decide +kernel
theorem dX0_takeColour_62 : decode cX0_takeColour 62 = .ok (.iconst 0, 1) := by decide +kernel
theorem dX0_takeColour_63 : decode cX0_takeColour 63 = .ok (.istore 4, 2) := by decide +kernel
theorem dX0_takeColour_65 : decode cX0_takeColour 65 = .ok (.aload_n 0, 1) := by decide +kernel
theorem dX0_takeColour_66 : decode cX0_takeColour 66 = .ok (.getfield 38, 3) := by decide +kernel
theorem dX0_takeColour_69 : decode cX0_takeColour 69 = .ok (.aload_n 0, 1) := by decide +kernel
theorem dX0_takeColour_70 : decode cX0_takeColour 70 = .ok (.getfield 52, 3) := by decide +kernel
theorem dX0_takeColour_73 : decode cX0_takeColour 73 = .ok (.aload_n 0, 1) := by decide +kernel
theorem dX0_takeColour_74 : decode cX0_takeColour 74 = .ok (.getfield 15, 3) := by decide +kernel
theorem dX0_takeColour_77 : decode cX0_takeColour 77 = .ok (.iload_n 2, 1) := by decide +kernel
theorem dX0_takeColour_78 : decode cX0_takeColour 78 = .ok (.iload_n 3, 1) := by decide +kernel
theorem dX0_takeColour_79 : decode cX0_takeColour 79 = .ok (.iload 4, 2) := by decide +kernel
theorem dX0_takeColour_81 : decode cX0_takeColour 81 = .ok (.if_icmp .ne 7, 3) := by decide +kernel
theorem dX0_takeColour_84 : decode cX0_takeColour 84 = .ok (.iconst 1, 1) := by decide +kernel
theorem dX0_takeColour_85 : decode cX0_takeColour 85 = .ok (.goto 4, 3) := by decide +kernel
theorem dX0_takeColour_88 : decode cX0_takeColour 88 = .ok (.iconst 0, 1) := by decide +kernel
theorem dX0_takeColour_89 : decode cX0_takeColour 89 = .ok (.invokevirtual 170, 3) := by decide +kernel
theorem dX0_takeColour_92 : decode cX0_takeColour 92 = .ok (.pop, 1) := by decide +kernel
theorem dX0_takeColour_93 : decode cX0_takeColour 93 = .ok (.return_, 1) := by decide +kernel
theorem dX0_waitDay_0 : decode cX0_waitDay 0 = .ok (.aload_n 0, 1) := by decide +kernel
theorem dX0_waitDay_1 : decode cX0_waitDay 1 = .ok (.getfield 11, 3) := by decide +kernel
theorem dX0_waitDay_4 : decode cX0_waitDay 4 = .ok (.iconst 0, 1) := by decide +kernel
theorem dX0_waitDay_5 : decode cX0_waitDay 5 = .ok (.dup2, 1) := by decide +kernel
theorem dX0_waitDay_6 : decode cX0_waitDay 6 = .ok (.iaload, 1) := by decide +kernel
theorem dX0_waitDay_7 : decode cX0_waitDay 7 = .ok (.sipush 1440, 3) := by decide +kernel
theorem dX0_waitDay_10 : decode cX0_waitDay 10 = .ok (.iadd, 1) := by decide +kernel
theorem dX0_waitDay_11 : decode cX0_waitDay 11 = .ok (.iastore, 1) := by decide +kernel
theorem dX0_waitDay_12 : decode cX0_waitDay 12 = .ok (.aload_n 0, 1) := by decide +kernel
theorem dX0_waitDay_13 : decode cX0_waitDay 13 = .ok (.getfield 11, 3) := by decide +kernel
theorem dX0_waitDay_16 : decode cX0_waitDay 16 = .ok (.iconst 3, 1) := by decide +kernel
theorem dX0_waitDay_17 : decode cX0_waitDay 17 = .ok (.dup2, 1) := by decide +kernel
theorem dX0_waitDay_18 : decode cX0_waitDay 18 = .ok (.iaload, 1) := by decide +kernel
theorem dX0_waitDay_19 : decode cX0_waitDay 19 = .ok (.iconst 1, 1) := by decide +kernel
theorem dX0_waitDay_20 : decode cX0_waitDay 20 = .ok (.iadd, 1) := by decide +kernel
theorem dX0_waitDay_21 : decode cX0_waitDay 21 = .ok (.iastore, 1) := by decide +kernel
theorem dX0_waitDay_22 : decode cX0_waitDay 22 = .ok (.aload_n 0, 1) := by decide +kernel
theorem dX0_waitDay_23 : decode cX0_waitDay 23 = .ok (.dup, 1) := by decide +kernel
theorem dX0_waitDay_24 : decode cX0_waitDay 24 = .ok (.getfield 29, 3) := by decide +kernel
theorem dX0_waitDay_27 : decode cX0_waitDay 27 = .ok (.iconst 1, 1) := by decide +kernel
theorem dX0_waitDay_28 : decode cX0_waitDay 28 = .ok (.iadd, 1) := by decide +kernel
theorem dX0_waitDay_29 : decode cX0_waitDay 29 = .ok (.putfield 29, 3) := by decide +kernel
theorem dX0_waitDay_32 : decode cX0_waitDay 32 = .ok (.iconst 0, 1) := by decide +kernel
theorem dX0_waitDay_33 : decode cX0_waitDay 33 = .ok (.istore_n 1, 1) := by decide +kernel
theorem dX0_waitDay_34 : decode cX0_waitDay 34 = .ok (.iload_n 1, 1) := by decide +kernel
theorem dX0_waitDay_35 : decode cX0_waitDay 35 = .ok (.aload_n 0, 1) := by decide +kernel
theorem dX0_waitDay_36 : decode cX0_waitDay 36 = .ok (.getfield 52, 3) := by decide +kernel
theorem dX0_waitDay_39 : decode cX0_waitDay 39 = .ok (.getfield 143, 3) := by decide +kernel
theorem dX0_waitDay_42 : decode cX0_waitDay 42 = .ok (.if_icmp .ge 75, 3) := by decide +kernel
theorem dX0_waitDay_45 : decode cX0_waitDay 45 = .ok (.aload_n 0, 1) := by decide +kernel
theorem dX0_waitDay_46 : decode cX0_waitDay 46 = .ok (.getfield 11, 3) := by decide +kernel
theorem dX0_waitDay_49 : decode cX0_waitDay 49 = .ok (.iconst 4, 1) := by decide +kernel
theorem dX0_waitDay_50 : decode cX0_waitDay 50 = .ok (.iaload, 1) := by decide +kernel
theorem dX0_waitDay_51 : decode cX0_waitDay 51 = .ok (.iload_n 1, 1) := by decide +kernel
theorem dX0_waitDay_52 : decode cX0_waitDay 52 = .ok (.ishr, 1) := by decide +kernel
theorem dX0_waitDay_53 : decode cX0_waitDay 53 = .ok (.iconst 1, 1) := by decide +kernel
theorem dX0_waitDay_54 : decode cX0_waitDay 54 = .ok (.iand, 1) := by decide +kernel
theorem dX0_waitDay_55 : decode cX0_waitDay 55 = .ok (.iconst 1, 1) := by decide +kernel
theorem dX0_waitDay_56 : decode cX0_waitDay 56 = .ok (.if_icmp .ne 7, 3) := by decide +kernel
theorem dX0_waitDay_59 : decode cX0_waitDay 59 = .ok (.iconst 1, 1) := by decide +kernel
theorem dX0_waitDay_60 : decode cX0_waitDay 60 = .ok (.goto 4, 3) := by decide +kernel
theorem dX0_waitDay_63 : decode cX0_waitDay 63 = .ok (.iconst 0, 1) := by decide +kernel
theorem dX0_waitDay_64 : decode cX0_waitDay 64 = .ok (.istore_n 2, 1) := by decide +kernel
theorem dX0_waitDay_65 : decode cX0_waitDay 65 = .ok (.aload_n 0, 1) := by decide +kernel
theorem dX0_waitDay_66 : decode cX0_waitDay 66 = .ok (.bipush 16, 2) := by decide +kernel
theorem dX0_waitDay_68 : decode cX0_waitDay 68 = .ok (.invokevirtual 82, 3) := by decide +kernel
theorem dX0_waitDay_71 : decode cX0_waitDay 71 = .ok (.iload_n 2, 1) := by decide +kernel
theorem dX0_waitDay_72 : decode cX0_waitDay 72 = .ok (.ifCond .eq 15, 3) := by decide +kernel
theorem dX0_waitDay_75 : decode cX0_waitDay 75 = .ok (.aload_n 0, 1) := by decide +kernel
theorem dX0_waitDay_76 : decode cX0_waitDay 76 = .ok (.getfield 52, 3) := by decide +kernel
theorem dX0_waitDay_79 : decode cX0_waitDay 79 = .ok (.getfield 174, 3) := by decide +kernel
theorem dX0_waitDay_82 : decode cX0_waitDay 82 = .ok (.iload_n 1, 1) := by decide +kernel
theorem dX0_waitDay_83 : decode cX0_waitDay 83 = .ok (.iaload, 1) := by decide +kernel
theorem dX0_waitDay_84 : decode cX0_waitDay 84 = .ok (.goto 12, 3) := by decide +kernel
theorem dX0_waitDay_87 : decode cX0_waitDay 87 = .ok (.aload_n 0, 1) := by decide +kernel
theorem dX0_waitDay_88 : decode cX0_waitDay 88 = .ok (.getfield 52, 3) := by decide +kernel
theorem dX0_waitDay_91 : decode cX0_waitDay 91 = .ok (.getfield 177, 3) := by decide +kernel
theorem dX0_waitDay_94 : decode cX0_waitDay 94 = .ok (.iload_n 1, 1) := by decide +kernel
theorem dX0_waitDay_95 : decode cX0_waitDay 95 = .ok (.iaload, 1) := by decide +kernel
theorem dX0_waitDay_96 : decode cX0_waitDay 96 = .ok (.if_icmp .ge 15, 3) := by decide +kernel
theorem dX0_waitDay_99 : decode cX0_waitDay 99 = .ok (.aload_n 0, 1) := by decide +kernel
theorem dX0_waitDay_100 : decode cX0_waitDay 100 = .ok (.getfield 11, 3) := by decide +kernel
theorem dX0_waitDay_103 : decode cX0_waitDay 103 = .ok (.iconst 4, 1) := by decide +kernel
theorem dX0_waitDay_104 : decode cX0_waitDay 104 = .ok (.dup2, 1) := by decide +kernel
theorem dX0_waitDay_105 : decode cX0_waitDay 105 = .ok (.iaload, 1) := by decide +kernel
theorem dX0_waitDay_106 : decode cX0_waitDay 106 = .ok (.iconst 1, 1) := by decide +kernel
theorem dX0_waitDay_107 : decode cX0_waitDay 107 = .ok (.iload_n 1, 1) := by decide +kernel
theorem dX0_waitDay_108 : decode cX0_waitDay 108 = .ok (.ishl, 1) := by decide +kernel
theorem dX0_waitDay_109 : decode cX0_waitDay 109 = .ok (.ixor, 1) := by decide +kernel
theorem dX0_waitDay_110 : decode cX0_waitDay 110 = .ok (.iastore, 1) := by decide +kernel
theorem dX0_waitDay_111 : decode cX0_waitDay 111 = .ok (.iinc 1 1, 3) := by decide +kernel
theorem dX0_waitDay_114 : decode cX0_waitDay 114 = .ok (.goto (-80), 3) := by decide +kernel
theorem dX0_waitDay_117 : decode cX0_waitDay 117 = .ok (.aload_n 0, 1) := by decide +kernel
theorem dX0_waitDay_118 : decode cX0_waitDay 118 = .ok (.getfield 38, 3) := by decide +kernel
theorem dX0_waitDay_121 : decode cX0_waitDay 121 = .ok (.aload_n 0, 1) := by decide +kernel
theorem dX0_waitDay_122 : decode cX0_waitDay 122 = .ok (.getfield 52, 3) := by decide +kernel
theorem dX0_waitDay_125 : decode cX0_waitDay 125 = .ok (.aload_n 0, 1) := by decide +kernel
theorem dX0_waitDay_126 : decode cX0_waitDay 126 = .ok (.getfield 15, 3) := by decide +kernel
theorem dX0_waitDay_129 : decode cX0_waitDay 129 = .ok (.iconst (-1), 1) := by decide +kernel
theorem dX0_waitDay_130 : decode cX0_waitDay 130 = .ok (.iconst 0, 1) := by decide +kernel
theorem dX0_waitDay_131 : decode cX0_waitDay 131 = .ok (.invokevirtual 180, 3) := by decide +kernel
theorem dX0_waitDay_134 : decode cX0_waitDay 134 = .ok (.return_, 1) := by decide +kernel
theorem dX0_putOff_0 : decode cX0_putOff 0 = .ok (.iload_n 1, 1) := by decide +kernel
theorem dX0_putOff_1 : decode cX0_putOff 1 = .ok (.aload_n 0, 1) := by decide +kernel
theorem dX0_putOff_2 : decode cX0_putOff 2 = .ok (.getfield 32, 3) := by decide +kernel
theorem dX0_putOff_5 : decode cX0_putOff 5 = .ok (.if_icmp .le 26, 3) := by decide +kernel
theorem dX0_putOff_8 : decode cX0_putOff 8 = .ok (.aload_n 0, 1) := by decide +kernel
theorem dX0_putOff_9 : decode cX0_putOff 9 = .ok (.getfield 11, 3) := by decide +kernel
theorem dX0_putOff_12 : decode cX0_putOff 12 = .ok (.iconst 0, 1) := by decide +kernel
theorem dX0_putOff_13 : decode cX0_putOff 13 = .ok (.dup2, 1) := by decide +kernel
theorem dX0_putOff_14 : decode cX0_putOff 14 = .ok (.iaload, 1) := by decide +kernel
theorem dX0_putOff_15 : decode cX0_putOff 15 = .ok (.bipush 20, 2) := by decide +kernel
theorem dX0_putOff_17 : decode cX0_putOff 17 = .ok (.iload_n 1, 1) := by decide +kernel
theorem dX0_putOff_18 : decode cX0_putOff 18 = .ok (.aload_n 0, 1) := by decide +kernel
theorem dX0_putOff_19 : decode cX0_putOff 19 = .ok (.getfield 32, 3) := by decide +kernel
theorem dX0_putOff_22 : decode cX0_putOff 22 = .ok (.isub, 1) := by decide +kernel
theorem dX0_putOff_23 : decode cX0_putOff 23 = .ok (.imul, 1) := by decide +kernel
theorem dX0_putOff_24 : decode cX0_putOff 24 = .ok (.iadd, 1) := by decide +kernel
theorem dX0_putOff_25 : decode cX0_putOff 25 = .ok (.iastore, 1) := by decide +kernel
theorem dX0_putOff_26 : decode cX0_putOff 26 = .ok (.aload_n 0, 1) := by decide +kernel
theorem dX0_putOff_27 : decode cX0_putOff 27 = .ok (.iload_n 1, 1) := by decide +kernel
theorem dX0_putOff_28 : decode cX0_putOff 28 = .ok (.putfield 32, 3) := by decide +kernel
theorem dX0_putOff_31 : decode cX0_putOff 31 = .ok (.return_, 1) := by decide +kernel
theorem dX0_isSo_0 : decode cX0_isSo 0 = .ok (.iload_n 1, 1) := by decide +kernel
theorem dX0_isSo_1 : decode cX0_isSo 1 = .ok (.bipush 11, 2) := by decide +kernel
theorem dX0_isSo_3 : decode cX0_isSo 3 = .ok (.if_icmp .ne 71, 3) := by decide +kernel
theorem dX0_isSo_6 : decode cX0_isSo 6 = .ok (.aload_n 0, 1) := by decide +kernel
theorem dX0_isSo_7 : decode cX0_isSo 7 = .ok (.getfield 42, 3) := by decide +kernel
theorem dX0_isSo_10 : decode cX0_isSo 10 = .ok (.aload_n 0, 1) := by decide +kernel
theorem dX0_isSo_11 : decode cX0_isSo 11 = .ok (.getfield 52, 3) := by decide +kernel
theorem dX0_isSo_14 : decode cX0_isSo 14 = .ok (.aload_n 0, 1) := by decide +kernel
theorem dX0_isSo_15 : decode cX0_isSo 15 = .ok (.getfield 29, 3) := by decide +kernel
theorem dX0_isSo_18 : decode cX0_isSo 18 = .ok (.aload_n 0, 1) := by decide +kernel
theorem dX0_isSo_19 : decode cX0_isSo 19 = .ok (.getfield 32, 3) := by decide +kernel
theorem dX0_isSo_22 : decode cX0_isSo 22 = .ok (.invokevirtual 184, 3) := by decide +kernel
theorem dX0_isSo_25 : decode cX0_isSo 25 = .ok (.aload_n 0, 1) := by decide +kernel
theorem dX0_isSo_26 : decode cX0_isSo 26 = .ok (.getfield 42, 3) := by decide +kernel
theorem dX0_isSo_29 : decode cX0_isSo 29 = .ok (.aload_n 0, 1) := by decide +kernel
theorem dX0_isSo_30 : decode cX0_isSo 30 = .ok (.getfield 22, 3) := by decide +kernel
theorem dX0_isSo_33 : decode cX0_isSo 33 = .ok (.aload_n 0, 1) := by decide +kernel
theorem dX0_isSo_34 : decode cX0_isSo 34 = .ok (.getfield 26, 3) := by decide +kernel
theorem dX0_isSo_37 : decode cX0_isSo 37 = .ok (.invokevirtual 190, 3) := by decide +kernel
theorem dX0_isSo_40 : decode cX0_isSo 40 = .ok (.ifCond .eq 32, 3) := by decide +kernel
theorem dX0_isSo_43 : decode cX0_isSo 43 = .ok (.aload_n 0, 1) := by decide +kernel
theorem dX0_isSo_44 : decode cX0_isSo 44 = .ok (.getfield 42, 3) := by decide +kernel
theorem dX0_isSo_47 : decode cX0_isSo 47 = .ok (.aload_n 0, 1) := by decide +kernel
theorem dX0_isSo_48 : decode cX0_isSo 48 = .ok (.getfield 15, 3) := by decide +kernel
theorem dX0_isSo_51 : decode cX0_isSo 51 = .ok (.invokevirtual 194, 3) := by decide +kernel
theorem dX0_isSo_54 : decode cX0_isSo 54 = .ok (.ldc2_w 198, 3) := by decide +kernel
theorem dX0_isSo_57 : decode cX0_isSo 57 = .ok (.lmul, 1) := by decide +kernel
theorem dX0_isSo_58 : decode cX0_isSo 58 = .ok (.iload_n 3, 1) := by decide +kernel
theorem dX0_isSo_59 : decode cX0_isSo 59 = .ok (.i2l, 1) := by decide +kernel
theorem dX0_isSo_60 : decode cX0_isSo 60 = .ok (.ldc2_w 200, 3) := by decide +kernel
theorem dX0_isSo_63 : decode cX0_isSo 63 = .ok (.lmul, 1) := by decide +kernel
theorem dX0_isSo_64 : decode cX0_isSo 64 = .ok (.lcmp, 1) := by decide +kernel
theorem dX0_isSo_65 : decode cX0_isSo 65 = .ok (.ifCond .lt 7, 3) := by decide +kernel
theorem dX0_isSo_68 : decode cX0_isSo 68 = .ok (.iconst 1, 1) := by decide +kernel
theorem dX0_isSo_69 : decode cX0_isSo 69 = .ok (.goto 4, 3) := by decide +kernel
theorem dX0_isSo_72 : decode cX0_isSo 72 = .ok (.iconst 0, 1) := by decide +kernel
theorem dX0_isSo_73 : decode cX0_isSo 73 = .ok (.ireturn, 1) := by decide +kernel
theorem dX0_isSo_74 : decode cX0_isSo 74 = .ok (.iload_n 2, 1) := by decide +kernel
theorem dX0_isSo_75 : decode cX0_isSo 75 = .ok (.ifCond .lt 14, 3) := by decide +kernel
theorem dX0_isSo_78 : decode cX0_isSo 78 = .ok (.iload_n 2, 1) := by decide +kernel
theorem dX0_isSo_79 : decode cX0_isSo 79 = .ok (.aload_n 0, 1) := by decide +kernel
theorem dX0_isSo_80 : decode cX0_isSo 80 = .ok (.getfield 52, 3) := by decide +kernel
theorem dX0_isSo_83 : decode cX0_isSo 83 = .ok (.getfield 143, 3) := by decide +kernel
theorem dX0_isSo_86 : decode cX0_isSo 86 = .ok (.if_icmp .lt 5, 3) := by decide +kernel
theorem dX0_isSo_89 : decode cX0_isSo 89 = .ok (.iconst 0, 1) := by decide +kernel
theorem dX0_isSo_90 : decode cX0_isSo 90 = .ok (.ireturn, 1) := by decide +kernel
theorem dX0_isSo_91 : decode cX0_isSo 91 = .ok (.aload_n 0, 1) := by decide +kernel
theorem dX0_isSo_92 : decode cX0_isSo 92 = .ok (.getfield 38, 3) := by decide +kernel
theorem dX0_isSo_95 : decode cX0_isSo 95 = .ok (.aload_n 0, 1) := by decide +kernel
theorem dX0_isSo_96 : decode cX0_isSo 96 = .ok (.getfield 15, 3) := by decide +kernel
theorem dX0_isSo_99 : decode cX0_isSo 99 = .ok (.iload_n 2, 1) := by decide +kernel
theorem dX0_isSo_100 : decode cX0_isSo 100 = .ok (.invokevirtual 202, 3) := by decide +kernel
theorem dX0_isSo_103 : decode cX0_isSo 103 = .ok (.ldc2_w 198, 3) := by decide +kernel
theorem dX0_isSo_106 : decode cX0_isSo 106 = .ok (.lmul, 1) := by decide +kernel
theorem dX0_isSo_107 : decode cX0_isSo 107 = .ok (.lstore 4, 2) := by decide +kernel
theorem dX0_isSo_109 : decode cX0_isSo 109 = .ok (.iload_n 1, 1) := by decide +kernel
theorem dX0_isSo_110 : decode cX0_isSo 110 = .ok (.bipush 9, 2) := by decide +kernel
theorem dX0_isSo_112 : decode cX0_isSo 112 = .ok (.if_icmp .ne 23, 3) := by decide +kernel
theorem dX0_isSo_115 : decode cX0_isSo 115 = .ok (.lload 4, 2) := by decide +kernel
theorem dX0_isSo_117 : decode cX0_isSo 117 = .ok (.iload_n 3, 1) := by decide +kernel
theorem dX0_isSo_118 : decode cX0_isSo 118 = .ok (.i2l, 1) := by decide +kernel
theorem dX0_isSo_119 : decode cX0_isSo 119 = .ok (.ldc2_w 200, 3) := by decide +kernel
theorem dX0_isSo_122 : decode cX0_isSo 122 = .ok (.lmul, 1) := by decide +kernel
theorem dX0_isSo_123 : decode cX0_isSo 123 = .ok (.lcmp, 1) := by decide +kernel
theorem dX0_isSo_124 : decode cX0_isSo 124 = .ok (.ifCond .lt 7, 3) := by decide +kernel
theorem dX0_isSo_127 : decode cX0_isSo 127 = .ok (.iconst 1, 1) := by decide +kernel
theorem dX0_isSo_128 : decode cX0_isSo 128 = .ok (.goto 24, 3) := by decide +kernel
theorem dX0_isSo_131 : decode cX0_isSo 131 = .ok (.iconst 0, 1) := by decide +kernel
theorem dX0_isSo_132 : decode cX0_isSo 132 = .ok (.goto 20, 3) := by decide +kernel
theorem dX0_isSo_135 : decode cX0_isSo 135 = .ok (.lload 4, 2) := by decide +kernel
theorem dX0_isSo_137 : decode cX0_isSo 137 = .ok (.iload_n 3, 1) := by decide +kernel
theorem dX0_isSo_138 : decode cX0_isSo 138 = .ok (.i2l, 1) := by decide +kernel
theorem dX0_isSo_139 : decode cX0_isSo 139 = .ok (.ldc2_w 200, 3) := by decide +kernel
theorem dX0_isSo_142 : decode cX0_isSo 142 = .ok (.lmul, 1) := by decide +kernel
theorem dX0_isSo_143 : decode cX0_isSo 143 = .ok (.lcmp, 1) := by decide +kernel
theorem dX0_isSo_144 : decode cX0_isSo 144 = .ok (.ifCond .gt 7, 3) := by decide +kernel
theorem dX0_isSo_147 : decode cX0_isSo 147 = .ok (.iconst 1, 1) := by decide +kernel
theorem dX0_isSo_148 : decode cX0_isSo 148 = .ok (.goto 4, 3) := by decide +kernel
theorem dX0_isSo_151 : decode cX0_isSo 151 = .ok (.iconst 0, 1) := by decide +kernel
theorem dX0_isSo_152 : decode cX0_isSo 152 = .ok (.ireturn, 1) := by decide +kernel
theorem dX0_goThrough_0 : decode cX0_goThrough 0 = .ok (.aload_n 0, 1) := by decide +kernel
theorem dX0_goThrough_1 : decode cX0_goThrough 1 = .ok (.getfield 42, 3) := by decide +kernel
theorem dX0_goThrough_4 : decode cX0_goThrough 4 = .ok (.aload_n 0, 1) := by decide +kernel
theorem dX0_goThrough_5 : decode cX0_goThrough 5 = .ok (.getfield 52, 3) := by decide +kernel
theorem dX0_goThrough_8 : decode cX0_goThrough 8 = .ok (.aload_n 0, 1) := by decide +kernel
theorem dX0_goThrough_9 : decode cX0_goThrough 9 = .ok (.getfield 29, 3) := by decide +kernel
theorem dX0_goThrough_12 : decode cX0_goThrough 12 = .ok (.aload_n 0, 1) := by decide +kernel
theorem dX0_goThrough_13 : decode cX0_goThrough 13 = .ok (.getfield 32, 3) := by decide +kernel
theorem dX0_goThrough_16 : decode cX0_goThrough 16 = .ok (.invokevirtual 184, 3) := by decide +kernel
theorem dX0_goThrough_19 : decode cX0_goThrough 19 = .ok (.aload_n 0, 1) := by decide +kernel
theorem dX0_goThrough_20 : decode cX0_goThrough 20 = .ok (.getfield 42, 3) := by decide +kernel
theorem dX0_goThrough_23 : decode cX0_goThrough 23 = .ok (.aload_n 0, 1) := by decide +kernel
theorem dX0_goThrough_24 : decode cX0_goThrough 24 = .ok (.getfield 22, 3) := by decide +kernel
theorem dX0_goThrough_27 : decode cX0_goThrough 27 = .ok (.aload_n 0, 1) := by decide +kernel
theorem dX0_goThrough_28 : decode cX0_goThrough 28 = .ok (.getfield 26, 3) := by decide +kernel
theorem dX0_goThrough_31 : decode cX0_goThrough 31 = .ok (.invokevirtual 190, 3) := by decide +kernel
theorem dX0_goThrough_34 : decode cX0_goThrough 34 = .ok (.ifCond .ne 5, 3) := by decide +kernel
theorem dX0_goThrough_37 : decode cX0_goThrough 37 = .ok (.iconst 2, 1) := by decide +kernel
theorem dX0_goThrough_38 : decode cX0_goThrough 38 = .ok (.ireturn, 1) := by decide +kernel
theorem dX0_goThrough_39 : decode cX0_goThrough 39 = .ok (.aload_n 0, 1) := by decide +kernel
theorem dX0_goThrough_40 : decode cX0_goThrough 40 = .ok (.getfield 42, 3) := by decide +kernel
theorem dX0_goThrough_43 : decode cX0_goThrough 43 = .ok (.aload_n 0, 1) := by decide +kernel
theorem dX0_goThrough_44 : decode cX0_goThrough 44 = .ok (.getfield 15, 3) := by decide +kernel
theorem dX0_goThrough_47 : decode cX0_goThrough 47 = .ok (.invokevirtual 206, 3) := by decide +kernel
theorem dX0_goThrough_50 : decode cX0_goThrough 50 = .ok (.aload_n 0, 1) := by decide +kernel
theorem dX0_goThrough_51 : decode cX0_goThrough 51 = .ok (.getfield 42, 3) := by decide +kernel
theorem dX0_goThrough_54 : decode cX0_goThrough 54 = .ok (.getfield 210, 3) := by decide +kernel
theorem dX0_goThrough_57 : decode cX0_goThrough 57 = .ok (.aload_n 0, 1) := by decide +kernel
theorem dX0_goThrough_58 : decode cX0_goThrough 58 = .ok (.getfield 11, 3) := by decide +kernel
theorem dX0_goThrough_61 : decode cX0_goThrough 61 = .ok (.iconst 4, 1) := by decide +kernel
theorem dX0_goThrough_62 : decode cX0_goThrough 62 = .ok (.iaload, 1) := by decide +kernel
theorem dX0_goThrough_63 : decode cX0_goThrough 63 = .ok (.iand, 1) := by decide +kernel
theorem dX0_goThrough_64 : decode cX0_goThrough 64 = .ok (.istore_n 1, 1) := by decide +kernel
theorem dX0_goThrough_65 : decode cX0_goThrough 65 = .ok (.aload_n 0, 1) := by decide +kernel
theorem dX0_goThrough_66 : decode cX0_goThrough 66 = .ok (.getfield 11, 3) := by decide +kernel
theorem dX0_goThrough_69 : decode cX0_goThrough 69 = .ok (.iconst 5, 1) := by decide +kernel
theorem dX0_goThrough_70 : decode cX0_goThrough 70 = .ok (.aload_n 0, 1) := by decide +kernel
theorem dX0_goThrough_71 : decode cX0_goThrough 71 = .ok (.getfield 42, 3) := by decide +kernel
theorem dX0_goThrough_74 : decode cX0_goThrough 74 = .ok (.getfield 210, 3) := by decide +kernel
theorem dX0_goThrough_77 : decode cX0_goThrough 77 = .ok (.iastore, 1) := by decide +kernel
theorem dX0_goThrough_78 : decode cX0_goThrough 78 = .ok (.aload_n 0, 1) := by decide +kernel
theorem dX0_goThrough_79 : decode cX0_goThrough 79 = .ok (.getfield 11, 3) := by decide +kernel
theorem dX0_goThrough_82 : decode cX0_goThrough 82 = .ok (.iconst 0, 1) := by decide +kernel
theorem dX0_goThrough_83 : decode cX0_goThrough 83 = .ok (.dup2, 1) := by decide +kernel
theorem dX0_goThrough_84 : decode cX0_goThrough 84 = .ok (.iaload, 1) := by decide +kernel
theorem dX0_goThrough_85 : decode cX0_goThrough 85 = .ok (.aload_n 0, 1) := by decide +kernel
theorem dX0_goThrough_86 : decode cX0_goThrough 86 = .ok (.getfield 42, 3) := by decide +kernel
theorem dX0_goThrough_89 : decode cX0_goThrough 89 = .ok (.getfield 213, 3) := by decide +kernel
theorem dX0_goThrough_92 : decode cX0_goThrough 92 = .ok (.aload_n 0, 1) := by decide +kernel
theorem dX0_goThrough_93 : decode cX0_goThrough 93 = .ok (.getfield 52, 3) := by decide +kernel
theorem dX0_goThrough_96 : decode cX0_goThrough 96 = .ok (.getfield 216, 3) := by decide +kernel
theorem dX0_goThrough_99 : decode cX0_goThrough 99 = .ok (.iload_n 1, 1) := by decide +kernel
theorem dX0_goThrough_100 : decode cX0_goThrough 100 = .ok (.invokestatic 219, 3) := by decide +kernel
theorem dX0_goThrough_103 : decode cX0_goThrough 103 = .ok (.imul, 1) := by decide +kernel
theorem dX0_goThrough_104 : decode cX0_goThrough 104 = .ok (.iadd, 1) := by decide +kernel
theorem dX0_goThrough_105 : decode cX0_goThrough 105 = .ok (.iadd, 1) := by decide +kernel
theorem dX0_goThrough_106 : decode cX0_goThrough 106 = .ok (.iastore, 1) := by decide +kernel
theorem dX0_goThrough_107 : decode cX0_goThrough 107 = .ok (.iload_n 1, 1) := by decide +kernel
theorem dX0_goThrough_108 : decode cX0_goThrough 108 = .ok (.ifCond .ne 7, 3) := by decide +kernel
theorem dX0_goThrough_111 : decode cX0_goThrough 111 = .ok (.iconst 0, 1) := by decide +kernel
theorem dX0_goThrough_112 : decode cX0_goThrough 112 = .ok (.goto 4, 3) := by decide +kernel
theorem dX0_goThrough_115 : decode cX0_goThrough 115 = .ok (.iconst 1, 1) := by decide +kernel
theorem dX0_goThrough_116 : decode cX0_goThrough 116 = .ok (.ireturn, 1) := by decide +kernel
theorem dX1_init_0 : decode cX1_init 0 = .ok (.aload_n 0, 1) := by decide +kernel
theorem dX1_init_1 : decode cX1_init 1 = .ok (.invokespecial 3, 3) := by decide +kernel
theorem dX1_init_4 : decode cX1_init 4 = .ok (.aload_n 0, 1) := by decide +kernel
theorem dX1_init_5 : decode cX1_init 5 = .ok (.bipush 32, 2) := by decide +kernel
theorem dX1_init_7 : decode cX1_init 7 = .ok (.newarray .boolean, 2) := by decide +kernel
theorem dX1_init_9 : decode cX1_init 9 = .ok (.putfield 9, 3) := by decide +kernel
theorem dX1_init_12 : decode cX1_init 12 = .ok (.aload_n 0, 1) := by decide +kernel
theorem dX1_init_13 : decode cX1_init 13 = .ok (.bipush 32, 2) := by decide +kernel
theorem dX1_init_15 : decode cX1_init 15 = .ok (.newarray .int, 2) := by decide +kernel
theorem dX1_init_17 : decode cX1_init 17 = .ok (.putfield 15, 3) := by decide +kernel
theorem dX1_init_20 : decode cX1_init 20 = .ok (.aload_n 0, 1) := by decide +kernel
theorem dX1_init_21 : decode cX1_init 21 = .ok (.iconst 0, 1) := by decide +kernel
theorem dX1_init_22 : decode cX1_init 22 = .ok (.putfield 19, 3) := by decide +kernel
theorem dX1_init_25 : decode cX1_init 25 = .ok (.aload_n 0, 1) := by decide +kernel
theorem dX1_init_26 : decode cX1_init 26 = .ok (.bipush 32, 2) := by decide +kernel
theorem dX1_init_28 : decode cX1_init 28 = .ok (.newarray .long, 2) := by decide +kernel
theorem dX1_init_30 : decode cX1_init 30 = .ok (.putfield 23, 3) := by decide +kernel
theorem dX1_init_33 : decode cX1_init 33 = .ok (.aload_n 0, 1) := by decide +kernel
theorem dX1_init_34 : decode cX1_init 34 = .ok (.iconst 5, 1) := by decide +kernel
theorem dX1_init_35 : decode cX1_init 35 = .ok (.newarray .long, 2) := by decide +kernel
theorem dX1_init_37 : decode cX1_init 37 = .ok (.putfield 27, 3) := by decide +kernel
theorem dX1_init_40 : decode cX1_init 40 = .ok (.aload_n 0, 1) := by decide +kernel
theorem dX1_init_41 : decode cX1_init 41 = .ok (.sipush 480, 3) := by decide +kernel
theorem dX1_init_44 : decode cX1_init 44 = .ok (.newarray .int, 2) := by decide +kernel
theorem dX1_init_46 : decode cX1_init 46 = .ok (.putfield 30, 3) := by decide +kernel
theorem dX1_init_49 : decode cX1_init 49 = .ok (.aload_n 0, 1) := by decide +kernel
theorem dX1_init_50 : decode cX1_init 50 = .ok (.bipush 60, 2) := by decide +kernel
theorem dX1_init_52 : decode cX1_init 52 = .ok (.newarray .int, 2) := by decide +kernel
theorem dX1_init_54 : decode cX1_init 54 = .ok (.putfield 33, 3) := by decide +kernel
theorem dX1_init_57 : decode cX1_init 57 = .ok (.aload_n 0, 1) := by decide +kernel
theorem dX1_init_58 : decode cX1_init 58 = .ok (.iconst 0, 1) := by decide +kernel
theorem dX1_init_59 : decode cX1_init 59 = .ok (.putfield 36, 3) := by decide +kernel
theorem dX1_init_62 : decode cX1_init 62 = .ok (.aload_n 0, 1) := by decide +kernel
theorem dX1_init_63 : decode cX1_init 63 = .ok (.iconst (-1), 1) := by decide +kernel
theorem dX1_init_64 : decode cX1_init 64 = .ok (.putfield 39, 3) := by decide +kernel
theorem dX1_init_67 : decode cX1_init 67 = .ok (.aload_n 0, 1) := by decide +kernel
theorem dX1_init_68 : decode cX1_init 68 = .ok (.iconst 0, 1) := by decide +kernel
theorem dX1_init_69 : decode cX1_init 69 = .ok (.putfield 42, 3) := by decide +kernel
theorem dX1_init_72 : decode cX1_init 72 = .ok (.aload_n 0, 1) := by decide +kernel
theorem dX1_init_73 : decode cX1_init 73 = .ok (.lconst 0, 1) := by decide +kernel
theorem dX1_init_74 : decode cX1_init 74 = .ok (.putfield 45, 3) := by decide +kernel
theorem dX1_init_77 : decode cX1_init 77 = .ok (.aload_n 0, 1) := by decide +kernel
theorem dX1_init_78 : decode cX1_init 78 = .ok (.iconst 0, 1) := by decide +kernel
theorem dX1_init_79 : decode cX1_init 79 = .ok (.putfield 49, 3) := by decide +kernel
theorem dX1_init_82 : decode cX1_init 82 = .ok (.aload_n 0, 1) := by decide +kernel
theorem dX1_init_83 : decode cX1_init 83 = .ok (.iconst 0, 1) := by decide +kernel
theorem dX1_init_84 : decode cX1_init 84 = .ok (.putfield 52, 3) := by decide +kernel
theorem dX1_init_87 : decode cX1_init 87 = .ok (.aload_n 0, 1) := by decide +kernel
theorem dX1_init_88 : decode cX1_init 88 = .ok (.iconst 0, 1) := by decide +kernel
theorem dX1_init_89 : decode cX1_init 89 = .ok (.putfield 55, 3) := by decide +kernel
theorem dX1_init_92 : decode cX1_init 92 = .ok (.aload_n 0, 1) := by decide +kernel
theorem dX1_init_93 : decode cX1_init 93 = .ok (.iconst 0, 1) := by decide +kernel
theorem dX1_init_94 : decode cX1_init 94 = .ok (.putfield 58, 3) := by decide +kernel
theorem dX1_init_97 : decode cX1_init 97 = .ok (.aload_n 0, 1) := by decide +kernel
theorem dX1_init_98 : decode cX1_init 98 = .ok (.lconst 0, 1) := by decide +kernel
theorem dX1_init_99 : decode cX1_init 99 = .ok (.putfield 61, 3) := by decide +kernel
theorem dX1_init_102 : decode cX1_init 102 = .ok (.aload_n 0, 1) := by decide +kernel
theorem dX1_init_103 : decode cX1_init 103 = .ok (.lconst 0, 1) := by decide +kernel
theorem dX1_init_104 : decode cX1_init 104 = .ok (.putfield 64, 3) := by decide +kernel
theorem dX1_init_107 : decode cX1_init 107 = .ok (.aload_n 0, 1) := by decide +kernel
theorem dX1_init_108 : decode cX1_init 108 = .ok (.lconst 0, 1) := by decide +kernel
theorem dX1_init_109 : decode cX1_init 109 = .ok (.putfield 67, 3) := by decide +kernel
theorem dX1_init_112 : decode cX1_init 112 = .ok (.aload_n 0, 1) := by decide +kernel
theorem dX1_init_113 : decode cX1_init 113 = .ok (.aload_n 1, 1) := by decide +kernel
theorem dX1_init_114 : decode cX1_init 114 = .ok (.putfield 70, 3) := by decide +kernel
theorem dX1_init_117 : decode cX1_init 117 = .ok (.return_, 1) := by decide +kernel
theorem dX1_look_0 : decode cX1_look 0 = .ok (.aload_n 0, 1) := by decide +kernel
theorem dX1_look_1 : decode cX1_look 1 = .ok (.aload_n 1, 1) := by decide +kernel
theorem dX1_look_2 : decode cX1_look 2 = .ok (.putfield 70, 3) := by decide +kernel
theorem dX1_look_5 : decode cX1_look 5 = .ok (.aload_n 0, 1) := by decide +kernel
theorem dX1_look_6 : decode cX1_look 6 = .ok (.aload_n 0, 1) := by decide +kernel
theorem dX1_look_7 : decode cX1_look 7 = .ok (.getfield 70, 3) := by decide +kernel
theorem dX1_look_10 : decode cX1_look 10 = .ok (.iload_n 2, 1) := by decide +kernel
theorem dX1_look_11 : decode cX1_look 11 = .ok (.invokevirtual 74, 3) := by decide +kernel
theorem dX1_look_14 : decode cX1_look 14 = .ok (.putfield 49, 3) := by decide +kernel
theorem dX1_look_17 : decode cX1_look 17 = .ok (.aload_n 0, 1) := by decide +kernel
theorem dX1_look_18 : decode cX1_look 18 = .ok (.aload_n 0, 1) := by decide +kernel
theorem dX1_look_19 : decode cX1_look 19 = .ok (.getfield 70, 3) := by decide +kernel
theorem dX1_look_22 : decode cX1_look 22 = .ok (.getfield 80, 3) := by decide +kernel
theorem dX1_look_25 : decode cX1_look 25 = .ok (.iload_n 3, 1) := by decide +kernel
theorem dX1_look_26 : decode cX1_look 26 = .ok (.isub, 1) := by decide +kernel
theorem dX1_look_27 : decode cX1_look 27 = .ok (.putfield 52, 3) := by decide +kernel
theorem dX1_look_30 : decode cX1_look 30 = .ok (.aload_n 0, 1) := by decide +kernel
theorem dX1_look_31 : decode cX1_look 31 = .ok (.lconst 0, 1) := by decide +kernel
theorem dX1_look_32 : decode cX1_look 32 = .ok (.putfield 61, 3) := by decide +kernel
theorem dX1_look_35 : decode cX1_look 35 = .ok (.aload_n 0, 1) := by decide +kernel
theorem dX1_look_36 : decode cX1_look 36 = .ok (.lconst 0, 1) := by decide +kernel
theorem dX1_look_37 : decode cX1_look 37 = .ok (.putfield 64, 3) := by decide +kernel
theorem dX1_look_40 : decode cX1_look 40 = .ok (.aload_n 0, 1) := by decide +kernel
theorem dX1_look_41 : decode cX1_look 41 = .ok (.getfield 27, 3) := by decide +kernel
theorem dX1_look_44 : decode cX1_look 44 = .ok (.lconst 0, 1) := by decide +kernel
theorem dX1_look_45 : decode cX1_look 45 = .ok (.invokestatic 83, 3) := by decide +kernel
theorem dX1_look_48 : decode cX1_look 48 = .ok (.iconst 0, 1) := by decide +kernel
theorem dX1_look_49 : decode cX1_look 49 = .ok (.istore 4, 2) := by decide +kernel
theorem dX1_look_51 : decode cX1_look 51 = .ok (.iload 4, 2) := by decide +kernel
theorem dX1_look_53 : decode cX1_look 53 = .ok (.aload_n 0, 1) := by decide +kernel
theorem dX1_look_54 : decode cX1_look 54 = .ok (.getfield 70, 3) := by decide +kernel
theorem dX1_look_57 : decode cX1_look 57 = .ok (.invokevirtual 89, 3) := by decide +kernel
theorem dX1_look_60 : decode cX1_look 60 = .ok (.if_icmp .ge 77, 3) := by decide +kernel
theorem dX1_look_63 : decode cX1_look 63 = .ok (.aload_n 0, 1) := by decide +kernel
theorem dX1_look_64 : decode cX1_look 64 = .ok (.iload 4, 2) := by decide +kernel
theorem dX1_look_66 : decode cX1_look 66 = .ok (.invokevirtual 93, 3) := by decide +kernel
theorem dX1_look_69 : decode cX1_look 69 = .ok (.istore 5, 2) := by decide +kernel
theorem dX1_look_71 : decode cX1_look 71 = .ok (.aload_n 0, 1) := by decide +kernel
theorem dX1_look_72 : decode cX1_look 72 = .ok (.getfield 70, 3) := by decide +kernel
theorem dX1_look_75 : decode cX1_look 75 = .ok (.getfield 96, 3) := by decide +kernel
theorem dX1_look_78 : decode cX1_look 78 = .ok (.iload 4, 2) := by decide +kernel
theorem dX1_look_80 : decode cX1_look 80 = .ok (.iaload, 1) := by decide +kernel
theorem dX1_look_81 : decode cX1_look 81 = .ok (.istore 6, 2) := by decide +kernel
theorem dX1_look_83 : decode cX1_look 83 = .ok (.iload 5, 2) := by decide +kernel
theorem dX1_look_85 : decode cX1_look 85 = .ok (.iconst 2, 1) := by decide +kernel
theorem dX1_look_86 : decode cX1_look 86 = .ok (.if_icmp .ne 19, 3) := by decide +kernel
theorem dX1_look_89 : decode cX1_look 89 = .ok (.aload_n 0, 1) := by decide +kernel
theorem dX1_look_90 : decode cX1_look 90 = .ok (.dup, 1) := by decide +kernel
theorem dX1_look_91 : decode cX1_look 91 = .ok (.getfield 61, 3) := by decide +kernel
theorem dX1_look_94 : decode cX1_look 94 = .ok (.lconst 1, 1) := by decide +kernel
theorem dX1_look_95 : decode cX1_look 95 = .ok (.iload 4, 2) := by decide +kernel
theorem dX1_look_97 : decode cX1_look 97 = .ok (.lshl, 1) := by decide +kernel
theorem dX1_look_98 : decode cX1_look 98 = .ok (.lor, 1) := by decide +kernel
theorem dX1_look_99 : decode cX1_look 99 = .ok (.putfield 61, 3) := by decide +kernel
theorem dX1_look_102 : decode cX1_look 102 = .ok (.goto 29, 3) := by decide +kernel
theorem dX1_look_105 : decode cX1_look 105 = .ok (.iload 5, 2) := by decide +kernel
theorem dX1_look_107 : decode cX1_look 107 = .ok (.iconst 1, 1) := by decide +kernel
theorem dX1_look_108 : decode cX1_look 108 = .ok (.if_icmp .ne 23, 3) := by decide +kernel
theorem dX1_look_111 : decode cX1_look 111 = .ok (.iload 6, 2) := by decide +kernel
theorem dX1_look_113 : decode cX1_look 113 = .ok (.iconst (-1), 1) := by decide +kernel
theorem dX1_look_114 : decode cX1_look 114 = .ok (.if_icmp .eq 17, 3) := by decide +kernel
theorem dX1_look_117 : decode cX1_look 117 = .ok (.aload_n 0, 1) := by decide +kernel
theorem dX1_look_118 : decode cX1_look 118 = .ok (.getfield 27, 3) := by decide +kernel
theorem dX1_look_121 : decode cX1_look 121 = .ok (.iload 6, 2) := by decide +kernel
theorem dX1_look_123 : decode cX1_look 123 = .ok (.dup2, 1) := by decide +kernel
theorem dX1_look_124 : decode cX1_look 124 = .ok (.laload, 1) := by decide +kernel
theorem dX1_look_125 : decode cX1_look 125 = .ok (.lconst 1, 1) := by decide +kernel
theorem dX1_look_126 : decode cX1_look 126 = .ok (.iload 4, 2) := by decide +kernel
theorem dX1_look_128 : decode cX1_look 128 = .ok (.lshl, 1) := by decide +kernel
theorem dX1_look_129 : decode cX1_look 129 = .ok (.lor, 1) := by decide +kernel
theorem dX1_look_130 : decode cX1_look 130 = .ok (.lastore, 1) := by decide +kernel
theorem dX1_look_131 : decode cX1_look 131 = .ok (.iinc 4 1, 3) := by decide +kernel
theorem dX1_look_134 : decode cX1_look 134 = .ok (.goto (-83), 3) := by decide +kernel
theorem dX1_look_137 : decode cX1_look 137 = .ok (.iconst 0, 1) := by decide +kernel
theorem dX1_look_138 : decode cX1_look 138 = .ok (.istore 4, 2) := by decide +kernel
theorem dX1_look_140 : decode cX1_look 140 = .ok (.iload 4, 2) := by decide +kernel
theorem dX1_look_142 : decode cX1_look 142 = .ok (.aload_n 0, 1) := by decide +kernel
theorem dX1_look_143 : decode cX1_look 143 = .ok (.getfield 70, 3) := by decide +kernel
theorem dX1_look_146 : decode cX1_look 146 = .ok (.getfield 99, 3) := by decide +kernel
theorem dX1_look_149 : decode cX1_look 149 = .ok (.if_icmp .ge 30, 3) := by decide +kernel
theorem dX1_look_152 : decode cX1_look 152 = .ok (.aload_n 0, 1) := by decide +kernel
theorem dX1_look_153 : decode cX1_look 153 = .ok (.dup, 1) := by decide +kernel
theorem dX1_look_154 : decode cX1_look 154 = .ok (.getfield 64, 3) := by decide +kernel
theorem dX1_look_157 : decode cX1_look 157 = .ok (.lconst 1, 1) := by decide +kernel
theorem dX1_look_158 : decode cX1_look 158 = .ok (.iload 4, 2) := by decide +kernel
theorem dX1_look_160 : decode cX1_look 160 = .ok (.aload_n 0, 1) := by decide +kernel
theorem dX1_look_161 : decode cX1_look 161 = .ok (.getfield 70, 3) := by decide +kernel
theorem dX1_look_164 : decode cX1_look 164 = .ok (.getfield 102, 3) := by decide +kernel
theorem dX1_look_167 : decode cX1_look 167 = .ok (.imul, 1) := by decide +kernel
theorem dX1_look_168 : decode cX1_look 168 = .ok (.lshl, 1) := by decide +kernel
theorem dX1_look_169 : decode cX1_look 169 = .ok (.lor, 1) := by decide +kernel
theorem dX1_look_170 : decode cX1_look 170 = .ok (.putfield 64, 3) := by decide +kernel
theorem dX1_look_173 : decode cX1_look 173 = .ok (.iinc 4 1, 3) := by decide +kernel
theorem dX1_look_176 : decode cX1_look 176 = .ok (.goto (-36), 3) := by decide +kernel
theorem dX1_look_179 : decode cX1_look 179 = .ok (.aload_n 0, 1) := by decide +kernel
theorem dX1_look_180 : decode cX1_look 180 = .ok (.aload_n 0, 1) := by decide +kernel
theorem dX1_look_181 : decode cX1_look 181 = .ok (.getfield 64, 3) := by decide +kernel
theorem dX1_look_184 : decode cX1_look 184 = .ok (.aload_n 0, 1) := by decide +kernel
theorem dX1_look_185 : decode cX1_look 185 = .ok (.getfield 70, 3) := by decide +kernel
theorem dX1_look_188 : decode cX1_look 188 = .ok (.getfield 102, 3) := by decide +kernel
theorem dX1_look_191 : decode cX1_look 191 = .ok (.iconst 1, 1) := by decide +kernel
theorem dX1_look_192 : decode cX1_look 192 = .ok (.isub, 1) := by decide +kernel
theorem dX1_look_193 : decode cX1_look 193 = .ok (.lshl, 1) := by decide +kernel
theorem dX1_look_194 : decode cX1_look 194 = .ok (.putfield 67, 3) := by decide +kernel
theorem dX1_look_197 : decode cX1_look 197 = .ok (.return_, 1) := by decide +kernel
theorem dX1_kindOf_0 : decode cX1_kindOf 0 = .ok (.aload_n 0, 1) := by decide +kernel
theorem dX1_kindOf_1 : decode cX1_kindOf 1 = .ok (.getfield 70, 3) := by decide +kernel
theorem dX1_kindOf_4 : decode cX1_kindOf 4 = .ok (.aload_n 0, 1) := by decide +kernel
theorem dX1_kindOf_5 : decode cX1_kindOf 5 = .ok (.getfield 49, 3) := by decide +kernel
theorem dX1_kindOf_8 : decode cX1_kindOf 8 = .ok (.iload_n 1, 1) := by decide +kernel
theorem dX1_kindOf_9 : decode cX1_kindOf 9 = .ok (.bipush 31, 2) := by decide +kernel
theorem dX1_kindOf_11 : decode cX1_kindOf 11 = .ok (.invokevirtual 105, 3) := by decide +kernel
theorem dX1_kindOf_14 : decode cX1_kindOf 14 = .ok (.aload_n 0, 1) := by decide +kernel
theorem dX1_kindOf_15 : decode cX1_kindOf 15 = .ok (.getfield 52, 3) := by decide +kernel
theorem dX1_kindOf_18 : decode cX1_kindOf 18 = .ok (.if_icmp .lt 5, 3) := by decide +kernel
theorem dX1_kindOf_21 : decode cX1_kindOf 21 = .ok (.iconst 2, 1) := by decide +kernel
theorem dX1_kindOf_22 : decode cX1_kindOf 22 = .ok (.ireturn, 1) := by decide +kernel
theorem dX1_kindOf_23 : decode cX1_kindOf 23 = .ok (.aload_n 0, 1) := by decide +kernel
theorem dX1_kindOf_24 : decode cX1_kindOf 24 = .ok (.getfield 70, 3) := by decide +kernel
theorem dX1_kindOf_27 : decode cX1_kindOf 27 = .ok (.aload_n 0, 1) := by decide +kernel
theorem dX1_kindOf_28 : decode cX1_kindOf 28 = .ok (.getfield 49, 3) := by decide +kernel
theorem dX1_kindOf_31 : decode cX1_kindOf 31 = .ok (.iload_n 1, 1) := by decide +kernel
theorem dX1_kindOf_32 : decode cX1_kindOf 32 = .ok (.iconst 0, 1) := by decide +kernel
theorem dX1_kindOf_33 : decode cX1_kindOf 33 = .ok (.invokevirtual 105, 3) := by decide +kernel
theorem dX1_kindOf_36 : decode cX1_kindOf 36 = .ok (.aload_n 0, 1) := by decide +kernel
theorem dX1_kindOf_37 : decode cX1_kindOf 37 = .ok (.getfield 52, 3) := by decide +kernel
theorem dX1_kindOf_40 : decode cX1_kindOf 40 = .ok (.if_icmp .lt 7, 3) := by decide +kernel
theorem dX1_kindOf_43 : decode cX1_kindOf 43 = .ok (.iconst 1, 1) := by decide +kernel
theorem dX1_kindOf_44 : decode cX1_kindOf 44 = .ok (.goto 4, 3) := by decide +kernel
theorem dX1_kindOf_47 : decode cX1_kindOf 47 = .ok (.iconst 0, 1) := by decide +kernel
theorem dX1_kindOf_48 : decode cX1_kindOf 48 = .ok (.ireturn, 1) := by decide +kernel
theorem dX1_firstStruck_0 : decode cX1_firstStruck 0 = .ok (.iconst 0, 1) := by decide +kernel
theorem dX1_firstStruck_1 : decode cX1_firstStruck 1 = .ok (.istore 4, 2) := by decide +kernel
theorem dX1_firstStruck_3 : decode cX1_firstStruck 3 = .ok (.iload 4, 2) := by decide +kernel
theorem dX1_firstStruck_5 : decode cX1_firstStruck 5 = .ok (.iload_n 2, 1) := by decide +kernel
theorem dX1_firstStruck_6 : decode cX1_firstStruck 6 = .ok (.if_icmp .ge 36, 3) := by decide +kernel
theorem dX1_firstStruck_9 : decode cX1_firstStruck 9 = .ok (.aload_n 0, 1) := by decide +kernel
theorem dX1_firstStruck_10 : decode cX1_firstStruck 10 = .ok (.getfield 70, 3) := by decide +kernel
theorem dX1_firstStruck_13 : decode cX1_firstStruck 13 = .ok (.aload_n 0, 1) := by decide +kernel
theorem dX1_firstStruck_14 : decode cX1_firstStruck 14 = .ok (.getfield 49, 3) := by decide +kernel
theorem dX1_firstStruck_17 : decode cX1_firstStruck 17 = .ok (.aload_n 1, 1) := by decide +kernel
theorem dX1_firstStruck_18 : decode cX1_firstStruck 18 = .ok (.iload 4, 2) := by decide +kernel
theorem dX1_firstStruck_20 : decode cX1_firstStruck 20 = .ok (.laload, 1) := by decide +kernel
theorem dX1_firstStruck_21 : decode cX1_firstStruck 21 = .ok (.l2i, 1) := by decide +kernel
theorem dX1_firstStruck_22 : decode cX1_firstStruck 22 = .ok (.iload_n 3, 1) := by decide +kernel
theorem dX1_firstStruck_23 : decode cX1_firstStruck 23 = .ok (.invokevirtual 105, 3) := by decide +kernel
theorem dX1_firstStruck_26 : decode cX1_firstStruck 26 = .ok (.aload_n 0, 1) := by decide +kernel
theorem dX1_firstStruck_27 : decode cX1_firstStruck 27 = .ok (.getfield 52, 3) := by decide +kernel
theorem dX1_firstStruck_30 : decode cX1_firstStruck 30 = .ok (.if_icmp .ge 6, 3) := by decide +kernel
theorem dX1_firstStruck_33 : decode cX1_firstStruck 33 = .ok (.iload 4, 2) := by decide +kernel
theorem dX1_firstStruck_35 : decode cX1_firstStruck 35 = .ok (.ireturn, 1) := by decide +kernel
theorem dX1_firstStruck_36 : decode cX1_firstStruck 36 = .ok (.iinc 4 1, 3) := by decide +kernel
theorem dX1_firstStruck_39 : decode cX1_firstStruck 39 = .ok (.goto (-36), 3) := by decide +kernel
theorem dX1_firstStruck_42 : decode cX1_firstStruck 42 = .ok (.iconst (-1), 1) := by decide +kernel
theorem dX1_firstStruck_43 : decode cX1_firstStruck 43 = .ok (.ireturn, 1) := by decide +kernel
theorem dX1_search_0 : decode cX1_search 0 = .ok (.aload_n 0, 1) := by decide +kernel
theorem dX1_search_1 : decode cX1_search 1 = .ok (.iload_n 1, 1) := by decide +kernel
theorem dX1_search_2 : decode cX1_search 2 = .ok (.putfield 55, 3) := by decide +kernel
theorem dX1_search_5 : decode cX1_search 5 = .ok (.aload_n 0, 1) := by decide +kernel
theorem dX1_search_6 : decode cX1_search 6 = .ok (.iload_n 2, 1) := by decide +kernel
theorem dX1_search_7 : decode cX1_search 7 = .ok (.putfield 58, 3) := by decide +kernel
theorem dX1_search_10 : decode cX1_search 10 = .ok (.aload_n 0, 1) := by decide +kernel
theorem dX1_search_11 : decode cX1_search 11 = .ok (.iconst 0, 1) := by decide +kernel
theorem dX1_search_12 : decode cX1_search 12 = .ok (.putfield 19, 3) := by decide +kernel
theorem dX1_search_15 : decode cX1_search 15 = .ok (.iconst 0, 1) := by decide +kernel
theorem dX1_search_16 : decode cX1_search 16 = .ok (.istore_n 3, 1) := by decide +kernel
theorem dX1_search_17 : decode cX1_search 17 = .ok (.iload_n 3, 1) := by decide +kernel
theorem dX1_search_18 : decode cX1_search 18 = .ok (.aload_n 0, 1) := by decide +kernel
theorem dX1_search_19 : decode cX1_search 19 = .ok (.getfield 70, 3) := by decide +kernel
theorem dX1_search_22 : decode cX1_search 22 = .ok (.invokevirtual 109, 3) := by decide +kernel
theorem dX1_search_25 : decode cX1_search 25 = .ok (.if_icmp .ge 68, 3) := by decide +kernel
theorem dX1_search_28 : decode cX1_search 28 = .ok (.aload_n 0, 1) := by decide +kernel
theorem dX1_search_29 : decode cX1_search 29 = .ok (.getfield 9, 3) := by decide +kernel
theorem dX1_search_32 : decode cX1_search 32 = .ok (.iload_n 3, 1) := by decide +kernel
theorem dX1_search_33 : decode cX1_search 33 = .ok (.aload_n 0, 1) := by decide +kernel
theorem dX1_search_34 : decode cX1_search 34 = .ok (.iload_n 3, 1) := by decide +kernel
theorem dX1_search_35 : decode cX1_search 35 = .ok (.invokevirtual 112, 3) := by decide +kernel
theorem dX1_search_38 : decode cX1_search 38 = .ok (.bastore, 1) := by decide +kernel
theorem dX1_search_39 : decode cX1_search 39 = .ok (.aload_n 0, 1) := by decide +kernel
theorem dX1_search_40 : decode cX1_search 40 = .ok (.getfield 9, 3) := by decide +kernel
theorem dX1_search_43 : decode cX1_search 43 = .ok (.iload_n 3, 1) := by decide +kernel
theorem dX1_search_44 : decode cX1_search 44 = .ok (.baload, 1) := by decide +kernel
theorem dX1_search_45 : decode cX1_search 45 = .ok (.ifCond .ne 42, 3) := by decide +kernel
theorem dX1_search_48 : decode cX1_search 48 = .ok (.aload_n 0, 1) := by decide +kernel
theorem dX1_search_49 : decode cX1_search 49 = .ok (.aload_n 0, 1) := by decide +kernel
theorem dX1_search_50 : decode cX1_search 50 = .ok (.iload_n 3, 1) := by decide +kernel
theorem dX1_search_51 : decode cX1_search 51 = .ok (.invokevirtual 116, 3) := by decide +kernel
theorem dX1_search_54 : decode cX1_search 54 = .ok (.invokevirtual 120, 3) := by decide +kernel
theorem dX1_search_57 : decode cX1_search 57 = .ok (.ifCond .eq 30, 3) := by decide +kernel
theorem dX1_search_60 : decode cX1_search 60 = .ok (.aload_n 0, 1) := by decide +kernel
theorem dX1_search_61 : decode cX1_search 61 = .ok (.getfield 9, 3) := by decide +kernel
theorem dX1_search_64 : decode cX1_search 64 = .ok (.iload_n 3, 1) := by decide +kernel
theorem dX1_search_65 : decode cX1_search 65 = .ok (.iconst 1, 1) := by decide +kernel
theorem dX1_search_66 : decode cX1_search 66 = .ok (.bastore, 1) := by decide +kernel
theorem dX1_search_67 : decode cX1_search 67 = .ok (.aload_n 0, 1) := by decide +kernel
theorem dX1_search_68 : decode cX1_search 68 = .ok (.getfield 15, 3) := by decide +kernel
theorem dX1_search_71 : decode cX1_search 71 = .ok (.aload_n 0, 1) := by decide +kernel
theorem dX1_search_72 : decode cX1_search 72 = .ok (.getfield 19, 3) := by decide +kernel
theorem dX1_search_75 : decode cX1_search 75 = .ok (.iload_n 3, 1) := by decide +kernel
theorem dX1_search_76 : decode cX1_search 76 = .ok (.iastore, 1) := by decide +kernel
theorem dX1_search_77 : decode cX1_search 77 = .ok (.aload_n 0, 1) := by decide +kernel
theorem dX1_search_78 : decode cX1_search 78 = .ok (.dup, 1) := by decide +kernel
theorem dX1_search_79 : decode cX1_search 79 = .ok (.getfield 19, 3) := by decide +kernel
theorem dX1_search_82 : decode cX1_search 82 = .ok (.iconst 1, 1) := by decide +kernel
theorem dX1_search_83 : decode cX1_search 83 = .ok (.iadd, 1) := by decide +kernel
theorem dX1_search_84 : decode cX1_search 84 = .ok (.putfield 19, 3) := by decide +kernel
theorem dX1_search_87 : decode cX1_search 87 = .ok (.iinc 3 1, 3) := by decide +kernel
theorem dX1_search_90 : decode cX1_search 90 = .ok (.goto (-73), 3) := by decide +kernel
theorem dX1_search_93 : decode cX1_search 93 = .ok (.aload_n 0, 1) := by decide +kernel
theorem dX1_search_94 : decode cX1_search 94 = .ok (.getfield 9, 3) := by decide +kernel
theorem dX1_search_97 : decode cX1_search 97 = .ok (.aload_n 0, 1) := by decide +kernel
theorem dX1_search_98 : decode cX1_search 98 = .ok (.getfield 70, 3) := by decide +kernel
theorem dX1_search_101 : decode cX1_search 101 = .ok (.invokevirtual 109, 3) := by decide +kernel
theorem dX1_search_104 : decode cX1_search 104 = .ok (.iconst 1, 1) := by decide +kernel
theorem dX1_search_105 : decode cX1_search 105 = .ok (.isub, 1) := by decide +kernel
theorem dX1_search_106 : decode cX1_search 106 = .ok (.baload, 1) := by decide +kernel
theorem dX1_search_107 : decode cX1_search 107 = .ok (.ireturn, 1) := by decide +kernel
theorem dX1_hasWayByLess_0 : decode cX1_hasWayByLess 0 = .ok (.iconst 0, 1) := by decide +kernel
theorem dX1_hasWayByLess_1 : decode cX1_hasWayByLess 1 = .ok (.istore_n 2, 1) := by decide +kernel
theorem dX1_hasWayByLess_2 : decode cX1_hasWayByLess 2 = .ok (.iload_n 2, 1) := by decide +kernel
theorem dX1_hasWayByLess_3 : decode cX1_hasWayByLess 3 = .ok (.aload_n 0, 1) := by decide +kernel
theorem dX1_hasWayByLess_4 : decode cX1_hasWayByLess 4 = .ok (.getfield 70, 3) := by decide +kernel
theorem dX1_hasWayByLess_7 : decode cX1_hasWayByLess 7 = .ok (.getfield 124, 3) := by decide +kernel
theorem dX1_hasWayByLess_10 : decode cX1_hasWayByLess 10 = .ok (.if_icmp .ge 33, 3) := by decide +kernel
theorem dX1_hasWayByLess_13 : decode cX1_hasWayByLess 13 = .ok (.iload_n 1, 1) := by decide +kernel
theorem dX1_hasWayByLess_14 : decode cX1_hasWayByLess 14 = .ok (.iload_n 2, 1) := by decide +kernel
theorem dX1_hasWayByLess_15 : decode cX1_hasWayByLess 15 = .ok (.ishr, 1) := by decide +kernel
theorem dX1_hasWayByLess_16 : decode cX1_hasWayByLess 16 = .ok (.iconst 1, 1) := by decide +kernel
theorem dX1_hasWayByLess_17 : decode cX1_hasWayByLess 17 = .ok (.iand, 1) := by decide +kernel
theorem dX1_hasWayByLess_18 : decode cX1_hasWayByLess 18 = .ok (.iconst 1, 1) := by decide +kernel
theorem dX1_hasWayByLess_19 : decode cX1_hasWayByLess 19 = .ok (.if_icmp .ne 18, 3) := by decide +kernel
theorem dX1_hasWayByLess_22 : decode cX1_hasWayByLess 22 = .ok (.aload_n 0, 1) := by decide +kernel
theorem dX1_hasWayByLess_23 : decode cX1_hasWayByLess 23 = .ok (.getfield 9, 3) := by decide +kernel
theorem dX1_hasWayByLess_26 : decode cX1_hasWayByLess 26 = .ok (.iload_n 1, 1) := by decide +kernel
theorem dX1_hasWayByLess_27 : decode cX1_hasWayByLess 27 = .ok (.iconst 1, 1) := by decide +kernel
theorem dX1_hasWayByLess_28 : decode cX1_hasWayByLess 28 = .ok (.iload_n 2, 1) := by decide +kernel
theorem dX1_hasWayByLess_29 : decode cX1_hasWayByLess 29 = .ok (.ishl, 1) := by decide +kernel
theorem dX1_hasWayByLess_30 : decode cX1_hasWayByLess 30 = .ok (.ixor, 1) := by decide +kernel
theorem dX1_hasWayByLess_31 : decode cX1_hasWayByLess 31 = .ok (.baload, 1) := by decide +kernel
theorem dX1_hasWayByLess_32 : decode cX1_hasWayByLess 32 = .ok (.ifCond .eq 5, 3) := by decide +kernel
theorem dX1_hasWayByLess_35 : decode cX1_hasWayByLess 35 = .ok (.iconst 1, 1) := by decide +kernel
theorem dX1_hasWayByLess_36 : decode cX1_hasWayByLess 36 = .ok (.ireturn, 1) := by decide +kernel
theorem dX1_hasWayByLess_37 : decode cX1_hasWayByLess 37 = .ok (.iinc 2 1, 3) := by decide +kernel
theorem dX1_hasWayByLess_40 : decode cX1_hasWayByLess 40 = .ok (.goto (-38), 3) := by decide +kernel
theorem dX1_hasWayByLess_43 : decode cX1_hasWayByLess 43 = .ok (.iconst 0, 1) := by decide +kernel
theorem dX1_hasWayByLess_44 : decode cX1_hasWayByLess 44 = .ok (.ireturn, 1) := by decide +kernel
theorem dX1_cellsBy_0 : decode cX1_cellsBy 0 = .ok (.aload_n 0, 1) := by decide +kernel
theorem dX1_cellsBy_1 : decode cX1_cellsBy 1 = .ok (.getfield 61, 3) := by decide +kernel
theorem dX1_cellsBy_4 : decode cX1_cellsBy 4 = .ok (.lstore_n 2, 1) := by decide +kernel
theorem dX1_cellsBy_5 : decode cX1_cellsBy 5 = .ok (.iconst 0, 1) := by decide +kernel
theorem dX1_cellsBy_6 : decode cX1_cellsBy 6 = .ok (.istore 4, 2) := by decide +kernel
theorem dX1_cellsBy_8 : decode cX1_cellsBy 8 = .ok (.iload 4, 2) := by decide +kernel
theorem dX1_cellsBy_10 : decode cX1_cellsBy 10 = .ok (.aload_n 0, 1) := by decide +kernel
theorem dX1_cellsBy_11 : decode cX1_cellsBy 11 = .ok (.getfield 70, 3) := by decide +kernel
theorem dX1_cellsBy_14 : decode cX1_cellsBy 14 = .ok (.getfield 124, 3) := by decide +kernel
theorem dX1_cellsBy_17 : decode cX1_cellsBy 17 = .ok (.if_icmp .ge 29, 3) := by decide +kernel
theorem dX1_cellsBy_20 : decode cX1_cellsBy 20 = .ok (.iload_n 1, 1) := by decide +kernel
theorem dX1_cellsBy_21 : decode cX1_cellsBy 21 = .ok (.iload 4, 2) := by decide +kernel
theorem dX1_cellsBy_23 : decode cX1_cellsBy 23 = .ok (.ishr, 1) := by decide +kernel
theorem dX1_cellsBy_24 : decode cX1_cellsBy 24 = .ok (.iconst 1, 1) := by decide +kernel
theorem dX1_cellsBy_25 : decode cX1_cellsBy 25 = .ok (.iand, 1) := by decide +kernel
theorem dX1_cellsBy_26 : decode cX1_cellsBy 26 = .ok (.iconst 1, 1) := by decide +kernel
theorem dX1_cellsBy_27 : decode cX1_cellsBy 27 = .ok (.if_icmp .ne 13, 3) := by decide +kernel
theorem dX1_cellsBy_30 : decode cX1_cellsBy 30 = .ok (.lload_n 2, 1) := by decide +kernel
theorem dX1_cellsBy_31 : decode cX1_cellsBy 31 = .ok (.aload_n 0, 1) := by decide +kernel
theorem dX1_cellsBy_32 : decode cX1_cellsBy 32 = .ok (.getfield 27, 3) := by decide +kernel
theorem dX1_cellsBy_35 : decode cX1_cellsBy 35 = .ok (.iload 4, 2) := by decide +kernel
theorem dX1_cellsBy_37 : decode cX1_cellsBy 37 = .ok (.laload, 1) := by decide +kernel
theorem dX1_cellsBy_38 : decode cX1_cellsBy 38 = .ok (.lor, 1) := by decide +kernel
theorem dX1_cellsBy_39 : decode cX1_cellsBy 39 = .ok (.lstore_n 2, 1) := by decide +kernel
theorem dX1_cellsBy_40 : decode cX1_cellsBy 40 = .ok (.iinc 4 1, 3) := by decide +kernel
theorem dX1_cellsBy_43 : decode cX1_cellsBy 43 = .ok (.goto (-35), 3) := by decide +kernel
theorem dX1_cellsBy_46 : decode cX1_cellsBy 46 = .ok (.lload_n 2, 1) := by decide +kernel
theorem dX1_cellsBy_47 : decode cX1_cellsBy 47 = .ok (.lreturn, 1) := by decide +kernel
theorem dX1_reaches_0 : decode cX1_reaches 0 = .ok (.lconst 1, 1) := by decide +kernel
theorem dX1_reaches_1 : decode cX1_reaches 1 = .ok (.aload_n 0, 1) := by decide +kernel
theorem dX1_reaches_2 : decode cX1_reaches 2 = .ok (.getfield 58, 3) := by decide +kernel
theorem dX1_reaches_5 : decode cX1_reaches 5 = .ok (.lshl, 1) := by decide +kernel
theorem dX1_reaches_6 : decode cX1_reaches 6 = .ok (.lstore_n 3, 1) := by decide +kernel
theorem dX1_reaches_7 : decode cX1_reaches 7 = .ok (.lconst 1, 1) := by decide +kernel
theorem dX1_reaches_8 : decode cX1_reaches 8 = .ok (.aload_n 0, 1) := by decide +kernel
theorem dX1_reaches_9 : decode cX1_reaches 9 = .ok (.getfield 55, 3) := by decide +kernel
theorem dX1_reaches_12 : decode cX1_reaches 12 = .ok (.lshl, 1) := by decide +kernel
theorem dX1_reaches_13 : decode cX1_reaches 13 = .ok (.lload_n 1, 1) := by decide +kernel
theorem dX1_reaches_14 : decode cX1_reaches 14 = .ok (.land, 1) := by decide +kernel
theorem dX1_reaches_15 : decode cX1_reaches 15 = .ok (.lstore 5, 2) := by decide +kernel
theorem dX1_reaches_17 : decode cX1_reaches 17 = .ok (.iconst 0, 1) := by decide +kernel
theorem dX1_reaches_18 : decode cX1_reaches 18 = .ok (.istore 7, 2) := by decide +kernel
theorem dX1_reaches_20 : decode cX1_reaches 20 = .ok (.iload 7, 2) := by decide +kernel
theorem dX1_reaches_22 : decode cX1_reaches 22 = .ok (.bipush 60, 2) := by decide +kernel
theorem dX1_reaches_24 : decode cX1_reaches 24 = .ok (.if_icmp .ge 34, 3) := by decide +kernel
theorem dX1_reaches_27 : decode cX1_reaches 27 = .ok (.aload_n 0, 1) := by decide +kernel
theorem dX1_reaches_28 : decode cX1_reaches 28 = .ok (.lload 5, 2) := by decide +kernel
theorem dX1_reaches_30 : decode cX1_reaches 30 = .ok (.invokevirtual 127, 3) := by decide +kernel
theorem dX1_reaches_33 : decode cX1_reaches 33 = .ok (.lload_n 1, 1) := by decide +kernel
theorem dX1_reaches_34 : decode cX1_reaches 34 = .ok (.land, 1) := by decide +kernel
theorem dX1_reaches_35 : decode cX1_reaches 35 = .ok (.lstore 8, 2) := by decide +kernel
theorem dX1_reaches_37 : decode cX1_reaches 37 = .ok (.lload 8, 2) := by decide +kernel
theorem dX1_reaches_39 : decode cX1_reaches 39 = .ok (.lload 5, 2) := by decide +kernel
theorem dX1_reaches_41 : decode cX1_reaches 41 = .ok (.lcmp, 1) := by decide +kernel
theorem dX1_reaches_42 : decode cX1_reaches 42 = .ok (.ifCond .ne 6, 3) := by decide +kernel
theorem dX1_reaches_45 : decode cX1_reaches 45 = .ok (.goto 13, 3) := by decide +kernel
theorem dX1_reaches_48 : decode cX1_reaches 48 = .ok (.lload 8, 2) := by decide +kernel
theorem dX1_reaches_50 : decode cX1_reaches 50 = .ok (.lstore 5, 2) := by decide +kernel
theorem dX1_reaches_52 : decode cX1_reaches 52 = .ok (.iinc 7 1, 3) := by decide +kernel
theorem dX1_reaches_55 : decode cX1_reaches 55 = .ok (.goto (-35), 3) := by decide +kernel
theorem dX1_reaches_58 : decode cX1_reaches 58 = .ok (.lload 5, 2) := by decide +kernel
theorem dX1_reaches_60 : decode cX1_reaches 60 = .ok (.lload_n 3, 1) := by decide +kernel
theorem dX1_reaches_61 : decode cX1_reaches 61 = .ok (.land, 1) := by decide +kernel
theorem dX1_reaches_62 : decode cX1_reaches 62 = .ok (.lconst 0, 1) := by decide +kernel
theorem dX1_reaches_63 : decode cX1_reaches 63 = .ok (.lcmp, 1) := by decide +kernel
theorem dX1_reaches_64 : decode cX1_reaches 64 = .ok (.ifCond .eq 7, 3) := by decide +kernel
theorem dX1_reaches_67 : decode cX1_reaches 67 = .ok (.iconst 1, 1) := by decide +kernel
theorem dX1_reaches_68 : decode cX1_reaches 68 = .ok (.goto 4, 3) := by decide +kernel
theorem dX1_reaches_71 : decode cX1_reaches 71 = .ok (.iconst 0, 1) := by decide +kernel
theorem dX1_reaches_72 : decode cX1_reaches 72 = .ok (.ireturn, 1) := by decide +kernel
theorem dX1_spread_0 : decode cX1_spread 0 = .ok (.lload_n 1, 1) := by decide +kernel
theorem dX1_spread_1 : decode cX1_spread 1 = .ok (.lload_n 1, 1) := by decide +kernel
theorem dX1_spread_2 : decode cX1_spread 2 = .ok (.aload_n 0, 1) := by decide +kernel
theorem dX1_spread_3 : decode cX1_spread 3 = .ok (.getfield 64, 3) := by decide +kernel
theorem dX1_spread_6 : decode cX1_spread 6 = .ok (.ldc2_w 131, 3) := by decide +kernel
theorem dX1_spread_9 : decode cX1_spread 9 = .ok (.lxor, 1) := by decide +kernel
theorem dX1_spread_10 : decode cX1_spread 10 = .ok (.land, 1) := by decide +kernel
theorem dX1_spread_11 : decode cX1_spread 11 = .ok (.iconst 1, 1) := by decide +kernel
theorem dX1_spread_12 : decode cX1_spread 12 = .ok (.lushr, 1) := by decide +kernel
theorem dX1_spread_13 : decode cX1_spread 13 = .ok (.lor, 1) := by decide +kernel
theorem dX1_spread_14 : decode cX1_spread 14 = .ok (.lload_n 1, 1) := by decide +kernel
theorem dX1_spread_15 : decode cX1_spread 15 = .ok (.aload_n 0, 1) := by decide +kernel
theorem dX1_spread_16 : decode cX1_spread 16 = .ok (.getfield 67, 3) := by decide +kernel
theorem dX1_spread_19 : decode cX1_spread 19 = .ok (.ldc2_w 131, 3) := by decide +kernel
theorem dX1_spread_22 : decode cX1_spread 22 = .ok (.lxor, 1) := by decide +kernel
theorem dX1_spread_23 : decode cX1_spread 23 = .ok (.land, 1) := by decide +kernel
theorem dX1_spread_24 : decode cX1_spread 24 = .ok (.iconst 1, 1) := by decide +kernel
theorem dX1_spread_25 : decode cX1_spread 25 = .ok (.lshl, 1) := by decide +kernel
theorem dX1_spread_26 : decode cX1_spread 26 = .ok (.lor, 1) := by decide +kernel
theorem dX1_spread_27 : decode cX1_spread 27 = .ok (.lstore_n 3, 1) := by decide +kernel
theorem dX1_spread_28 : decode cX1_spread 28 = .ok (.lload_n 3, 1) := by decide +kernel
theorem dX1_spread_29 : decode cX1_spread 29 = .ok (.lload_n 3, 1) := by decide +kernel
theorem dX1_spread_30 : decode cX1_spread 30 = .ok (.aload_n 0, 1) := by decide +kernel
theorem dX1_spread_31 : decode cX1_spread 31 = .ok (.getfield 70, 3) := by decide +kernel
theorem dX1_spread_34 : decode cX1_spread 34 = .ok (.getfield 102, 3) := by decide +kernel
theorem dX1_spread_37 : decode cX1_spread 37 = .ok (.lushr, 1) := by decide +kernel
theorem dX1_spread_38 : decode cX1_spread 38 = .ok (.lor, 1) := by decide +kernel
theorem dX1_spread_39 : decode cX1_spread 39 = .ok (.lload_n 3, 1) := by decide +kernel
theorem dX1_spread_40 : decode cX1_spread 40 = .ok (.aload_n 0, 1) := by decide +kernel
theorem dX1_spread_41 : decode cX1_spread 41 = .ok (.getfield 70, 3) := by decide +kernel
theorem dX1_spread_44 : decode cX1_spread 44 = .ok (.getfield 102, 3) := by decide +kernel
theorem dX1_spread_47 : decode cX1_spread 47 = .ok (.lshl, 1) := by decide +kernel
theorem dX1_spread_48 : decode cX1_spread 48 = .ok (.lor, 1) := by decide +kernel
theorem dX1_spread_49 : decode cX1_spread 49 = .ok (.lreturn, 1) := by decide +kernel
theorem dX1_bestOf_0 : decode cX1_bestOf 0 = .ok (.aload_n 0, 1) := by decide +kernel
theorem dX1_bestOf_1 : decode cX1_bestOf 1 = .ok (.aload_n 1, 1) := by decide +kernel
theorem dX1_bestOf_2 : decode cX1_bestOf 2 = .ok (.invokevirtual 133, 3) := by decide +kernel
theorem dX1_bestOf_5 : decode cX1_bestOf 5 = .ok (.lconst 0, 1) := by decide +kernel
theorem dX1_bestOf_6 : decode cX1_bestOf 6 = .ok (.lstore_n 2, 1) := by decide +kernel
theorem dX1_bestOf_7 : decode cX1_bestOf 7 = .ok (.iconst 0, 1) := by decide +kernel
theorem dX1_bestOf_8 : decode cX1_bestOf 8 = .ok (.istore 4, 2) := by decide +kernel
theorem dX1_bestOf_10 : decode cX1_bestOf 10 = .ok (.iload 4, 2) := by decide +kernel
theorem dX1_bestOf_12 : decode cX1_bestOf 12 = .ok (.aload_n 0, 1) := by decide +kernel
theorem dX1_bestOf_13 : decode cX1_bestOf 13 = .ok (.getfield 19, 3) := by decide +kernel
theorem dX1_bestOf_16 : decode cX1_bestOf 16 = .ok (.if_icmp .ge 25, 3) := by decide +kernel
theorem dX1_bestOf_19 : decode cX1_bestOf 19 = .ok (.lload_n 2, 1) := by decide +kernel
theorem dX1_bestOf_20 : decode cX1_bestOf 20 = .ok (.aload_n 0, 1) := by decide +kernel
theorem dX1_bestOf_21 : decode cX1_bestOf 21 = .ok (.aload_n 0, 1) := by decide +kernel
theorem dX1_bestOf_22 : decode cX1_bestOf 22 = .ok (.getfield 15, 3) := by decide +kernel
theorem dX1_bestOf_25 : decode cX1_bestOf 25 = .ok (.iload 4, 2) := by decide +kernel
theorem dX1_bestOf_27 : decode cX1_bestOf 27 = .ok (.iaload, 1) := by decide +kernel
theorem dX1_bestOf_28 : decode cX1_bestOf 28 = .ok (.invokevirtual 137, 3) := by decide +kernel
theorem dX1_bestOf_31 : decode cX1_bestOf 31 = .ok (.invokestatic 140, 3) := by decide +kernel
theorem dX1_bestOf_34 : decode cX1_bestOf 34 = .ok (.lstore_n 2, 1) := by decide +kernel
theorem dX1_bestOf_35 : decode cX1_bestOf 35 = .ok (.iinc 4 1, 3) := by decide +kernel
theorem dX1_bestOf_38 : decode cX1_bestOf 38 = .ok (.goto (-28), 3) := by decide +kernel
theorem dX1_bestOf_41 : decode cX1_bestOf 41 = .ok (.lload_n 2, 1) := by decide +kernel
theorem dX1_bestOf_42 : decode cX1_bestOf 42 = .ok (.lreturn, 1) := by decide +kernel
theorem dX1_sumUp_0 : decode cX1_sumUp 0 = .ok (.aload_n 1, 1) := by decide +kernel
theorem dX1_sumUp_1 : decode cX1_sumUp 1 = .ok (.aload_n 0, 1) := by decide +kernel
theorem dX1_sumUp_2 : decode cX1_sumUp 2 = .ok (.getfield 23, 3) := by decide +kernel
theorem dX1_sumUp_5 : decode cX1_sumUp 5 = .ok (.invokestatic 146, 3) := by decide +kernel
theorem dX1_sumUp_8 : decode cX1_sumUp 8 = .ok (.aload_n 0, 1) := by decide +kernel
theorem dX1_sumUp_9 : decode cX1_sumUp 9 = .ok (.getfield 70, 3) := by decide +kernel
theorem dX1_sumUp_12 : decode cX1_sumUp 12 = .ok (.invokevirtual 109, 3) := by decide +kernel
theorem dX1_sumUp_15 : decode cX1_sumUp 15 = .ok (.istore_n 2, 1) := by decide +kernel
theorem dX1_sumUp_16 : decode cX1_sumUp 16 = .ok (.iconst 1, 1) := by decide +kernel
theorem dX1_sumUp_17 : decode cX1_sumUp 17 = .ok (.istore_n 3, 1) := by decide +kernel
theorem dX1_sumUp_18 : decode cX1_sumUp 18 = .ok (.iload_n 3, 1) := by decide +kernel
theorem dX1_sumUp_19 : decode cX1_sumUp 19 = .ok (.iload_n 2, 1) := by decide +kernel
theorem dX1_sumUp_20 : decode cX1_sumUp 20 = .ok (.if_icmp .ge 51, 3) := by decide +kernel
theorem dX1_sumUp_23 : decode cX1_sumUp 23 = .ok (.iconst 0, 1) := by decide +kernel
theorem dX1_sumUp_24 : decode cX1_sumUp 24 = .ok (.istore 4, 2) := by decide +kernel
theorem dX1_sumUp_26 : decode cX1_sumUp 26 = .ok (.iload 4, 2) := by decide +kernel
theorem dX1_sumUp_28 : decode cX1_sumUp 28 = .ok (.iload_n 2, 1) := by decide +kernel
theorem dX1_sumUp_29 : decode cX1_sumUp 29 = .ok (.if_icmp .ge 35, 3) := by decide +kernel
theorem dX1_sumUp_32 : decode cX1_sumUp 32 = .ok (.iload 4, 2) := by decide +kernel
theorem dX1_sumUp_34 : decode cX1_sumUp 34 = .ok (.iload_n 3, 1) := by decide +kernel
theorem dX1_sumUp_35 : decode cX1_sumUp 35 = .ok (.iand, 1) := by decide +kernel
theorem dX1_sumUp_36 : decode cX1_sumUp 36 = .ok (.ifCond .eq 22, 3) := by decide +kernel
theorem dX1_sumUp_39 : decode cX1_sumUp 39 = .ok (.aload_n 0, 1) := by decide +kernel
theorem dX1_sumUp_40 : decode cX1_sumUp 40 = .ok (.getfield 23, 3) := by decide +kernel
theorem dX1_sumUp_43 : decode cX1_sumUp 43 = .ok (.iload 4, 2) := by decide +kernel
theorem dX1_sumUp_45 : decode cX1_sumUp 45 = .ok (.dup2, 1) := by decide +kernel
theorem dX1_sumUp_46 : decode cX1_sumUp 46 = .ok (.laload, 1) := by decide +kernel
theorem dX1_sumUp_47 : decode cX1_sumUp 47 = .ok (.aload_n 0, 1) := by decide +kernel
theorem dX1_sumUp_48 : decode cX1_sumUp 48 = .ok (.getfield 23, 3) := by decide +kernel
theorem dX1_sumUp_51 : decode cX1_sumUp 51 = .ok (.iload 4, 2) := by decide +kernel
theorem dX1_sumUp_53 : decode cX1_sumUp 53 = .ok (.iload_n 3, 1) := by decide +kernel
theorem dX1_sumUp_54 : decode cX1_sumUp 54 = .ok (.ixor, 1) := by decide +kernel
theorem dX1_sumUp_55 : decode cX1_sumUp 55 = .ok (.laload, 1) := by decide +kernel
theorem dX1_sumUp_56 : decode cX1_sumUp 56 = .ok (.ladd, 1) := by decide +kernel
theorem dX1_sumUp_57 : decode cX1_sumUp 57 = .ok (.lastore, 1) := by decide +kernel
theorem dX1_sumUp_58 : decode cX1_sumUp 58 = .ok (.iinc 4 1, 3) := by decide +kernel
theorem dX1_sumUp_61 : decode cX1_sumUp 61 = .ok (.goto (-35), 3) := by decide +kernel
theorem dX1_sumUp_64 : decode cX1_sumUp 64 = .ok (.iload_n 3, 1) := by decide +kernel
theorem dX1_sumUp_65 : decode cX1_sumUp 65 = .ok (.iconst 1, 1) := by decide +kernel
theorem dX1_sumUp_66 : decode cX1_sumUp 66 = .ok (.ishl, 1) := by decide +kernel
theorem dX1_sumUp_67 : decode cX1_sumUp 67 = .ok (.istore_n 3, 1) := by decide +kernel
theorem dX1_sumUp_68 : decode cX1_sumUp 68 = .ok (.goto (-50), 3) := by decide +kernel
theorem dX1_sumUp_71 : decode cX1_sumUp 71 = .ok (.return_, 1) := by decide +kernel
theorem dX1_sumWithout_0 : decode cX1_sumWithout 0 = .ok (.aload_n 0, 1) := by decide +kernel
theorem dX1_sumWithout_1 : decode cX1_sumWithout 1 = .ok (.getfield 23, 3) := by decide +kernel
theorem dX1_sumWithout_4 : decode cX1_sumWithout 4 = .ok (.aload_n 0, 1) := by decide +kernel
theorem dX1_sumWithout_5 : decode cX1_sumWithout 5 = .ok (.getfield 70, 3) := by decide +kernel
theorem dX1_sumWithout_8 : decode cX1_sumWithout 8 = .ok (.invokevirtual 109, 3) := by decide +kernel
theorem dX1_sumWithout_11 : decode cX1_sumWithout 11 = .ok (.iconst 1, 1) := by decide +kernel
theorem dX1_sumWithout_12 : decode cX1_sumWithout 12 = .ok (.isub, 1) := by decide +kernel
theorem dX1_sumWithout_13 : decode cX1_sumWithout 13 = .ok (.iload_n 1, 1) := by decide +kernel
theorem dX1_sumWithout_14 : decode cX1_sumWithout 14 = .ok (.iconst (-1), 1) := by decide +kernel
theorem dX1_sumWithout_15 : decode cX1_sumWithout 15 = .ok (.ixor, 1) := by decide +kernel
theorem dX1_sumWithout_16 : decode cX1_sumWithout 16 = .ok (.iand, 1) := by decide +kernel
theorem dX1_sumWithout_17 : decode cX1_sumWithout 17 = .ok (.laload, 1) := by decide +kernel
theorem dX1_sumWithout_18 : decode cX1_sumWithout 18 = .ok (.lreturn, 1) := by decide +kernel
theorem dX1_chooseSurest_0 : decode cX1_chooseSurest 0 = .ok (.aload_n 0, 1) := by decide +kernel
theorem dX1_chooseSurest_1 : decode cX1_chooseSurest 1 = .ok (.aload_n 0, 1) := by decide +kernel
theorem dX1_chooseSurest_2 : decode cX1_chooseSurest 2 = .ok (.aload_n 1, 1) := by decide +kernel
theorem dX1_chooseSurest_3 : decode cX1_chooseSurest 3 = .ok (.invokevirtual 150, 3) := by decide +kernel
theorem dX1_chooseSurest_6 : decode cX1_chooseSurest 6 = .ok (.putfield 45, 3) := by decide +kernel
theorem dX1_chooseSurest_9 : decode cX1_chooseSurest 9 = .ok (.aload_n 0, 1) := by decide +kernel
theorem dX1_chooseSurest_10 : decode cX1_chooseSurest 10 = .ok (.iconst (-1), 1) := by decide +kernel
theorem dX1_chooseSurest_11 : decode cX1_chooseSurest 11 = .ok (.putfield 39, 3) := by decide +kernel
theorem dX1_chooseSurest_14 : decode cX1_chooseSurest 14 = .ok (.aload_n 0, 1) := by decide +kernel
theorem dX1_chooseSurest_15 : decode cX1_chooseSurest 15 = .ok (.ldc 154, 2) := by decide +kernel
theorem dX1_chooseSurest_17 : decode cX1_chooseSurest 17 = .ok (.putfield 42, 3) := by decide +kernel
theorem dX1_chooseSurest_20 : decode cX1_chooseSurest 20 = .ok (.iconst 0, 1) := by decide +kernel
theorem dX1_chooseSurest_21 : decode cX1_chooseSurest 21 = .ok (.istore_n 2, 1) := by decide +kernel
theorem dX1_chooseSurest_22 : decode cX1_chooseSurest 22 = .ok (.iload_n 2, 1) := by decide +kernel
theorem dX1_chooseSurest_23 : decode cX1_chooseSurest 23 = .ok (.aload_n 0, 1) := by decide +kernel
theorem dX1_chooseSurest_24 : decode cX1_chooseSurest 24 = .ok (.getfield 70, 3) := by decide +kernel
theorem dX1_chooseSurest_27 : decode cX1_chooseSurest 27 = .ok (.invokevirtual 109, 3) := by decide +kernel
theorem dX1_chooseSurest_30 : decode cX1_chooseSurest 30 = .ok (.if_icmp .ge 55, 3) := by decide +kernel
theorem dX1_chooseSurest_33 : decode cX1_chooseSurest 33 = .ok (.aload_n 0, 1) := by decide +kernel
theorem dX1_chooseSurest_34 : decode cX1_chooseSurest 34 = .ok (.getfield 9, 3) := by decide +kernel
theorem dX1_chooseSurest_37 : decode cX1_chooseSurest 37 = .ok (.iload_n 2, 1) := by decide +kernel
theorem dX1_chooseSurest_38 : decode cX1_chooseSurest 38 = .ok (.baload, 1) := by decide +kernel
theorem dX1_chooseSurest_39 : decode cX1_chooseSurest 39 = .ok (.ifCond .eq 40, 3) := by decide +kernel
theorem dX1_chooseSurest_42 : decode cX1_chooseSurest 42 = .ok (.aload_n 0, 1) := by decide +kernel
theorem dX1_chooseSurest_43 : decode cX1_chooseSurest 43 = .ok (.iload_n 2, 1) := by decide +kernel
theorem dX1_chooseSurest_44 : decode cX1_chooseSurest 44 = .ok (.invokevirtual 137, 3) := by decide +kernel
theorem dX1_chooseSurest_47 : decode cX1_chooseSurest 47 = .ok (.aload_n 0, 1) := by decide +kernel
theorem dX1_chooseSurest_48 : decode cX1_chooseSurest 48 = .ok (.getfield 45, 3) := by decide +kernel
theorem dX1_chooseSurest_51 : decode cX1_chooseSurest 51 = .ok (.lcmp, 1) := by decide +kernel
theorem dX1_chooseSurest_52 : decode cX1_chooseSurest 52 = .ok (.ifCond .ne 27, 3) := by decide +kernel
theorem dX1_chooseSurest_55 : decode cX1_chooseSurest 55 = .ok (.aload_n 0, 1) := by decide +kernel
theorem dX1_chooseSurest_56 : decode cX1_chooseSurest 56 = .ok (.iload_n 2, 1) := by decide +kernel
theorem dX1_chooseSurest_57 : decode cX1_chooseSurest 57 = .ok (.invokevirtual 155, 3) := by decide +kernel
theorem dX1_chooseSurest_60 : decode cX1_chooseSurest 60 = .ok (.istore_n 3, 1) := by decide +kernel
theorem dX1_chooseSurest_61 : decode cX1_chooseSurest 61 = .ok (.iload_n 3, 1) := by decide +kernel
theorem dX1_chooseSurest_62 : decode cX1_chooseSurest 62 = .ok (.aload_n 0, 1) := by decide +kernel
theorem dX1_chooseSurest_63 : decode cX1_chooseSurest 63 = .ok (.getfield 42, 3) := by decide +kernel
theorem dX1_chooseSurest_66 : decode cX1_chooseSurest 66 = .ok (.if_icmp .ge 13, 3) := by decide +kernel
theorem dX1_chooseSurest_69 : decode cX1_chooseSurest 69 = .ok (.aload_n 0, 1) := by decide +kernel
theorem dX1_chooseSurest_70 : decode cX1_chooseSurest 70 = .ok (.iload_n 2, 1) := by decide +kernel
theorem dX1_chooseSurest_71 : decode cX1_chooseSurest 71 = .ok (.putfield 39, 3) := by decide +kernel
theorem dX1_chooseSurest_74 : decode cX1_chooseSurest 74 = .ok (.aload_n 0, 1) := by decide +kernel
theorem dX1_chooseSurest_75 : decode cX1_chooseSurest 75 = .ok (.iload_n 3, 1) := by decide +kernel
theorem dX1_chooseSurest_76 : decode cX1_chooseSurest 76 = .ok (.putfield 42, 3) := by decide +kernel
theorem dX1_chooseSurest_79 : decode cX1_chooseSurest 79 = .ok (.iinc 2 1, 3) := by decide +kernel
theorem dX1_chooseSurest_82 : decode cX1_chooseSurest 82 = .ok (.goto (-60), 3) := by decide +kernel
theorem dX1_chooseSurest_85 : decode cX1_chooseSurest 85 = .ok (.return_, 1) := by decide +kernel
theorem dX1_chooseMean_0 : decode cX1_chooseMean 0 = .ok (.aload_n 0, 1) := by decide +kernel
theorem dX1_chooseMean_1 : decode cX1_chooseMean 1 = .ok (.aload_n 1, 1) := by decide +kernel
theorem dX1_chooseMean_2 : decode cX1_chooseMean 2 = .ok (.invokevirtual 133, 3) := by decide +kernel
theorem dX1_chooseMean_5 : decode cX1_chooseMean 5 = .ok (.aload_n 0, 1) := by decide +kernel
theorem dX1_chooseMean_6 : decode cX1_chooseMean 6 = .ok (.iconst (-1), 1) := by decide +kernel
theorem dX1_chooseMean_7 : decode cX1_chooseMean 7 = .ok (.putfield 39, 3) := by decide +kernel
theorem dX1_chooseMean_10 : decode cX1_chooseMean 10 = .ok (.lconst 0, 1) := by decide +kernel
theorem dX1_chooseMean_11 : decode cX1_chooseMean 11 = .ok (.lstore_n 2, 1) := by decide +kernel
theorem dX1_chooseMean_12 : decode cX1_chooseMean 12 = .ok (.iconst 0, 1) := by decide +kernel
theorem dX1_chooseMean_13 : decode cX1_chooseMean 13 = .ok (.istore 4, 2) := by decide +kernel
theorem dX1_chooseMean_15 : decode cX1_chooseMean 15 = .ok (.iload 4, 2) := by decide +kernel
theorem dX1_chooseMean_17 : decode cX1_chooseMean 17 = .ok (.aload_n 0, 1) := by decide +kernel
theorem dX1_chooseMean_18 : decode cX1_chooseMean 18 = .ok (.getfield 70, 3) := by decide +kernel
theorem dX1_chooseMean_21 : decode cX1_chooseMean 21 = .ok (.invokevirtual 109, 3) := by decide +kernel
theorem dX1_chooseMean_24 : decode cX1_chooseMean 24 = .ok (.if_icmp .ge 72, 3) := by decide +kernel
theorem dX1_chooseMean_27 : decode cX1_chooseMean 27 = .ok (.aload_n 0, 1) := by decide +kernel
theorem dX1_chooseMean_28 : decode cX1_chooseMean 28 = .ok (.getfield 9, 3) := by decide +kernel
theorem dX1_chooseMean_31 : decode cX1_chooseMean 31 = .ok (.iload 4, 2) := by decide +kernel
theorem dX1_chooseMean_33 : decode cX1_chooseMean 33 = .ok (.baload, 1) := by decide +kernel
theorem dX1_chooseMean_34 : decode cX1_chooseMean 34 = .ok (.ifCond .eq 56, 3) := by decide +kernel
theorem dX1_chooseMean_37 : decode cX1_chooseMean 37 = .ok (.aload_n 0, 1) := by decide +kernel
theorem dX1_chooseMean_38 : decode cX1_chooseMean 38 = .ok (.iload 4, 2) := by decide +kernel
theorem dX1_chooseMean_40 : decode cX1_chooseMean 40 = .ok (.invokevirtual 155, 3) := by decide +kernel
theorem dX1_chooseMean_43 : decode cX1_chooseMean 43 = .ok (.i2l, 1) := by decide +kernel
theorem dX1_chooseMean_44 : decode cX1_chooseMean 44 = .ok (.ldc2_w 158, 3) := by decide +kernel
theorem dX1_chooseMean_47 : decode cX1_chooseMean 47 = .ok (.lmul, 1) := by decide +kernel
theorem dX1_chooseMean_48 : decode cX1_chooseMean 48 = .ok (.aload_n 0, 1) := by decide +kernel
theorem dX1_chooseMean_49 : decode cX1_chooseMean 49 = .ok (.getfield 70, 3) := by decide +kernel
theorem dX1_chooseMean_52 : decode cX1_chooseMean 52 = .ok (.getfield 160, 3) := by decide +kernel
theorem dX1_chooseMean_55 : decode cX1_chooseMean 55 = .ok (.i2l, 1) := by decide +kernel
theorem dX1_chooseMean_56 : decode cX1_chooseMean 56 = .ok (.aload_n 0, 1) := by decide +kernel
theorem dX1_chooseMean_57 : decode cX1_chooseMean 57 = .ok (.iload 4, 2) := by decide +kernel
theorem dX1_chooseMean_59 : decode cX1_chooseMean 59 = .ok (.invokevirtual 163, 3) := by decide +kernel
theorem dX1_chooseMean_62 : decode cX1_chooseMean 62 = .ok (.lmul, 1) := by decide +kernel
theorem dX1_chooseMean_63 : decode cX1_chooseMean 63 = .ok (.ladd, 1) := by decide +kernel
theorem dX1_chooseMean_64 : decode cX1_chooseMean 64 = .ok (.lstore 5, 2) := by decide +kernel
theorem dX1_chooseMean_66 : decode cX1_chooseMean 66 = .ok (.aload_n 0, 1) := by decide +kernel
theorem dX1_chooseMean_67 : decode cX1_chooseMean 67 = .ok (.getfield 39, 3) := by decide +kernel
theorem dX1_chooseMean_70 : decode cX1_chooseMean 70 = .ok (.iconst (-1), 1) := by decide +kernel
theorem dX1_chooseMean_71 : decode cX1_chooseMean 71 = .ok (.if_icmp .eq 10, 3) := by decide +kernel
theorem dX1_chooseMean_74 : decode cX1_chooseMean 74 = .ok (.lload 5, 2) := by decide +kernel
theorem dX1_chooseMean_76 : decode cX1_chooseMean 76 = .ok (.lload_n 2, 1) := by decide +kernel
theorem dX1_chooseMean_77 : decode cX1_chooseMean 77 = .ok (.lcmp, 1) := by decide +kernel
theorem dX1_chooseMean_78 : decode cX1_chooseMean 78 = .ok (.ifCond .ge 12, 3) := by decide +kernel
theorem dX1_chooseMean_81 : decode cX1_chooseMean 81 = .ok (.aload_n 0, 1) := by decide +kernel
theorem dX1_chooseMean_82 : decode cX1_chooseMean 82 = .ok (.iload 4, 2) := by decide +kernel
theorem dX1_chooseMean_84 : decode cX1_chooseMean 84 = .ok (.putfield 39, 3) := by decide +kernel
theorem dX1_chooseMean_87 : decode cX1_chooseMean 87 = .ok (.lload 5, 2) := by decide +kernel
theorem dX1_chooseMean_89 : decode cX1_chooseMean 89 = .ok (.lstore_n 2, 1) := by decide +kernel
theorem dX1_chooseMean_90 : decode cX1_chooseMean 90 = .ok (.iinc 4 1, 3) := by decide +kernel
theorem dX1_chooseMean_93 : decode cX1_chooseMean 93 = .ok (.goto (-78), 3) := by decide +kernel
theorem dX1_chooseMean_96 : decode cX1_chooseMean 96 = .ok (.lload_n 2, 1) := by decide +kernel
theorem dX1_chooseMean_97 : decode cX1_chooseMean 97 = .ok (.lreturn, 1) := by decide +kernel
theorem dX1_likelyThere_0 : decode cX1_likelyThere 0 = .ok (.lconst 0, 1) := by decide +kernel
theorem dX1_likelyThere_1 : decode cX1_likelyThere 1 = .ok (.lstore_n 2, 1) := by decide +kernel
theorem dX1_likelyThere_2 : decode cX1_likelyThere 2 = .ok (.iconst 0, 1) := by decide +kernel
theorem dX1_likelyThere_3 : decode cX1_likelyThere 3 = .ok (.istore 4, 2) := by decide +kernel
theorem dX1_likelyThere_5 : decode cX1_likelyThere 5 = .ok (.iload 4, 2) := by decide +kernel
theorem dX1_likelyThere_7 : decode cX1_likelyThere 7 = .ok (.aload_n 0, 1) := by decide +kernel
theorem dX1_likelyThere_8 : decode cX1_likelyThere 8 = .ok (.getfield 70, 3) := by decide +kernel
theorem dX1_likelyThere_11 : decode cX1_likelyThere 11 = .ok (.getfield 124, 3) := by decide +kernel
theorem dX1_likelyThere_14 : decode cX1_likelyThere 14 = .ok (.if_icmp .ge 34, 3) := by decide +kernel
theorem dX1_likelyThere_17 : decode cX1_likelyThere 17 = .ok (.iload_n 1, 1) := by decide +kernel
theorem dX1_likelyThere_18 : decode cX1_likelyThere 18 = .ok (.iload 4, 2) := by decide +kernel
theorem dX1_likelyThere_20 : decode cX1_likelyThere 20 = .ok (.ishr, 1) := by decide +kernel
theorem dX1_likelyThere_21 : decode cX1_likelyThere 21 = .ok (.iconst 1, 1) := by decide +kernel
theorem dX1_likelyThere_22 : decode cX1_likelyThere 22 = .ok (.iand, 1) := by decide +kernel
theorem dX1_likelyThere_23 : decode cX1_likelyThere 23 = .ok (.iconst 1, 1) := by decide +kernel
theorem dX1_likelyThere_24 : decode cX1_likelyThere 24 = .ok (.if_icmp .ne 18, 3) := by decide +kernel
theorem dX1_likelyThere_27 : decode cX1_likelyThere 27 = .ok (.lload_n 2, 1) := by decide +kernel
theorem dX1_likelyThere_28 : decode cX1_likelyThere 28 = .ok (.ldc2_w 158, 3) := by decide +kernel
theorem dX1_likelyThere_31 : decode cX1_likelyThere 31 = .ok (.aload_n 0, 1) := by decide +kernel
theorem dX1_likelyThere_32 : decode cX1_likelyThere 32 = .ok (.iconst 1, 1) := by decide +kernel
theorem dX1_likelyThere_33 : decode cX1_likelyThere 33 = .ok (.iload 4, 2) := by decide +kernel
theorem dX1_likelyThere_35 : decode cX1_likelyThere 35 = .ok (.ishl, 1) := by decide +kernel
theorem dX1_likelyThere_36 : decode cX1_likelyThere 36 = .ok (.invokevirtual 137, 3) := by decide +kernel
theorem dX1_likelyThere_39 : decode cX1_likelyThere 39 = .ok (.lsub, 1) := by decide +kernel
theorem dX1_likelyThere_40 : decode cX1_likelyThere 40 = .ok (.ladd, 1) := by decide +kernel
theorem dX1_likelyThere_41 : decode cX1_likelyThere 41 = .ok (.lstore_n 2, 1) := by decide +kernel
theorem dX1_likelyThere_42 : decode cX1_likelyThere 42 = .ok (.iinc 4 1, 3) := by decide +kernel
theorem dX1_likelyThere_45 : decode cX1_likelyThere 45 = .ok (.goto (-40), 3) := by decide +kernel
theorem dX1_likelyThere_48 : decode cX1_likelyThere 48 = .ok (.lload_n 2, 1) := by decide +kernel
theorem dX1_likelyThere_49 : decode cX1_likelyThere 49 = .ok (.lreturn, 1) := by decide +kernel
theorem dX1_soonestBy_0 : decode cX1_soonestBy 0 = .ok (.aload_n 0, 1) := by decide +kernel
theorem dX1_soonestBy_1 : decode cX1_soonestBy 1 = .ok (.iload_n 1, 1) := by decide +kernel
theorem dX1_soonestBy_2 : decode cX1_soonestBy 2 = .ok (.invokevirtual 116, 3) := by decide +kernel
theorem dX1_soonestBy_5 : decode cX1_soonestBy 5 = .ok (.lstore_n 2, 1) := by decide +kernel
theorem dX1_soonestBy_6 : decode cX1_soonestBy 6 = .ok (.lconst 1, 1) := by decide +kernel
theorem dX1_soonestBy_7 : decode cX1_soonestBy 7 = .ok (.aload_n 0, 1) := by decide +kernel
theorem dX1_soonestBy_8 : decode cX1_soonestBy 8 = .ok (.getfield 58, 3) := by decide +kernel
theorem dX1_soonestBy_11 : decode cX1_soonestBy 11 = .ok (.lshl, 1) := by decide +kernel
theorem dX1_soonestBy_12 : decode cX1_soonestBy 12 = .ok (.lstore 4, 2) := by decide +kernel
theorem dX1_soonestBy_14 : decode cX1_soonestBy 14 = .ok (.aload_n 0, 1) := by decide +kernel
theorem dX1_soonestBy_15 : decode cX1_soonestBy 15 = .ok (.getfield 30, 3) := by decide +kernel
theorem dX1_soonestBy_18 : decode cX1_soonestBy 18 = .ok (.ldc 154, 2) := by decide +kernel
theorem dX1_soonestBy_20 : decode cX1_soonestBy 20 = .ok (.invokestatic 166, 3) := by decide +kernel
theorem dX1_soonestBy_23 : decode cX1_soonestBy 23 = .ok (.iconst 0, 1) := by decide +kernel
theorem dX1_soonestBy_24 : decode cX1_soonestBy 24 = .ok (.istore 6, 2) := by decide +kernel
theorem dX1_soonestBy_26 : decode cX1_soonestBy 26 = .ok (.iload 6, 2) := by decide +kernel
theorem dX1_soonestBy_28 : decode cX1_soonestBy 28 = .ok (.bipush 8, 2) := by decide +kernel
theorem dX1_soonestBy_30 : decode cX1_soonestBy 30 = .ok (.if_icmp .ge 25, 3) := by decide +kernel
theorem dX1_soonestBy_33 : decode cX1_soonestBy 33 = .ok (.aload_n 0, 1) := by decide +kernel
theorem dX1_soonestBy_34 : decode cX1_soonestBy 34 = .ok (.getfield 30, 3) := by decide +kernel
theorem dX1_soonestBy_37 : decode cX1_soonestBy 37 = .ok (.aload_n 0, 1) := by decide +kernel
theorem dX1_soonestBy_38 : decode cX1_soonestBy 38 = .ok (.getfield 58, 3) := by decide +kernel
theorem dX1_soonestBy_41 : decode cX1_soonestBy 41 = .ok (.bipush 8, 2) := by decide +kernel
theorem dX1_soonestBy_43 : decode cX1_soonestBy 43 = .ok (.imul, 1) := by decide +kernel
theorem dX1_soonestBy_44 : decode cX1_soonestBy 44 = .ok (.iload 6, 2) := by decide +kernel
theorem dX1_soonestBy_46 : decode cX1_soonestBy 46 = .ok (.iadd, 1) := by decide +kernel
theorem dX1_soonestBy_47 : decode cX1_soonestBy 47 = .ok (.iconst 0, 1) := by decide +kernel
theorem dX1_soonestBy_48 : decode cX1_soonestBy 48 = .ok (.iastore, 1) := by decide +kernel
theorem dX1_soonestBy_49 : decode cX1_soonestBy 49 = .ok (.iinc 6 1, 3) := by decide +kernel
theorem dX1_soonestBy_52 : decode cX1_soonestBy 52 = .ok (.goto (-26), 3) := by decide +kernel
theorem dX1_soonestBy_55 : decode cX1_soonestBy 55 = .ok (.aload_n 0, 1) := by decide +kernel
theorem dX1_soonestBy_56 : decode cX1_soonestBy 56 = .ok (.lload 4, 2) := by decide +kernel
theorem dX1_soonestBy_58 : decode cX1_soonestBy 58 = .ok (.invokevirtual 127, 3) := by decide +kernel
theorem dX1_soonestBy_61 : decode cX1_soonestBy 61 = .ok (.lload_n 2, 1) := by decide +kernel
theorem dX1_soonestBy_62 : decode cX1_soonestBy 62 = .ok (.land, 1) := by decide +kernel
theorem dX1_soonestBy_63 : decode cX1_soonestBy 63 = .ok (.lload 4, 2) := by decide +kernel
theorem dX1_soonestBy_65 : decode cX1_soonestBy 65 = .ok (.ldc2_w 131, 3) := by decide +kernel
theorem dX1_soonestBy_68 : decode cX1_soonestBy 68 = .ok (.lxor, 1) := by decide +kernel
theorem dX1_soonestBy_69 : decode cX1_soonestBy 69 = .ok (.land, 1) := by decide +kernel
theorem dX1_soonestBy_70 : decode cX1_soonestBy 70 = .ok (.lstore 6, 2) := by decide +kernel
theorem dX1_soonestBy_72 : decode cX1_soonestBy 72 = .ok (.iconst 0, 1) := by decide +kernel
theorem dX1_soonestBy_73 : decode cX1_soonestBy 73 = .ok (.istore 8, 2) := by decide +kernel
theorem dX1_soonestBy_75 : decode cX1_soonestBy 75 = .ok (.iload 8, 2) := by decide +kernel
theorem dX1_soonestBy_77 : decode cX1_soonestBy 77 = .ok (.bipush 60, 2) := by decide +kernel
theorem dX1_soonestBy_79 : decode cX1_soonestBy 79 = .ok (.if_icmp .ge 87, 3) := by decide +kernel
theorem dX1_soonestBy_82 : decode cX1_soonestBy 82 = .ok (.lload 6, 2) := by decide +kernel
theorem dX1_soonestBy_84 : decode cX1_soonestBy 84 = .ok (.lconst 0, 1) := by decide +kernel
theorem dX1_soonestBy_85 : decode cX1_soonestBy 85 = .ok (.lcmp, 1) := by decide +kernel
theorem dX1_soonestBy_86 : decode cX1_soonestBy 86 = .ok (.ifCond .eq 80, 3) := by decide +kernel
theorem dX1_soonestBy_89 : decode cX1_soonestBy 89 = .ok (.lconst 0, 1) := by decide +kernel
theorem dX1_soonestBy_90 : decode cX1_soonestBy 90 = .ok (.lstore 9, 2) := by decide +kernel
theorem dX1_soonestBy_92 : decode cX1_soonestBy 92 = .ok (.iconst 0, 1) := by decide +kernel
theorem dX1_soonestBy_93 : decode cX1_soonestBy 93 = .ok (.istore 11, 2) := by decide +kernel
theorem dX1_soonestBy_95 : decode cX1_soonestBy 95 = .ok (.iload 11, 2) := by decide +kernel
theorem dX1_soonestBy_97 : decode cX1_soonestBy 97 = .ok (.aload_n 0, 1) := by decide +kernel
theorem dX1_soonestBy_98 : decode cX1_soonestBy 98 = .ok (.getfield 70, 3) := by decide +kernel
theorem dX1_soonestBy_101 : decode cX1_soonestBy 101 = .ok (.invokevirtual 89, 3) := by decide +kernel
theorem dX1_soonestBy_104 : decode cX1_soonestBy 104 = .ok (.if_icmp .ge 39, 3) := by decide +kernel
theorem dX1_soonestBy_107 : decode cX1_soonestBy 107 = .ok (.lload 6, 2) := by decide +kernel
theorem dX1_soonestBy_109 : decode cX1_soonestBy 109 = .ok (.iload 11, 2) := by decide +kernel
theorem dX1_soonestBy_111 : decode cX1_soonestBy 111 = .ok (.lushr, 1) := by decide +kernel
theorem dX1_soonestBy_112 : decode cX1_soonestBy 112 = .ok (.lconst 1, 1) := by decide +kernel
theorem dX1_soonestBy_113 : decode cX1_soonestBy 113 = .ok (.land, 1) := by decide +kernel
theorem dX1_soonestBy_114 : decode cX1_soonestBy 114 = .ok (.lconst 1, 1) := by decide +kernel
theorem dX1_soonestBy_115 : decode cX1_soonestBy 115 = .ok (.lcmp, 1) := by decide +kernel
theorem dX1_soonestBy_116 : decode cX1_soonestBy 116 = .ok (.ifCond .ne 21, 3) := by decide +kernel
theorem dX1_soonestBy_119 : decode cX1_soonestBy 119 = .ok (.aload_n 0, 1) := by decide +kernel
theorem dX1_soonestBy_120 : decode cX1_soonestBy 120 = .ok (.iload 11, 2) := by decide +kernel
theorem dX1_soonestBy_122 : decode cX1_soonestBy 122 = .ok (.invokevirtual 169, 3) := by decide +kernel
theorem dX1_soonestBy_125 : decode cX1_soonestBy 125 = .ok (.ifCond .eq 12, 3) := by decide +kernel
theorem dX1_soonestBy_128 : decode cX1_soonestBy 128 = .ok (.lload 9, 2) := by decide +kernel
theorem dX1_soonestBy_130 : decode cX1_soonestBy 130 = .ok (.lconst 1, 1) := by decide +kernel
theorem dX1_soonestBy_131 : decode cX1_soonestBy 131 = .ok (.iload 11, 2) := by decide +kernel
theorem dX1_soonestBy_133 : decode cX1_soonestBy 133 = .ok (.lshl, 1) := by decide +kernel
theorem dX1_soonestBy_134 : decode cX1_soonestBy 134 = .ok (.lor, 1) := by decide +kernel
theorem dX1_soonestBy_135 : decode cX1_soonestBy 135 = .ok (.lstore 9, 2) := by decide +kernel
theorem dX1_soonestBy_137 : decode cX1_soonestBy 137 = .ok (.iinc 11 1, 3) := by decide +kernel
theorem dX1_soonestBy_140 : decode cX1_soonestBy 140 = .ok (.goto (-45), 3) := by decide +kernel
theorem dX1_soonestBy_143 : decode cX1_soonestBy 143 = .ok (.aload_n 0, 1) := by decide +kernel
theorem dX1_soonestBy_144 : decode cX1_soonestBy 144 = .ok (.lload 9, 2) := by decide +kernel
theorem dX1_soonestBy_146 : decode cX1_soonestBy 146 = .ok (.invokevirtual 127, 3) := by decide +kernel
theorem dX1_soonestBy_149 : decode cX1_soonestBy 149 = .ok (.lload_n 2, 1) := by decide +kernel
theorem dX1_soonestBy_150 : decode cX1_soonestBy 150 = .ok (.land, 1) := by decide +kernel
theorem dX1_soonestBy_151 : decode cX1_soonestBy 151 = .ok (.lload 4, 2) := by decide +kernel
theorem dX1_soonestBy_153 : decode cX1_soonestBy 153 = .ok (.ldc2_w 131, 3) := by decide +kernel
theorem dX1_soonestBy_156 : decode cX1_soonestBy 156 = .ok (.lxor, 1) := by decide +kernel
theorem dX1_soonestBy_157 : decode cX1_soonestBy 157 = .ok (.land, 1) := by decide +kernel
theorem dX1_soonestBy_158 : decode cX1_soonestBy 158 = .ok (.lstore 6, 2) := by decide +kernel
theorem dX1_soonestBy_160 : decode cX1_soonestBy 160 = .ok (.iinc 8 1, 3) := by decide +kernel
theorem dX1_soonestBy_163 : decode cX1_soonestBy 163 = .ok (.goto (-88), 3) := by decide +kernel
theorem dX1_soonestBy_166 : decode cX1_soonestBy 166 = .ok (.aload_n 0, 1) := by decide +kernel
theorem dX1_soonestBy_167 : decode cX1_soonestBy 167 = .ok (.getfield 55, 3) := by decide +kernel
theorem dX1_soonestBy_170 : decode cX1_soonestBy 170 = .ok (.aload_n 0, 1) := by decide +kernel
theorem dX1_soonestBy_171 : decode cX1_soonestBy 171 = .ok (.getfield 58, 3) := by decide +kernel
theorem dX1_soonestBy_174 : decode cX1_soonestBy 174 = .ok (.if_icmp .ne 7, 3) := by decide +kernel
theorem dX1_soonestBy_177 : decode cX1_soonestBy 177 = .ok (.iconst 0, 1) := by decide +kernel
theorem dX1_soonestBy_178 : decode cX1_soonestBy 178 = .ok (.goto 20, 3) := by decide +kernel
theorem dX1_soonestBy_181 : decode cX1_soonestBy 181 = .ok (.aload_n 0, 1) := by decide +kernel
theorem dX1_soonestBy_182 : decode cX1_soonestBy 182 = .ok (.aload_n 0, 1) := by decide +kernel
theorem dX1_soonestBy_183 : decode cX1_soonestBy 183 = .ok (.getfield 55, 3) := by decide +kernel
theorem dX1_soonestBy_186 : decode cX1_soonestBy 186 = .ok (.aload_n 0, 1) := by decide +kernel
theorem dX1_soonestBy_187 : decode cX1_soonestBy 187 = .ok (.aload_n 0, 1) := by decide +kernel
theorem dX1_soonestBy_188 : decode cX1_soonestBy 188 = .ok (.getfield 55, 3) := by decide +kernel
theorem dX1_soonestBy_191 : decode cX1_soonestBy 191 = .ok (.iconst (-1), 1) := by decide +kernel
theorem dX1_soonestBy_192 : decode cX1_soonestBy 192 = .ok (.invokevirtual 172, 3) := by decide +kernel
theorem dX1_soonestBy_195 : decode cX1_soonestBy 195 = .ok (.invokevirtual 176, 3) := by decide +kernel
theorem dX1_soonestBy_198 : decode cX1_soonestBy 198 = .ok (.ireturn, 1) := by decide +kernel
theorem dX1_settle_0 : decode cX1_settle 0 = .ok (.iconst 0, 1) := by decide +kernel
theorem dX1_settle_1 : decode cX1_settle 1 = .ok (.istore_n 2, 1) := by decide +kernel
theorem dX1_settle_2 : decode cX1_settle 2 = .ok (.iconst 0, 1) := by decide +kernel
theorem dX1_settle_3 : decode cX1_settle 3 = .ok (.istore_n 3, 1) := by decide +kernel
theorem dX1_settle_4 : decode cX1_settle 4 = .ok (.iload_n 3, 1) := by decide +kernel
theorem dX1_settle_5 : decode cX1_settle 5 = .ok (.bipush 8, 2) := by decide +kernel
theorem dX1_settle_7 : decode cX1_settle 7 = .ok (.if_icmp .ge 88, 3) := by decide +kernel
theorem dX1_settle_10 : decode cX1_settle 10 = .ok (.aload_n 0, 1) := by decide +kernel
theorem dX1_settle_11 : decode cX1_settle 11 = .ok (.iload_n 1, 1) := by decide +kernel
theorem dX1_settle_12 : decode cX1_settle 12 = .ok (.iload_n 3, 1) := by decide +kernel
theorem dX1_settle_13 : decode cX1_settle 13 = .ok (.invokevirtual 176, 3) := by decide +kernel
theorem dX1_settle_16 : decode cX1_settle 16 = .ok (.istore 4, 2) := by decide +kernel
theorem dX1_settle_18 : decode cX1_settle 18 = .ok (.iload 4, 2) := by decide +kernel
theorem dX1_settle_20 : decode cX1_settle 20 = .ok (.ldc 154, 2) := by decide +kernel
theorem dX1_settle_22 : decode cX1_settle 22 = .ok (.if_icmp .ge 67, 3) := by decide +kernel
theorem dX1_settle_25 : decode cX1_settle 25 = .ok (.iconst 0, 1) := by decide +kernel
theorem dX1_settle_26 : decode cX1_settle 26 = .ok (.istore 5, 2) := by decide +kernel
theorem dX1_settle_28 : decode cX1_settle 28 = .ok (.iload 5, 2) := by decide +kernel
theorem dX1_settle_30 : decode cX1_settle 30 = .ok (.bipush 8, 2) := by decide +kernel
theorem dX1_settle_32 : decode cX1_settle 32 = .ok (.if_icmp .ge 57, 3) := by decide +kernel
theorem dX1_settle_35 : decode cX1_settle 35 = .ok (.iload 4, 2) := by decide +kernel
theorem dX1_settle_37 : decode cX1_settle 37 = .ok (.aload_n 0, 1) := by decide +kernel
theorem dX1_settle_38 : decode cX1_settle 38 = .ok (.getfield 70, 3) := by decide +kernel
theorem dX1_settle_41 : decode cX1_settle 41 = .ok (.iload 5, 2) := by decide +kernel
theorem dX1_settle_43 : decode cX1_settle 43 = .ok (.iload_n 3, 1) := by decide +kernel
theorem dX1_settle_44 : decode cX1_settle 44 = .ok (.invokevirtual 179, 3) := by decide +kernel
theorem dX1_settle_47 : decode cX1_settle 47 = .ok (.iadd, 1) := by decide +kernel
theorem dX1_settle_48 : decode cX1_settle 48 = .ok (.istore 6, 2) := by decide +kernel
theorem dX1_settle_50 : decode cX1_settle 50 = .ok (.iload 6, 2) := by decide +kernel
theorem dX1_settle_52 : decode cX1_settle 52 = .ok (.aload_n 0, 1) := by decide +kernel
theorem dX1_settle_53 : decode cX1_settle 53 = .ok (.getfield 30, 3) := by decide +kernel
theorem dX1_settle_56 : decode cX1_settle 56 = .ok (.iload_n 1, 1) := by decide +kernel
theorem dX1_settle_57 : decode cX1_settle 57 = .ok (.bipush 8, 2) := by decide +kernel
theorem dX1_settle_59 : decode cX1_settle 59 = .ok (.imul, 1) := by decide +kernel
theorem dX1_settle_60 : decode cX1_settle 60 = .ok (.iload 5, 2) := by decide +kernel
theorem dX1_settle_62 : decode cX1_settle 62 = .ok (.iadd, 1) := by decide +kernel
theorem dX1_settle_63 : decode cX1_settle 63 = .ok (.iaload, 1) := by decide +kernel
theorem dX1_settle_64 : decode cX1_settle 64 = .ok (.if_icmp .ge 19, 3) := by decide +kernel
theorem dX1_settle_67 : decode cX1_settle 67 = .ok (.aload_n 0, 1) := by decide +kernel
theorem dX1_settle_68 : decode cX1_settle 68 = .ok (.getfield 30, 3) := by decide +kernel
theorem dX1_settle_71 : decode cX1_settle 71 = .ok (.iload_n 1, 1) := by decide +kernel
theorem dX1_settle_72 : decode cX1_settle 72 = .ok (.bipush 8, 2) := by decide +kernel
theorem dX1_settle_74 : decode cX1_settle 74 = .ok (.imul, 1) := by decide +kernel
theorem dX1_settle_75 : decode cX1_settle 75 = .ok (.iload 5, 2) := by decide +kernel
theorem dX1_settle_77 : decode cX1_settle 77 = .ok (.iadd, 1) := by decide +kernel
theorem dX1_settle_78 : decode cX1_settle 78 = .ok (.iload 6, 2) := by decide +kernel
theorem dX1_settle_80 : decode cX1_settle 80 = .ok (.iastore, 1) := by decide +kernel
theorem dX1_settle_81 : decode cX1_settle 81 = .ok (.iconst 1, 1) := by decide +kernel
theorem dX1_settle_82 : decode cX1_settle 82 = .ok (.istore_n 2, 1) := by decide +kernel
theorem dX1_settle_83 : decode cX1_settle 83 = .ok (.iinc 5 1, 3) := by decide +kernel
theorem dX1_settle_86 : decode cX1_settle 86 = .ok (.goto (-58), 3) := by decide +kernel
theorem dX1_settle_89 : decode cX1_settle 89 = .ok (.iinc 3 1, 3) := by decide +kernel
theorem dX1_settle_92 : decode cX1_settle 92 = .ok (.goto (-88), 3) := by decide +kernel
theorem dX1_settle_95 : decode cX1_settle 95 = .ok (.iload_n 2, 1) := by decide +kernel
theorem dX1_settle_96 : decode cX1_settle 96 = .ok (.ireturn, 1) := by decide +kernel
theorem dX1_minutesBy_0 : decode cX1_minutesBy 0 = .ok (.aload_n 0, 1) := by decide +kernel
theorem dX1_minutesBy_1 : decode cX1_minutesBy 1 = .ok (.getfield 70, 3) := by decide +kernel
theorem dX1_minutesBy_4 : decode cX1_minutesBy 4 = .ok (.iload_n 1, 1) := by decide +kernel
theorem dX1_minutesBy_5 : decode cX1_minutesBy 5 = .ok (.iload_n 2, 1) := by decide +kernel
theorem dX1_minutesBy_6 : decode cX1_minutesBy 6 = .ok (.invokevirtual 182, 3) := by decide +kernel
theorem dX1_minutesBy_9 : decode cX1_minutesBy 9 = .ok (.istore_n 3, 1) := by decide +kernel
theorem dX1_minutesBy_10 : decode cX1_minutesBy 10 = .ok (.iload_n 3, 1) := by decide +kernel
theorem dX1_minutesBy_11 : decode cX1_minutesBy 11 = .ok (.iconst (-1), 1) := by decide +kernel
theorem dX1_minutesBy_12 : decode cX1_minutesBy 12 = .ok (.if_icmp .eq 19, 3) := by decide +kernel
theorem dX1_minutesBy_15 : decode cX1_minutesBy 15 = .ok (.aload_n 0, 1) := by decide +kernel
theorem dX1_minutesBy_16 : decode cX1_minutesBy 16 = .ok (.getfield 30, 3) := by decide +kernel
theorem dX1_minutesBy_19 : decode cX1_minutesBy 19 = .ok (.iload_n 3, 1) := by decide +kernel
theorem dX1_minutesBy_20 : decode cX1_minutesBy 20 = .ok (.bipush 8, 2) := by decide +kernel
theorem dX1_minutesBy_22 : decode cX1_minutesBy 22 = .ok (.imul, 1) := by decide +kernel
theorem dX1_minutesBy_23 : decode cX1_minutesBy 23 = .ok (.iload_n 2, 1) := by decide +kernel
theorem dX1_minutesBy_24 : decode cX1_minutesBy 24 = .ok (.iadd, 1) := by decide +kernel
theorem dX1_minutesBy_25 : decode cX1_minutesBy 25 = .ok (.iaload, 1) := by decide +kernel
theorem dX1_minutesBy_26 : decode cX1_minutesBy 26 = .ok (.ldc 154, 2) := by decide +kernel
theorem dX1_minutesBy_28 : decode cX1_minutesBy 28 = .ok (.if_icmp .lt 6, 3) := by decide +kernel
theorem dX1_minutesBy_31 : decode cX1_minutesBy 31 = .ok (.ldc 154, 2) := by decide +kernel
theorem dX1_minutesBy_33 : decode cX1_minutesBy 33 = .ok (.ireturn, 1) := by decide +kernel
theorem dX1_minutesBy_34 : decode cX1_minutesBy 34 = .ok (.aload_n 0, 1) := by decide +kernel
theorem dX1_minutesBy_35 : decode cX1_minutesBy 35 = .ok (.getfield 30, 3) := by decide +kernel
theorem dX1_minutesBy_38 : decode cX1_minutesBy 38 = .ok (.iload_n 3, 1) := by decide +kernel
theorem dX1_minutesBy_39 : decode cX1_minutesBy 39 = .ok (.bipush 8, 2) := by decide +kernel
theorem dX1_minutesBy_41 : decode cX1_minutesBy 41 = .ok (.imul, 1) := by decide +kernel
theorem dX1_minutesBy_42 : decode cX1_minutesBy 42 = .ok (.iload_n 2, 1) := by decide +kernel
theorem dX1_minutesBy_43 : decode cX1_minutesBy 43 = .ok (.iadd, 1) := by decide +kernel
theorem dX1_minutesBy_44 : decode cX1_minutesBy 44 = .ok (.iaload, 1) := by decide +kernel
theorem dX1_minutesBy_45 : decode cX1_minutesBy 45 = .ok (.aload_n 0, 1) := by decide +kernel
theorem dX1_minutesBy_46 : decode cX1_minutesBy 46 = .ok (.getfield 70, 3) := by decide +kernel
theorem dX1_minutesBy_49 : decode cX1_minutesBy 49 = .ok (.iload_n 2, 1) := by decide +kernel
theorem dX1_minutesBy_50 : decode cX1_minutesBy 50 = .ok (.invokevirtual 185, 3) := by decide +kernel
theorem dX1_minutesBy_53 : decode cX1_minutesBy 53 = .ok (.iadd, 1) := by decide +kernel
theorem dX1_minutesBy_54 : decode cX1_minutesBy 54 = .ok (.ireturn, 1) := by decide +kernel
theorem dX1_soonestHeading_0 : decode cX1_soonestHeading 0 = .ok (.getstatic 188, 3) := by decide +kernel
theorem dX1_soonestHeading_3 : decode cX1_soonestHeading 3 = .ok (.iconst 0, 1) := by decide +kernel
theorem dX1_soonestHeading_4 : decode cX1_soonestHeading 4 = .ok (.iaload, 1) := by decide +kernel
theorem dX1_soonestHeading_5 : decode cX1_soonestHeading 5 = .ok (.istore_n 3, 1) := by decide +kernel
theorem dX1_soonestHeading_6 : decode cX1_soonestHeading 6 = .ok (.ldc 154, 2) := by decide +kernel
theorem dX1_soonestHeading_8 : decode cX1_soonestHeading 8 = .ok (.istore 4, 2) := by decide +kernel
theorem dX1_soonestHeading_10 : decode cX1_soonestHeading 10 = .ok (.getstatic 188, 3) := by decide +kernel
theorem dX1_soonestHeading_13 : decode cX1_soonestHeading 13 = .ok (.astore 5, 2) := by decide +kernel
theorem dX1_soonestHeading_15 : decode cX1_soonestHeading 15 = .ok (.aload 5, 2) := by decide +kernel
theorem dX1_soonestHeading_17 : decode cX1_soonestHeading 17 = .ok (.arraylength, 1) := by decide +kernel
theorem dX1_soonestHeading_18 : decode cX1_soonestHeading 18 = .ok (.istore 6, 2) := by decide +kernel
theorem dX1_soonestHeading_20 : decode cX1_soonestHeading 20 = .ok (.iconst 0, 1) := by decide +kernel
theorem dX1_soonestHeading_21 : decode cX1_soonestHeading 21 = .ok (.istore 7, 2) := by decide +kernel
theorem dX1_soonestHeading_23 : decode cX1_soonestHeading 23 = .ok (.iload 7, 2) := by decide +kernel
theorem dX1_soonestHeading_25 : decode cX1_soonestHeading 25 = .ok (.iload 6, 2) := by decide +kernel
theorem dX1_soonestHeading_27 : decode cX1_soonestHeading 27 = .ok (.if_icmp .ge 50, 3) := by decide +kernel
theorem dX1_soonestHeading_30 : decode cX1_soonestHeading 30 = .ok (.aload 5, 2) := by decide +kernel
theorem dX1_soonestHeading_32 : decode cX1_soonestHeading 32 = .ok (.iload 7, 2) := by decide +kernel
theorem dX1_soonestHeading_34 : decode cX1_soonestHeading 34 = .ok (.iaload, 1) := by decide +kernel
theorem dX1_soonestHeading_35 : decode cX1_soonestHeading 35 = .ok (.istore 8, 2) := by decide +kernel
theorem dX1_soonestHeading_37 : decode cX1_soonestHeading 37 = .ok (.aload_n 0, 1) := by decide +kernel
theorem dX1_soonestHeading_38 : decode cX1_soonestHeading 38 = .ok (.iload_n 1, 1) := by decide +kernel
theorem dX1_soonestHeading_39 : decode cX1_soonestHeading 39 = .ok (.iload 8, 2) := by decide +kernel
theorem dX1_soonestHeading_41 : decode cX1_soonestHeading 41 = .ok (.invokevirtual 176, 3) := by decide +kernel
theorem dX1_soonestHeading_44 : decode cX1_soonestHeading 44 = .ok (.aload_n 0, 1) := by decide +kernel
theorem dX1_soonestHeading_45 : decode cX1_soonestHeading 45 = .ok (.getfield 70, 3) := by decide +kernel
theorem dX1_soonestHeading_48 : decode cX1_soonestHeading 48 = .ok (.iload_n 2, 1) := by decide +kernel
theorem dX1_soonestHeading_49 : decode cX1_soonestHeading 49 = .ok (.iload 8, 2) := by decide +kernel
theorem dX1_soonestHeading_51 : decode cX1_soonestHeading 51 = .ok (.invokevirtual 179, 3) := by decide +kernel
theorem dX1_soonestHeading_54 : decode cX1_soonestHeading 54 = .ok (.iadd, 1) := by decide +kernel
theorem dX1_soonestHeading_55 : decode cX1_soonestHeading 55 = .ok (.istore 9, 2) := by decide +kernel
theorem dX1_soonestHeading_57 : decode cX1_soonestHeading 57 = .ok (.iload 9, 2) := by decide +kernel
theorem dX1_soonestHeading_59 : decode cX1_soonestHeading 59 = .ok (.iload 4, 2) := by decide +kernel
theorem dX1_soonestHeading_61 : decode cX1_soonestHeading 61 = .ok (.if_icmp .ge 10, 3) := by decide +kernel
theorem dX1_soonestHeading_64 : decode cX1_soonestHeading 64 = .ok (.iload 8, 2) := by decide +kernel
theorem dX1_soonestHeading_66 : decode cX1_soonestHeading 66 = .ok (.istore_n 3, 1) := by decide +kernel
theorem dX1_soonestHeading_67 : decode cX1_soonestHeading 67 = .ok (.iload 9, 2) := by decide +kernel
theorem dX1_soonestHeading_69 : decode cX1_soonestHeading 69 = .ok (.istore 4, 2) := by decide +kernel
theorem dX1_soonestHeading_71 : decode cX1_soonestHeading 71 = .ok (.iinc 7 1, 3) := by decide +kernel
theorem dX1_soonestHeading_74 : decode cX1_soonestHeading 74 = .ok (.goto (-51), 3) := by decide +kernel
theorem dX1_soonestHeading_77 : decode cX1_soonestHeading 77 = .ok (.iload_n 3, 1) := by decide +kernel
theorem dX1_soonestHeading_78 : decode cX1_soonestHeading 78 = .ok (.ireturn, 1) := by decide +kernel
theorem dX1_keepWay_0 : decode cX1_keepWay 0 = .ok (.aload_n 0, 1) := by decide +kernel
theorem dX1_keepWay_1 : decode cX1_keepWay 1 = .ok (.iload_n 1, 1) := by decide +kernel
theorem dX1_keepWay_2 : decode cX1_keepWay 2 = .ok (.invokevirtual 155, 3) := by decide +kernel
theorem dX1_keepWay_5 : decode cX1_keepWay 5 = .ok (.istore_n 2, 1) := by decide +kernel
theorem dX1_keepWay_6 : decode cX1_keepWay 6 = .ok (.aload_n 0, 1) := by decide +kernel
theorem dX1_keepWay_7 : decode cX1_keepWay 7 = .ok (.getfield 55, 3) := by decide +kernel
theorem dX1_keepWay_10 : decode cX1_keepWay 10 = .ok (.istore_n 3, 1) := by decide +kernel
theorem dX1_keepWay_11 : decode cX1_keepWay 11 = .ok (.iconst (-1), 1) := by decide +kernel
theorem dX1_keepWay_12 : decode cX1_keepWay 12 = .ok (.istore 4, 2) := by decide +kernel
theorem dX1_keepWay_14 : decode cX1_keepWay 14 = .ok (.aload_n 0, 1) := by decide +kernel
theorem dX1_keepWay_15 : decode cX1_keepWay 15 = .ok (.iconst 1, 1) := by decide +kernel
theorem dX1_keepWay_16 : decode cX1_keepWay 16 = .ok (.putfield 36, 3) := by decide +kernel
theorem dX1_keepWay_19 : decode cX1_keepWay 19 = .ok (.aload_n 0, 1) := by decide +kernel
theorem dX1_keepWay_20 : decode cX1_keepWay 20 = .ok (.getfield 33, 3) := by decide +kernel
theorem dX1_keepWay_23 : decode cX1_keepWay 23 = .ok (.iconst 0, 1) := by decide +kernel
theorem dX1_keepWay_24 : decode cX1_keepWay 24 = .ok (.aload_n 0, 1) := by decide +kernel
theorem dX1_keepWay_25 : decode cX1_keepWay 25 = .ok (.getfield 55, 3) := by decide +kernel
theorem dX1_keepWay_28 : decode cX1_keepWay 28 = .ok (.iastore, 1) := by decide +kernel
theorem dX1_keepWay_29 : decode cX1_keepWay 29 = .ok (.iload_n 3, 1) := by decide +kernel
theorem dX1_keepWay_30 : decode cX1_keepWay 30 = .ok (.aload_n 0, 1) := by decide +kernel
theorem dX1_keepWay_31 : decode cX1_keepWay 31 = .ok (.getfield 58, 3) := by decide +kernel
theorem dX1_keepWay_34 : decode cX1_keepWay 34 = .ok (.if_icmp .eq 68, 3) := by decide +kernel
theorem dX1_keepWay_37 : decode cX1_keepWay 37 = .ok (.aload_n 0, 1) := by decide +kernel
theorem dX1_keepWay_38 : decode cX1_keepWay 38 = .ok (.getfield 36, 3) := by decide +kernel
theorem dX1_keepWay_41 : decode cX1_keepWay 41 = .ok (.bipush 60, 2) := by decide +kernel
theorem dX1_keepWay_43 : decode cX1_keepWay 43 = .ok (.if_icmp .ge 59, 3) := by decide +kernel
theorem dX1_keepWay_46 : decode cX1_keepWay 46 = .ok (.aload_n 0, 1) := by decide +kernel
theorem dX1_keepWay_47 : decode cX1_keepWay 47 = .ok (.iload_n 3, 1) := by decide +kernel
theorem dX1_keepWay_48 : decode cX1_keepWay 48 = .ok (.iload 4, 2) := by decide +kernel
theorem dX1_keepWay_50 : decode cX1_keepWay 50 = .ok (.invokevirtual 172, 3) := by decide +kernel
theorem dX1_keepWay_53 : decode cX1_keepWay 53 = .ok (.istore 4, 2) := by decide +kernel
theorem dX1_keepWay_55 : decode cX1_keepWay 55 = .ok (.aload_n 0, 1) := by decide +kernel
theorem dX1_keepWay_56 : decode cX1_keepWay 56 = .ok (.getfield 70, 3) := by decide +kernel
theorem dX1_keepWay_59 : decode cX1_keepWay 59 = .ok (.iload_n 3, 1) := by decide +kernel
theorem dX1_keepWay_60 : decode cX1_keepWay 60 = .ok (.iload 4, 2) := by decide +kernel
theorem dX1_keepWay_62 : decode cX1_keepWay 62 = .ok (.invokevirtual 182, 3) := by decide +kernel
theorem dX1_keepWay_65 : decode cX1_keepWay 65 = .ok (.istore 5, 2) := by decide +kernel
theorem dX1_keepWay_67 : decode cX1_keepWay 67 = .ok (.iload 5, 2) := by decide +kernel
theorem dX1_keepWay_69 : decode cX1_keepWay 69 = .ok (.iconst (-1), 1) := by decide +kernel
theorem dX1_keepWay_70 : decode cX1_keepWay 70 = .ok (.if_icmp .ne 6, 3) := by decide +kernel
theorem dX1_keepWay_73 : decode cX1_keepWay 73 = .ok (.goto 29, 3) := by decide +kernel
theorem dX1_keepWay_76 : decode cX1_keepWay 76 = .ok (.iload 5, 2) := by decide +kernel
theorem dX1_keepWay_78 : decode cX1_keepWay 78 = .ok (.istore_n 3, 1) := by decide +kernel
theorem dX1_keepWay_79 : decode cX1_keepWay 79 = .ok (.aload_n 0, 1) := by decide +kernel
theorem dX1_keepWay_80 : decode cX1_keepWay 80 = .ok (.getfield 33, 3) := by decide +kernel
theorem dX1_keepWay_83 : decode cX1_keepWay 83 = .ok (.aload_n 0, 1) := by decide +kernel
theorem dX1_keepWay_84 : decode cX1_keepWay 84 = .ok (.getfield 36, 3) := by decide +kernel
theorem dX1_keepWay_87 : decode cX1_keepWay 87 = .ok (.iload_n 3, 1) := by decide +kernel
theorem dX1_keepWay_88 : decode cX1_keepWay 88 = .ok (.iastore, 1) := by decide +kernel
theorem dX1_keepWay_89 : decode cX1_keepWay 89 = .ok (.aload_n 0, 1) := by decide +kernel
theorem dX1_keepWay_90 : decode cX1_keepWay 90 = .ok (.dup, 1) := by decide +kernel
theorem dX1_keepWay_91 : decode cX1_keepWay 91 = .ok (.getfield 36, 3) := by decide +kernel
theorem dX1_keepWay_94 : decode cX1_keepWay 94 = .ok (.iconst 1, 1) := by decide +kernel
theorem dX1_keepWay_95 : decode cX1_keepWay 95 = .ok (.iadd, 1) := by decide +kernel
theorem dX1_keepWay_96 : decode cX1_keepWay 96 = .ok (.putfield 36, 3) := by decide +kernel
theorem dX1_keepWay_99 : decode cX1_keepWay 99 = .ok (.goto (-70), 3) := by decide +kernel
theorem dX1_keepWay_102 : decode cX1_keepWay 102 = .ok (.iload_n 2, 1) := by decide +kernel
theorem dX1_keepWay_103 : decode cX1_keepWay 103 = .ok (.ireturn, 1) := by decide +kernel
theorem dX2_init_0 : decode cX2_init 0 = .ok (.aload_n 0, 1) := by decide +kernel
theorem dX2_init_1 : decode cX2_init 1 = .ok (.invokespecial 3, 3) := by decide +kernel
theorem dX2_init_4 : decode cX2_init 4 = .ok (.aload_n 0, 1) := by decide +kernel
theorem dX2_init_5 : decode cX2_init 5 = .ok (.bipush 60, 2) := by decide +kernel
theorem dX2_init_7 : decode cX2_init 7 = .ok (.newarray .int, 2) := by decide +kernel
theorem dX2_init_9 : decode cX2_init 9 = .ok (.putfield 9, 3) := by decide +kernel
theorem dX2_init_12 : decode cX2_init 12 = .ok (.aload_n 0, 1) := by decide +kernel
theorem dX2_init_13 : decode cX2_init 13 = .ok (.bipush 60, 2) := by decide +kernel
theorem dX2_init_15 : decode cX2_init 15 = .ok (.newarray .int, 2) := by decide +kernel
theorem dX2_init_17 : decode cX2_init 17 = .ok (.putfield 15, 3) := by decide +kernel
theorem dX2_init_20 : decode cX2_init 20 = .ok (.aload_n 0, 1) := by decide +kernel
theorem dX2_init_21 : decode cX2_init 21 = .ok (.bipush 12, 2) := by decide +kernel
theorem dX2_init_23 : decode cX2_init 23 = .ok (.newarray .int, 2) := by decide +kernel
theorem dX2_init_25 : decode cX2_init 25 = .ok (.putfield 18, 3) := by decide +kernel
theorem dX2_init_28 : decode cX2_init 28 = .ok (.aload_n 0, 1) := by decide +kernel
theorem dX2_init_29 : decode cX2_init 29 = .ok (.iconst 5, 1) := by decide +kernel
theorem dX2_init_30 : decode cX2_init 30 = .ok (.newarray .long, 2) := by decide +kernel
theorem dX2_init_32 : decode cX2_init 32 = .ok (.putfield 21, 3) := by decide +kernel
theorem dX2_init_35 : decode cX2_init 35 = .ok (.aload_n 0, 1) := by decide +kernel
theorem dX2_init_36 : decode cX2_init 36 = .ok (.iconst 5, 1) := by decide +kernel
theorem dX2_init_37 : decode cX2_init 37 = .ok (.newarray .int, 2) := by decide +kernel
theorem dX2_init_39 : decode cX2_init 39 = .ok (.putfield 25, 3) := by decide +kernel
theorem dX2_init_42 : decode cX2_init 42 = .ok (.aload_n 0, 1) := by decide +kernel
theorem dX2_init_43 : decode cX2_init 43 = .ok (.iconst 5, 1) := by decide +kernel
theorem dX2_init_44 : decode cX2_init 44 = .ok (.newarray .int, 2) := by decide +kernel
theorem dX2_init_46 : decode cX2_init 46 = .ok (.putfield 28, 3) := by decide +kernel
theorem dX2_init_49 : decode cX2_init 49 = .ok (.aload_n 0, 1) := by decide +kernel
theorem dX2_init_50 : decode cX2_init 50 = .ok (.iconst 5, 1) := by decide +kernel
theorem dX2_init_51 : decode cX2_init 51 = .ok (.newarray .int, 2) := by decide +kernel
theorem dX2_init_53 : decode cX2_init 53 = .ok (.putfield 31, 3) := by decide +kernel
theorem dX2_init_56 : decode cX2_init 56 = .ok (.aload_n 0, 1) := by decide +kernel
theorem dX2_init_57 : decode cX2_init 57 = .ok (.iconst 5, 1) := by decide +kernel
theorem dX2_init_58 : decode cX2_init 58 = .ok (.newarray .int, 2) := by decide +kernel
theorem dX2_init_60 : decode cX2_init 60 = .ok (.putfield 34, 3) := by decide +kernel
theorem dX2_init_63 : decode cX2_init 63 = .ok (.aload_n 0, 1) := by decide +kernel
theorem dX2_init_64 : decode cX2_init 64 = .ok (.iconst 5, 1) := by decide +kernel
theorem dX2_init_65 : decode cX2_init 65 = .ok (.newarray .int, 2) := by decide +kernel
theorem dX2_init_67 : decode cX2_init 67 = .ok (.putfield 37, 3) := by decide +kernel
theorem dX2_init_70 : decode cX2_init 70 = .ok (.aload_n 0, 1) := by decide +kernel
theorem dX2_init_71 : decode cX2_init 71 = .ok (.invokevirtual 40, 3) := by decide +kernel
theorem dX2_init_74 : decode cX2_init 74 = .ok (.return_, 1) := by decide +kernel
theorem dX2_clear_0 : decode cX2_clear 0 = .ok (.aload_n 0, 1) := by decide +kernel
theorem dX2_clear_1 : decode cX2_clear 1 = .ok (.iconst 0, 1) := by decide +kernel
theorem dX2_clear_2 : decode cX2_clear 2 = .ok (.putfield 43, 3) := by decide +kernel
theorem dX2_clear_5 : decode cX2_clear 5 = .ok (.aload_n 0, 1) := by decide +kernel
theorem dX2_clear_6 : decode cX2_clear 6 = .ok (.iconst 0, 1) := by decide +kernel
theorem dX2_clear_7 : decode cX2_clear 7 = .ok (.putfield 47, 3) := by decide +kernel
theorem dX2_clear_10 : decode cX2_clear 10 = .ok (.aload_n 0, 1) := by decide +kernel
theorem dX2_clear_11 : decode cX2_clear 11 = .ok (.iconst 0, 1) := by decide +kernel
theorem dX2_clear_12 : decode cX2_clear 12 = .ok (.putfield 50, 3) := by decide +kernel
theorem dX2_clear_15 : decode cX2_clear 15 = .ok (.aload_n 0, 1) := by decide +kernel
theorem dX2_clear_16 : decode cX2_clear 16 = .ok (.iconst 4, 1) := by decide +kernel
theorem dX2_clear_17 : decode cX2_clear 17 = .ok (.putfield 53, 3) := by decide +kernel
theorem dX2_clear_20 : decode cX2_clear 20 = .ok (.aload_n 0, 1) := by decide +kernel
theorem dX2_clear_21 : decode cX2_clear 21 = .ok (.iconst 0, 1) := by decide +kernel
theorem dX2_clear_22 : decode cX2_clear 22 = .ok (.putfield 56, 3) := by decide +kernel
theorem dX2_clear_25 : decode cX2_clear 25 = .ok (.aload_n 0, 1) := by decide +kernel
theorem dX2_clear_26 : decode cX2_clear 26 = .ok (.bipush 10, 2) := by decide +kernel
theorem dX2_clear_28 : decode cX2_clear 28 = .ok (.putfield 59, 3) := by decide +kernel
theorem dX2_clear_31 : decode cX2_clear 31 = .ok (.aload_n 0, 1) := by decide +kernel
theorem dX2_clear_32 : decode cX2_clear 32 = .ok (.bipush 14, 2) := by decide +kernel
theorem dX2_clear_34 : decode cX2_clear 34 = .ok (.putfield 62, 3) := by decide +kernel
theorem dX2_clear_37 : decode cX2_clear 37 = .ok (.aload_n 0, 1) := by decide +kernel
theorem dX2_clear_38 : decode cX2_clear 38 = .ok (.iconst 1, 1) := by decide +kernel
theorem dX2_clear_39 : decode cX2_clear 39 = .ok (.putfield 65, 3) := by decide +kernel
theorem dX2_clear_42 : decode cX2_clear 42 = .ok (.aload_n 0, 1) := by decide +kernel
theorem dX2_clear_43 : decode cX2_clear 43 = .ok (.bipush 120, 2) := by decide +kernel
theorem dX2_clear_45 : decode cX2_clear 45 = .ok (.putfield 68, 3) := by decide +kernel
theorem dX2_clear_48 : decode cX2_clear 48 = .ok (.aload_n 0, 1) := by decide +kernel
theorem dX2_clear_49 : decode cX2_clear 49 = .ok (.bipush 12, 2) := by decide +kernel
theorem dX2_clear_51 : decode cX2_clear 51 = .ok (.putfield 71, 3) := by decide +kernel
theorem dX2_clear_54 : decode cX2_clear 54 = .ok (.aload_n 0, 1) := by decide +kernel
theorem dX2_clear_55 : decode cX2_clear 55 = .ok (.bipush 11, 2) := by decide +kernel
theorem dX2_clear_57 : decode cX2_clear 57 = .ok (.putfield 74, 3) := by decide +kernel
theorem dX2_clear_60 : decode cX2_clear 60 = .ok (.aload_n 0, 1) := by decide +kernel
theorem dX2_clear_61 : decode cX2_clear 61 = .ok (.getfield 9, 3) := by decide +kernel
theorem dX2_clear_64 : decode cX2_clear 64 = .ok (.iconst 0, 1) := by decide +kernel
theorem dX2_clear_65 : decode cX2_clear 65 = .ok (.invokestatic 77, 3) := by decide +kernel
theorem dX2_clear_68 : decode cX2_clear 68 = .ok (.aload_n 0, 1) := by decide +kernel
theorem dX2_clear_69 : decode cX2_clear 69 = .ok (.getfield 15, 3) := by decide +kernel
theorem dX2_clear_72 : decode cX2_clear 72 = .ok (.iconst (-1), 1) := by decide +kernel
theorem dX2_clear_73 : decode cX2_clear 73 = .ok (.invokestatic 77, 3) := by decide +kernel
theorem dX2_clear_76 : decode cX2_clear 76 = .ok (.aload_n 0, 1) := by decide +kernel
theorem dX2_clear_77 : decode cX2_clear 77 = .ok (.getfield 18, 3) := by decide +kernel
theorem dX2_clear_80 : decode cX2_clear 80 = .ok (.iconst 0, 1) := by decide +kernel
theorem dX2_clear_81 : decode cX2_clear 81 = .ok (.invokestatic 77, 3) := by decide +kernel
theorem dX2_clear_84 : decode cX2_clear 84 = .ok (.return_, 1) := by decide +kernel
theorem dX2_copyFrom_0 : decode cX2_copyFrom 0 = .ok (.aload_n 0, 1) := by decide +kernel
theorem dX2_copyFrom_1 : decode cX2_copyFrom 1 = .ok (.aload_n 1, 1) := by decide +kernel
theorem dX2_copyFrom_2 : decode cX2_copyFrom 2 = .ok (.getfield 43, 3) := by decide +kernel
theorem dX2_copyFrom_5 : decode cX2_copyFrom 5 = .ok (.putfield 43, 3) := by decide +kernel
theorem dX2_copyFrom_8 : decode cX2_copyFrom 8 = .ok (.aload_n 0, 1) := by decide +kernel
theorem dX2_copyFrom_9 : decode cX2_copyFrom 9 = .ok (.aload_n 1, 1) := by decide +kernel
theorem dX2_copyFrom_10 : decode cX2_copyFrom 10 = .ok (.getfield 47, 3) := by decide +kernel
theorem dX2_copyFrom_13 : decode cX2_copyFrom 13 = .ok (.putfield 47, 3) := by decide +kernel
theorem dX2_copyFrom_16 : decode cX2_copyFrom 16 = .ok (.aload_n 0, 1) := by decide +kernel
theorem dX2_copyFrom_17 : decode cX2_copyFrom 17 = .ok (.aload_n 1, 1) := by decide +kernel
theorem dX2_copyFrom_18 : decode cX2_copyFrom 18 = .ok (.getfield 50, 3) := by decide +kernel
theorem dX2_copyFrom_21 : decode cX2_copyFrom 21 = .ok (.putfield 50, 3) := by decide +kernel
theorem dX2_copyFrom_24 : decode cX2_copyFrom 24 = .ok (.aload_n 0, 1) := by decide +kernel
theorem dX2_copyFrom_25 : decode cX2_copyFrom 25 = .ok (.aload_n 1, 1) := by decide +kernel
theorem dX2_copyFrom_26 : decode cX2_copyFrom 26 = .ok (.getfield 53, 3) := by decide +kernel
theorem dX2_copyFrom_29 : decode cX2_copyFrom 29 = .ok (.putfield 53, 3) := by decide +kernel
theorem dX2_copyFrom_32 : decode cX2_copyFrom 32 = .ok (.aload_n 0, 1) := by decide +kernel
theorem dX2_copyFrom_33 : decode cX2_copyFrom 33 = .ok (.aload_n 1, 1) := by decide +kernel
theorem dX2_copyFrom_34 : decode cX2_copyFrom 34 = .ok (.getfield 56, 3) := by decide +kernel
theorem dX2_copyFrom_37 : decode cX2_copyFrom 37 = .ok (.putfield 56, 3) := by decide +kernel
theorem dX2_copyFrom_40 : decode cX2_copyFrom 40 = .ok (.aload_n 0, 1) := by decide +kernel
theorem dX2_copyFrom_41 : decode cX2_copyFrom 41 = .ok (.aload_n 1, 1) := by decide +kernel
theorem dX2_copyFrom_42 : decode cX2_copyFrom 42 = .ok (.getfield 59, 3) := by decide +kernel
theorem dX2_copyFrom_45 : decode cX2_copyFrom 45 = .ok (.putfield 59, 3) := by decide +kernel
theorem dX2_copyFrom_48 : decode cX2_copyFrom 48 = .ok (.aload_n 0, 1) := by decide +kernel
theorem dX2_copyFrom_49 : decode cX2_copyFrom 49 = .ok (.aload_n 1, 1) := by decide +kernel
theorem dX2_copyFrom_50 : decode cX2_copyFrom 50 = .ok (.getfield 62, 3) := by decide +kernel
theorem dX2_copyFrom_53 : decode cX2_copyFrom 53 = .ok (.putfield 62, 3) := by decide +kernel
theorem dX2_copyFrom_56 : decode cX2_copyFrom 56 = .ok (.aload_n 0, 1) := by decide +kernel
theorem dX2_copyFrom_57 : decode cX2_copyFrom 57 = .ok (.aload_n 1, 1) := by decide +kernel
theorem dX2_copyFrom_58 : decode cX2_copyFrom 58 = .ok (.getfield 65, 3) := by decide +kernel
theorem dX2_copyFrom_61 : decode cX2_copyFrom 61 = .ok (.putfield 65, 3) := by decide +kernel
theorem dX2_copyFrom_64 : decode cX2_copyFrom 64 = .ok (.aload_n 0, 1) := by decide +kernel
theorem dX2_copyFrom_65 : decode cX2_copyFrom 65 = .ok (.aload_n 1, 1) := by decide +kernel
theorem dX2_copyFrom_66 : decode cX2_copyFrom 66 = .ok (.getfield 68, 3) := by decide +kernel
theorem dX2_copyFrom_69 : decode cX2_copyFrom 69 = .ok (.putfield 68, 3) := by decide +kernel
theorem dX2_copyFrom_72 : decode cX2_copyFrom 72 = .ok (.aload_n 0, 1) := by decide +kernel
theorem dX2_copyFrom_73 : decode cX2_copyFrom 73 = .ok (.aload_n 1, 1) := by decide +kernel
theorem dX2_copyFrom_74 : decode cX2_copyFrom 74 = .ok (.getfield 71, 3) := by decide +kernel
theorem dX2_copyFrom_77 : decode cX2_copyFrom 77 = .ok (.putfield 71, 3) := by decide +kernel
theorem dX2_copyFrom_80 : decode cX2_copyFrom 80 = .ok (.aload_n 0, 1) := by decide +kernel
theorem dX2_copyFrom_81 : decode cX2_copyFrom 81 = .ok (.aload_n 1, 1) := by decide +kernel
theorem dX2_copyFrom_82 : decode cX2_copyFrom 82 = .ok (.getfield 74, 3) := by decide +kernel
theorem dX2_copyFrom_85 : decode cX2_copyFrom 85 = .ok (.putfield 74, 3) := by decide +kernel
theorem dX2_copyFrom_88 : decode cX2_copyFrom 88 = .ok (.aload_n 1, 1) := by decide +kernel
theorem dX2_copyFrom_89 : decode cX2_copyFrom 89 = .ok (.getfield 9, 3) := by decide +kernel
theorem dX2_copyFrom_92 : decode cX2_copyFrom 92 = .ok (.iconst 0, 1) := by decide +kernel
theorem dX2_copyFrom_93 : decode cX2_copyFrom 93 = .ok (.aload_n 0, 1) := by decide +kernel
theorem dX2_copyFrom_94 : decode cX2_copyFrom 94 = .ok (.getfield 9, 3) := by decide +kernel
theorem dX2_copyFrom_97 : decode cX2_copyFrom 97 = .ok (.iconst 0, 1) := by decide +kernel
theorem dX2_copyFrom_98 : decode cX2_copyFrom 98 = .ok (.bipush 60, 2) := by decide +kernel
theorem dX2_copyFrom_100 : decode cX2_copyFrom 100 = .ok (.invokestatic 83, 3) := by decide +kernel
theorem dX2_copyFrom_103 : decode cX2_copyFrom 103 = .ok (.aload_n 1, 1) := by decide +kernel
theorem dX2_copyFrom_104 : decode cX2_copyFrom 104 = .ok (.getfield 15, 3) := by decide +kernel
theorem dX2_copyFrom_107 : decode cX2_copyFrom 107 = .ok (.iconst 0, 1) := by decide +kernel
theorem dX2_copyFrom_108 : decode cX2_copyFrom 108 = .ok (.aload_n 0, 1) := by decide +kernel
theorem dX2_copyFrom_109 : decode cX2_copyFrom 109 = .ok (.getfield 15, 3) := by decide +kernel
theorem dX2_copyFrom_112 : decode cX2_copyFrom 112 = .ok (.iconst 0, 1) := by decide +kernel
theorem dX2_copyFrom_113 : decode cX2_copyFrom 113 = .ok (.bipush 60, 2) := by decide +kernel
theorem dX2_copyFrom_115 : decode cX2_copyFrom 115 = .ok (.invokestatic 83, 3) := by decide +kernel
theorem dX2_copyFrom_118 : decode cX2_copyFrom 118 = .ok (.aload_n 1, 1) := by decide +kernel
theorem dX2_copyFrom_119 : decode cX2_copyFrom 119 = .ok (.getfield 18, 3) := by decide +kernel
theorem dX2_copyFrom_122 : decode cX2_copyFrom 122 = .ok (.iconst 0, 1) := by decide +kernel
theorem dX2_copyFrom_123 : decode cX2_copyFrom 123 = .ok (.aload_n 0, 1) := by decide +kernel
theorem dX2_copyFrom_124 : decode cX2_copyFrom 124 = .ok (.getfield 18, 3) := by decide +kernel
theorem dX2_copyFrom_127 : decode cX2_copyFrom 127 = .ok (.iconst 0, 1) := by decide +kernel
theorem dX2_copyFrom_128 : decode cX2_copyFrom 128 = .ok (.bipush 12, 2) := by decide +kernel
theorem dX2_copyFrom_130 : decode cX2_copyFrom 130 = .ok (.invokestatic 83, 3) := by decide +kernel
theorem dX2_copyFrom_133 : decode cX2_copyFrom 133 = .ok (.aload_n 1, 1) := by decide +kernel
theorem dX2_copyFrom_134 : decode cX2_copyFrom 134 = .ok (.getfield 21, 3) := by decide +kernel
theorem dX2_copyFrom_137 : decode cX2_copyFrom 137 = .ok (.iconst 0, 1) := by decide +kernel
theorem dX2_copyFrom_138 : decode cX2_copyFrom 138 = .ok (.aload_n 0, 1) := by decide +kernel
theorem dX2_copyFrom_139 : decode cX2_copyFrom 139 = .ok (.getfield 21, 3) := by decide +kernel
theorem dX2_copyFrom_142 : decode cX2_copyFrom 142 = .ok (.iconst 0, 1) := by decide +kernel
theorem dX2_copyFrom_143 : decode cX2_copyFrom 143 = .ok (.iconst 5, 1) := by decide +kernel
theorem dX2_copyFrom_144 : decode cX2_copyFrom 144 = .ok (.invokestatic 83, 3) := by decide +kernel
theorem dX2_copyFrom_147 : decode cX2_copyFrom 147 = .ok (.aload_n 1, 1) := by decide +kernel
theorem dX2_copyFrom_148 : decode cX2_copyFrom 148 = .ok (.getfield 25, 3) := by decide +kernel
theorem dX2_copyFrom_151 : decode cX2_copyFrom 151 = .ok (.iconst 0, 1) := by decide +kernel
theorem dX2_copyFrom_152 : decode cX2_copyFrom 152 = .ok (.aload_n 0, 1) := by decide +kernel
theorem dX2_copyFrom_153 : decode cX2_copyFrom 153 = .ok (.getfield 25, 3) := by decide +kernel
theorem dX2_copyFrom_156 : decode cX2_copyFrom 156 = .ok (.iconst 0, 1) := by decide +kernel
theorem dX2_copyFrom_157 : decode cX2_copyFrom 157 = .ok (.iconst 5, 1) := by decide +kernel
theorem dX2_copyFrom_158 : decode cX2_copyFrom 158 = .ok (.invokestatic 83, 3) := by decide +kernel
theorem dX2_copyFrom_161 : decode cX2_copyFrom 161 = .ok (.aload_n 1, 1) := by decide +kernel
theorem dX2_copyFrom_162 : decode cX2_copyFrom 162 = .ok (.getfield 28, 3) := by decide +kernel
theorem dX2_copyFrom_165 : decode cX2_copyFrom 165 = .ok (.iconst 0, 1) := by decide +kernel
theorem dX2_copyFrom_166 : decode cX2_copyFrom 166 = .ok (.aload_n 0, 1) := by decide +kernel
theorem dX2_copyFrom_167 : decode cX2_copyFrom 167 = .ok (.getfield 28, 3) := by decide +kernel
theorem dX2_copyFrom_170 : decode cX2_copyFrom 170 = .ok (.iconst 0, 1) := by decide +kernel
theorem dX2_copyFrom_171 : decode cX2_copyFrom 171 = .ok (.iconst 5, 1) := by decide +kernel
theorem dX2_copyFrom_172 : decode cX2_copyFrom 172 = .ok (.invokestatic 83, 3) := by decide +kernel
theorem dX2_copyFrom_175 : decode cX2_copyFrom 175 = .ok (.aload_n 1, 1) := by decide +kernel
theorem dX2_copyFrom_176 : decode cX2_copyFrom 176 = .ok (.getfield 31, 3) := by decide +kernel
theorem dX2_copyFrom_179 : decode cX2_copyFrom 179 = .ok (.iconst 0, 1) := by decide +kernel
theorem dX2_copyFrom_180 : decode cX2_copyFrom 180 = .ok (.aload_n 0, 1) := by decide +kernel
theorem dX2_copyFrom_181 : decode cX2_copyFrom 181 = .ok (.getfield 31, 3) := by decide +kernel
theorem dX2_copyFrom_184 : decode cX2_copyFrom 184 = .ok (.iconst 0, 1) := by decide +kernel
theorem dX2_copyFrom_185 : decode cX2_copyFrom 185 = .ok (.iconst 5, 1) := by decide +kernel
theorem dX2_copyFrom_186 : decode cX2_copyFrom 186 = .ok (.invokestatic 83, 3) := by decide +kernel
theorem dX2_copyFrom_189 : decode cX2_copyFrom 189 = .ok (.aload_n 1, 1) := by decide +kernel
theorem dX2_copyFrom_190 : decode cX2_copyFrom 190 = .ok (.getfield 34, 3) := by decide +kernel
theorem dX2_copyFrom_193 : decode cX2_copyFrom 193 = .ok (.iconst 0, 1) := by decide +kernel
theorem dX2_copyFrom_194 : decode cX2_copyFrom 194 = .ok (.aload_n 0, 1) := by decide +kernel
theorem dX2_copyFrom_195 : decode cX2_copyFrom 195 = .ok (.getfield 34, 3) := by decide +kernel
theorem dX2_copyFrom_198 : decode cX2_copyFrom 198 = .ok (.iconst 0, 1) := by decide +kernel
theorem dX2_copyFrom_199 : decode cX2_copyFrom 199 = .ok (.iconst 5, 1) := by decide +kernel
theorem dX2_copyFrom_200 : decode cX2_copyFrom 200 = .ok (.invokestatic 83, 3) := by decide +kernel
theorem dX2_copyFrom_203 : decode cX2_copyFrom 203 = .ok (.aload_n 1, 1) := by decide +kernel
theorem dX2_copyFrom_204 : decode cX2_copyFrom 204 = .ok (.getfield 37, 3) := by decide +kernel
theorem dX2_copyFrom_207 : decode cX2_copyFrom 207 = .ok (.iconst 0, 1) := by decide +kernel
theorem dX2_copyFrom_208 : decode cX2_copyFrom 208 = .ok (.aload_n 0, 1) := by decide +kernel
theorem dX2_copyFrom_209 : decode cX2_copyFrom 209 = .ok (.getfield 37, 3) := by decide +kernel
theorem dX2_copyFrom_212 : decode cX2_copyFrom 212 = .ok (.iconst 0, 1) := by decide +kernel
theorem dX2_copyFrom_213 : decode cX2_copyFrom 213 = .ok (.iconst 5, 1) := by decide +kernel
theorem dX2_copyFrom_214 : decode cX2_copyFrom 214 = .ok (.invokestatic 83, 3) := by decide +kernel
theorem dX2_copyFrom_217 : decode cX2_copyFrom 217 = .ok (.return_, 1) := by decide +kernel
theorem dX2_cellCount_0 : decode cX2_cellCount 0 = .ok (.aload_n 0, 1) := by decide +kernel
theorem dX2_cellCount_1 : decode cX2_cellCount 1 = .ok (.getfield 43, 3) := by decide +kernel
theorem dX2_cellCount_4 : decode cX2_cellCount 4 = .ok (.aload_n 0, 1) := by decide +kernel
theorem dX2_cellCount_5 : decode cX2_cellCount 5 = .ok (.getfield 47, 3) := by decide +kernel
theorem dX2_cellCount_8 : decode cX2_cellCount 8 = .ok (.imul, 1) := by decide +kernel
theorem dX2_cellCount_9 : decode cX2_cellCount 9 = .ok (.ireturn, 1) := by decide +kernel
theorem dX2_setCount_0 : decode cX2_setCount 0 = .ok (.iconst 1, 1) := by decide +kernel
theorem dX2_setCount_1 : decode cX2_setCount 1 = .ok (.aload_n 0, 1) := by decide +kernel
theorem dX2_setCount_2 : decode cX2_setCount 2 = .ok (.getfield 50, 3) := by decide +kernel
theorem dX2_setCount_5 : decode cX2_setCount 5 = .ok (.ishl, 1) := by decide +kernel
theorem dX2_setCount_6 : decode cX2_setCount 6 = .ok (.ireturn, 1) := by decide +kernel
theorem dX2_barNamed_0 : decode cX2_barNamed 0 = .ok (.iconst 0, 1) := by decide +kernel
theorem dX2_barNamed_1 : decode cX2_barNamed 1 = .ok (.istore_n 3, 1) := by decide +kernel
theorem dX2_barNamed_2 : decode cX2_barNamed 2 = .ok (.iload_n 3, 1) := by decide +kernel
theorem dX2_barNamed_3 : decode cX2_barNamed 3 = .ok (.aload_n 0, 1) := by decide +kernel
theorem dX2_barNamed_4 : decode cX2_barNamed 4 = .ok (.getfield 50, 3) := by decide +kernel
theorem dX2_barNamed_7 : decode cX2_barNamed 7 = .ok (.if_icmp .ge 22, 3) := by decide +kernel
theorem dX2_barNamed_10 : decode cX2_barNamed 10 = .ok (.aload_n 0, 1) := by decide +kernel
theorem dX2_barNamed_11 : decode cX2_barNamed 11 = .ok (.getfield 21, 3) := by decide +kernel
theorem dX2_barNamed_14 : decode cX2_barNamed 14 = .ok (.iload_n 3, 1) := by decide +kernel
theorem dX2_barNamed_15 : decode cX2_barNamed 15 = .ok (.laload, 1) := by decide +kernel
theorem dX2_barNamed_16 : decode cX2_barNamed 16 = .ok (.lload_n 1, 1) := by decide +kernel
theorem dX2_barNamed_17 : decode cX2_barNamed 17 = .ok (.lcmp, 1) := by decide +kernel
theorem dX2_barNamed_18 : decode cX2_barNamed 18 = .ok (.ifCond .ne 5, 3) := by decide +kernel
theorem dX2_barNamed_21 : decode cX2_barNamed 21 = .ok (.iload_n 3, 1) := by decide +kernel
theorem dX2_barNamed_22 : decode cX2_barNamed 22 = .ok (.ireturn, 1) := by decide +kernel
theorem dX2_barNamed_23 : decode cX2_barNamed 23 = .ok (.iinc 3 1, 3) := by decide +kernel
theorem dX2_barNamed_26 : decode cX2_barNamed 26 = .ok (.goto (-24), 3) := by decide +kernel
theorem dX2_barNamed_29 : decode cX2_barNamed 29 = .ok (.iconst (-1), 1) := by decide +kernel
theorem dX2_barNamed_30 : decode cX2_barNamed 30 = .ok (.ireturn, 1) := by decide +kernel
theorem dX2_cellsOf_0 : decode cX2_cellsOf 0 = .ok (.iconst 0, 1) := by decide +kernel
theorem dX2_cellsOf_1 : decode cX2_cellsOf 1 = .ok (.istore_n 2, 1) := by decide +kernel
theorem dX2_cellsOf_2 : decode cX2_cellsOf 2 = .ok (.iconst 0, 1) := by decide +kernel
theorem dX2_cellsOf_3 : decode cX2_cellsOf 3 = .ok (.istore_n 3, 1) := by decide +kernel
theorem dX2_cellsOf_4 : decode cX2_cellsOf 4 = .ok (.iload_n 3, 1) := by decide +kernel
theorem dX2_cellsOf_5 : decode cX2_cellsOf 5 = .ok (.aload_n 0, 1) := by decide +kernel
theorem dX2_cellsOf_6 : decode cX2_cellsOf 6 = .ok (.invokevirtual 89, 3) := by decide +kernel
theorem dX2_cellsOf_9 : decode cX2_cellsOf 9 = .ok (.if_icmp .ge 22, 3) := by decide +kernel
theorem dX2_cellsOf_12 : decode cX2_cellsOf 12 = .ok (.aload_n 0, 1) := by decide +kernel
theorem dX2_cellsOf_13 : decode cX2_cellsOf 13 = .ok (.getfield 15, 3) := by decide +kernel
theorem dX2_cellsOf_16 : decode cX2_cellsOf 16 = .ok (.iload_n 3, 1) := by decide +kernel
theorem dX2_cellsOf_17 : decode cX2_cellsOf 17 = .ok (.iaload, 1) := by decide +kernel
theorem dX2_cellsOf_18 : decode cX2_cellsOf 18 = .ok (.iload_n 1, 1) := by decide +kernel
theorem dX2_cellsOf_19 : decode cX2_cellsOf 19 = .ok (.if_icmp .ne 6, 3) := by decide +kernel
theorem dX2_cellsOf_22 : decode cX2_cellsOf 22 = .ok (.iinc 2 1, 3) := by decide +kernel
theorem dX2_cellsOf_25 : decode cX2_cellsOf 25 = .ok (.iinc 3 1, 3) := by decide +kernel
theorem dX2_cellsOf_28 : decode cX2_cellsOf 28 = .ok (.goto (-24), 3) := by decide +kernel
theorem dX2_cellsOf_31 : decode cX2_cellsOf 31 = .ok (.iload_n 2, 1) := by decide +kernel
theorem dX2_cellsOf_32 : decode cX2_cellsOf 32 = .ok (.ireturn, 1) := by decide +kernel
theorem dX2_stageOn_0 : decode cX2_stageOn 0 = .ok (.iload_n 1, 1) := by decide +kernel
theorem dX2_stageOn_1 : decode cX2_stageOn 1 = .ok (.ifCond .lt 18, 3) := by decide +kernel
theorem dX2_stageOn_4 : decode cX2_stageOn 4 = .ok (.iload_n 1, 1) := by decide +kernel
theorem dX2_stageOn_5 : decode cX2_stageOn 5 = .ok (.bipush 12, 2) := by decide +kernel
theorem dX2_stageOn_7 : decode cX2_stageOn 7 = .ok (.if_icmp .ge 12, 3) := by decide +kernel
theorem dX2_stageOn_10 : decode cX2_stageOn 10 = .ok (.aload_n 0, 1) := by decide +kernel
theorem dX2_stageOn_11 : decode cX2_stageOn 11 = .ok (.getfield 18, 3) := by decide +kernel
theorem dX2_stageOn_14 : decode cX2_stageOn 14 = .ok (.iload_n 1, 1) := by decide +kernel
theorem dX2_stageOn_15 : decode cX2_stageOn 15 = .ok (.iaload, 1) := by decide +kernel
theorem dX2_stageOn_16 : decode cX2_stageOn 16 = .ok (.goto 4, 3) := by decide +kernel
theorem dX2_stageOn_19 : decode cX2_stageOn 19 = .ok (.iconst 0, 1) := by decide +kernel
theorem dX2_stageOn_20 : decode cX2_stageOn 20 = .ok (.ireturn, 1) := by decide +kernel
theorem dX2_depthAt_0 : decode cX2_depthAt 0 = .ok (.aload_n 0, 1) := by decide +kernel
theorem dX2_depthAt_1 : decode cX2_depthAt 1 = .ok (.getfield 15, 3) := by decide +kernel
theorem dX2_depthAt_4 : decode cX2_depthAt 4 = .ok (.iload_n 2, 1) := by decide +kernel
theorem dX2_depthAt_5 : decode cX2_depthAt 5 = .ok (.iaload, 1) := by decide +kernel
theorem dX2_depthAt_6 : decode cX2_depthAt 6 = .ok (.istore 4, 2) := by decide +kernel
theorem dX2_depthAt_8 : decode cX2_depthAt 8 = .ok (.iload 4, 2) := by decide +kernel
theorem dX2_depthAt_10 : decode cX2_depthAt 10 = .ok (.iconst (-1), 1) := by decide +kernel
theorem dX2_depthAt_11 : decode cX2_depthAt 11 = .ok (.if_icmp .eq 23, 3) := by decide +kernel
theorem dX2_depthAt_14 : decode cX2_depthAt 14 = .ok (.iload_n 3, 1) := by decide +kernel
theorem dX2_depthAt_15 : decode cX2_depthAt 15 = .ok (.iload 4, 2) := by decide +kernel
theorem dX2_depthAt_17 : decode cX2_depthAt 17 = .ok (.ishr, 1) := by decide +kernel
theorem dX2_depthAt_18 : decode cX2_depthAt 18 = .ok (.iconst 1, 1) := by decide +kernel
theorem dX2_depthAt_19 : decode cX2_depthAt 19 = .ok (.iand, 1) := by decide +kernel
theorem dX2_depthAt_20 : decode cX2_depthAt 20 = .ok (.iconst 1, 1) := by decide +kernel
theorem dX2_depthAt_21 : decode cX2_depthAt 21 = .ok (.if_icmp .ne 13, 3) := by decide +kernel
theorem dX2_depthAt_24 : decode cX2_depthAt 24 = .ok (.aload_n 0, 1) := by decide +kernel
theorem dX2_depthAt_25 : decode cX2_depthAt 25 = .ok (.getfield 25, 3) := by decide +kernel
theorem dX2_depthAt_28 : decode cX2_depthAt 28 = .ok (.iload 4, 2) := by decide +kernel
theorem dX2_depthAt_30 : decode cX2_depthAt 30 = .ok (.iaload, 1) := by decide +kernel
theorem dX2_depthAt_31 : decode cX2_depthAt 31 = .ok (.goto 4, 3) := by decide +kernel
theorem dX2_depthAt_34 : decode cX2_depthAt 34 = .ok (.iconst 0, 1) := by decide +kernel
theorem dX2_depthAt_35 : decode cX2_depthAt 35 = .ok (.istore 5, 2) := by decide +kernel
theorem dX2_depthAt_37 : decode cX2_depthAt 37 = .ok (.aload_n 0, 1) := by decide +kernel
theorem dX2_depthAt_38 : decode cX2_depthAt 38 = .ok (.getfield 9, 3) := by decide +kernel
theorem dX2_depthAt_41 : decode cX2_depthAt 41 = .ok (.iload_n 2, 1) := by decide +kernel
theorem dX2_depthAt_42 : decode cX2_depthAt 42 = .ok (.iaload, 1) := by decide +kernel
theorem dX2_depthAt_43 : decode cX2_depthAt 43 = .ok (.iload_n 1, 1) := by decide +kernel
theorem dX2_depthAt_44 : decode cX2_depthAt 44 = .ok (.iadd, 1) := by decide +kernel
theorem dX2_depthAt_45 : decode cX2_depthAt 45 = .ok (.iload 5, 2) := by decide +kernel
theorem dX2_depthAt_47 : decode cX2_depthAt 47 = .ok (.isub, 1) := by decide +kernel
theorem dX2_depthAt_48 : decode cX2_depthAt 48 = .ok (.ireturn, 1) := by decide +kernel
theorem dX2_likelyRead_0 : decode cX2_likelyRead 0 = .ok (.iload_n 1, 1) := by decide +kernel
theorem dX2_likelyRead_1 : decode cX2_likelyRead 1 = .ok (.iload_n 2, 1) := by decide +kernel
theorem dX2_likelyRead_2 : decode cX2_likelyRead 2 = .ok (.if_icmp .ne 10, 3) := by decide +kernel
theorem dX2_likelyRead_5 : decode cX2_likelyRead 5 = .ok (.iconst 2, 1) := by decide +kernel
theorem dX2_likelyRead_6 : decode cX2_likelyRead 6 = .ok (.aload_n 0, 1) := by decide +kernel
theorem dX2_likelyRead_7 : decode cX2_likelyRead 7 = .ok (.getfield 71, 3) := by decide +kernel
theorem dX2_likelyRead_10 : decode cX2_likelyRead 10 = .ok (.imul, 1) := by decide +kernel
theorem dX2_likelyRead_11 : decode cX2_likelyRead 11 = .ok (.ireturn, 1) := by decide +kernel
theorem dX2_likelyRead_12 : decode cX2_likelyRead 12 = .ok (.iload_n 1, 1) := by decide +kernel
theorem dX2_likelyRead_13 : decode cX2_likelyRead 13 = .ok (.iload_n 2, 1) := by decide +kernel
theorem dX2_likelyRead_14 : decode cX2_likelyRead 14 = .ok (.iconst 1, 1) := by decide +kernel
theorem dX2_likelyRead_15 : decode cX2_likelyRead 15 = .ok (.iadd, 1) := by decide +kernel
theorem dX2_likelyRead_16 : decode cX2_likelyRead 16 = .ok (.if_icmp .eq 10, 3) := by decide +kernel
theorem dX2_likelyRead_19 : decode cX2_likelyRead 19 = .ok (.iload_n 1, 1) := by decide +kernel
theorem dX2_likelyRead_20 : decode cX2_likelyRead 20 = .ok (.iload_n 2, 1) := by decide +kernel
theorem dX2_likelyRead_21 : decode cX2_likelyRead 21 = .ok (.iconst 1, 1) := by decide +kernel
theorem dX2_likelyRead_22 : decode cX2_likelyRead 22 = .ok (.isub, 1) := by decide +kernel
theorem dX2_likelyRead_23 : decode cX2_likelyRead 23 = .ok (.if_icmp .ne 13, 3) := by decide +kernel
theorem dX2_likelyRead_26 : decode cX2_likelyRead 26 = .ok (.bipush 16, 2) := by decide +kernel
theorem dX2_likelyRead_28 : decode cX2_likelyRead 28 = .ok (.aload_n 0, 1) := by decide +kernel
theorem dX2_likelyRead_29 : decode cX2_likelyRead 29 = .ok (.getfield 71, 3) := by decide +kernel
theorem dX2_likelyRead_32 : decode cX2_likelyRead 32 = .ok (.isub, 1) := by decide +kernel
theorem dX2_likelyRead_33 : decode cX2_likelyRead 33 = .ok (.goto 4, 3) := by decide +kernel
theorem dX2_likelyRead_36 : decode cX2_likelyRead 36 = .ok (.iconst 0, 1) := by decide +kernel
theorem dX2_likelyRead_37 : decode cX2_likelyRead 37 = .ok (.ireturn, 1) := by decide +kernel
theorem dX2_beside_0 : decode cX2_beside 0 = .ok (.aload_n 0, 1) := by decide +kernel
theorem dX2_beside_1 : decode cX2_beside 1 = .ok (.getfield 43, 3) := by decide +kernel
theorem dX2_beside_4 : decode cX2_beside 4 = .ok (.ifCond .gt 5, 3) := by decide +kernel
theorem dX2_beside_7 : decode cX2_beside 7 = .ok (.iconst (-1), 1) := by decide +kernel
theorem dX2_beside_8 : decode cX2_beside 8 = .ok (.ireturn, 1) := by decide +kernel
theorem dX2_beside_9 : decode cX2_beside 9 = .ok (.iload_n 1, 1) := by decide +kernel
theorem dX2_beside_10 : decode cX2_beside 10 = .ok (.aload_n 0, 1) := by decide +kernel
theorem dX2_beside_11 : decode cX2_beside 11 = .ok (.getfield 43, 3) := by decide +kernel
theorem dX2_beside_14 : decode cX2_beside 14 = .ok (.irem, 1) := by decide +kernel
theorem dX2_beside_15 : decode cX2_beside 15 = .ok (.getstatic 93, 3) := by decide +kernel
theorem dX2_beside_18 : decode cX2_beside 18 = .ok (.iload_n 2, 1) := by decide +kernel
theorem dX2_beside_19 : decode cX2_beside 19 = .ok (.bipush 7, 2) := by decide +kernel
theorem dX2_beside_21 : decode cX2_beside 21 = .ok (.iand, 1) := by decide +kernel
theorem dX2_beside_22 : decode cX2_beside 22 = .ok (.iaload, 1) := by decide +kernel
theorem dX2_beside_23 : decode cX2_beside 23 = .ok (.iadd, 1) := by decide +kernel
theorem dX2_beside_24 : decode cX2_beside 24 = .ok (.istore_n 3, 1) := by decide +kernel
theorem dX2_beside_25 : decode cX2_beside 25 = .ok (.iload_n 1, 1) := by decide +kernel
theorem dX2_beside_26 : decode cX2_beside 26 = .ok (.aload_n 0, 1) := by decide +kernel
theorem dX2_beside_27 : decode cX2_beside 27 = .ok (.getfield 43, 3) := by decide +kernel
theorem dX2_beside_30 : decode cX2_beside 30 = .ok (.idiv, 1) := by decide +kernel
theorem dX2_beside_31 : decode cX2_beside 31 = .ok (.getstatic 96, 3) := by decide +kernel
theorem dX2_beside_34 : decode cX2_beside 34 = .ok (.iload_n 2, 1) := by decide +kernel
theorem dX2_beside_35 : decode cX2_beside 35 = .ok (.bipush 7, 2) := by decide +kernel
theorem dX2_beside_37 : decode cX2_beside 37 = .ok (.iand, 1) := by decide +kernel
theorem dX2_beside_38 : decode cX2_beside 38 = .ok (.iaload, 1) := by decide +kernel
theorem dX2_beside_39 : decode cX2_beside 39 = .ok (.iadd, 1) := by decide +kernel
theorem dX2_beside_40 : decode cX2_beside 40 = .ok (.istore 4, 2) := by decide +kernel
theorem dX2_beside_42 : decode cX2_beside 42 = .ok (.iload_n 3, 1) := by decide +kernel
theorem dX2_beside_43 : decode cX2_beside 43 = .ok (.ifCond .lt 37, 3) := by decide +kernel
theorem dX2_beside_46 : decode cX2_beside 46 = .ok (.iload_n 3, 1) := by decide +kernel
theorem dX2_beside_47 : decode cX2_beside 47 = .ok (.aload_n 0, 1) := by decide +kernel
theorem dX2_beside_48 : decode cX2_beside 48 = .ok (.getfield 43, 3) := by decide +kernel
theorem dX2_beside_51 : decode cX2_beside 51 = .ok (.if_icmp .ge 29, 3) := by decide +kernel
theorem dX2_beside_54 : decode cX2_beside 54 = .ok (.iload 4, 2) := by decide +kernel
theorem dX2_beside_56 : decode cX2_beside 56 = .ok (.ifCond .lt 24, 3) := by decide +kernel
theorem dX2_beside_59 : decode cX2_beside 59 = .ok (.iload 4, 2) := by decide +kernel
theorem dX2_beside_61 : decode cX2_beside 61 = .ok (.aload_n 0, 1) := by decide +kernel
theorem dX2_beside_62 : decode cX2_beside 62 = .ok (.getfield 47, 3) := by decide +kernel
theorem dX2_beside_65 : decode cX2_beside 65 = .ok (.if_icmp .ge 15, 3) := by decide +kernel
theorem dX2_beside_68 : decode cX2_beside 68 = .ok (.iload 4, 2) := by decide +kernel
theorem dX2_beside_70 : decode cX2_beside 70 = .ok (.aload_n 0, 1) := by decide +kernel
theorem dX2_beside_71 : decode cX2_beside 71 = .ok (.getfield 43, 3) := by decide +kernel
theorem dX2_beside_74 : decode cX2_beside 74 = .ok (.imul, 1) := by decide +kernel
theorem dX2_beside_75 : decode cX2_beside 75 = .ok (.iload_n 3, 1) := by decide +kernel
theorem dX2_beside_76 : decode cX2_beside 76 = .ok (.iadd, 1) := by decide +kernel
theorem dX2_beside_77 : decode cX2_beside 77 = .ok (.goto 4, 3) := by decide +kernel
theorem dX2_beside_80 : decode cX2_beside 80 = .ok (.iconst (-1), 1) := by decide +kernel
theorem dX2_beside_81 : decode cX2_beside 81 = .ok (.ireturn, 1) := by decide +kernel
theorem dX2_headingTo_0 : decode cX2_headingTo 0 = .ok (.iconst 0, 1) := by decide +kernel
theorem dX2_headingTo_1 : decode cX2_headingTo 1 = .ok (.istore 4, 2) := by decide +kernel
theorem dX2_headingTo_3 : decode cX2_headingTo 3 = .ok (.iload 4, 2) := by decide +kernel
theorem dX2_headingTo_5 : decode cX2_headingTo 5 = .ok (.bipush 8, 2) := by decide +kernel
theorem dX2_headingTo_7 : decode cX2_headingTo 7 = .ok (.if_icmp .ge 35, 3) := by decide +kernel
theorem dX2_headingTo_10 : decode cX2_headingTo 10 = .ok (.aload_n 0, 1) := by decide +kernel
theorem dX2_headingTo_11 : decode cX2_headingTo 11 = .ok (.iload_n 1, 1) := by decide +kernel
theorem dX2_headingTo_12 : decode cX2_headingTo 12 = .ok (.iload 4, 2) := by decide +kernel
theorem dX2_headingTo_14 : decode cX2_headingTo 14 = .ok (.invokevirtual 99, 3) := by decide +kernel
theorem dX2_headingTo_17 : decode cX2_headingTo 17 = .ok (.istore 5, 2) := by decide +kernel
theorem dX2_headingTo_19 : decode cX2_headingTo 19 = .ok (.iload 5, 2) := by decide +kernel
theorem dX2_headingTo_21 : decode cX2_headingTo 21 = .ok (.iconst (-1), 1) := by decide +kernel
theorem dX2_headingTo_22 : decode cX2_headingTo 22 = .ok (.if_icmp .eq 14, 3) := by decide +kernel
theorem dX2_headingTo_25 : decode cX2_headingTo 25 = .ok (.iload 5, 2) := by decide +kernel
theorem dX2_headingTo_27 : decode cX2_headingTo 27 = .ok (.i2l, 1) := by decide +kernel
theorem dX2_headingTo_28 : decode cX2_headingTo 28 = .ok (.lload_n 2, 1) := by decide +kernel
theorem dX2_headingTo_29 : decode cX2_headingTo 29 = .ok (.lcmp, 1) := by decide +kernel
theorem dX2_headingTo_30 : decode cX2_headingTo 30 = .ok (.ifCond .ne 6, 3) := by decide +kernel
theorem dX2_headingTo_33 : decode cX2_headingTo 33 = .ok (.iload 4, 2) := by decide +kernel
theorem dX2_headingTo_35 : decode cX2_headingTo 35 = .ok (.ireturn, 1) := by decide +kernel
theorem dX2_headingTo_36 : decode cX2_headingTo 36 = .ok (.iinc 4 1, 3) := by decide +kernel
theorem dX2_headingTo_39 : decode cX2_headingTo 39 = .ok (.goto (-36), 3) := by decide +kernel
theorem dX2_headingTo_42 : decode cX2_headingTo 42 = .ok (.iconst (-1), 1) := by decide +kernel
theorem dX2_headingTo_43 : decode cX2_headingTo 43 = .ok (.ireturn, 1) := by decide +kernel
theorem dX2_stepMinutes_0 : decode cX2_stepMinutes 0 = .ok (.iload_n 1, 1) := by decide +kernel
theorem dX2_stepMinutes_1 : decode cX2_stepMinutes 1 = .ok (.iconst 1, 1) := by decide +kernel
theorem dX2_stepMinutes_2 : decode cX2_stepMinutes 2 = .ok (.iand, 1) := by decide +kernel
theorem dX2_stepMinutes_3 : decode cX2_stepMinutes 3 = .ok (.ifCond .ne 10, 3) := by decide +kernel
theorem dX2_stepMinutes_6 : decode cX2_stepMinutes 6 = .ok (.aload_n 0, 1) := by decide +kernel
theorem dX2_stepMinutes_7 : decode cX2_stepMinutes 7 = .ok (.getfield 59, 3) := by decide +kernel
theorem dX2_stepMinutes_10 : decode cX2_stepMinutes 10 = .ok (.goto 7, 3) := by decide +kernel
theorem dX2_stepMinutes_13 : decode cX2_stepMinutes 13 = .ok (.aload_n 0, 1) := by decide +kernel
theorem dX2_stepMinutes_14 : decode cX2_stepMinutes 14 = .ok (.getfield 62, 3) := by decide +kernel
theorem dX2_stepMinutes_17 : decode cX2_stepMinutes 17 = .ok (.ireturn, 1) := by decide +kernel
theorem dX2_turnMinutes_0 : decode cX2_turnMinutes 0 = .ok (.iload_n 1, 1) := by decide +kernel
theorem dX2_turnMinutes_1 : decode cX2_turnMinutes 1 = .ok (.iconst (-1), 1) := by decide +kernel
theorem dX2_turnMinutes_2 : decode cX2_turnMinutes 2 = .ok (.if_icmp .ne 5, 3) := by decide +kernel
theorem dX2_turnMinutes_5 : decode cX2_turnMinutes 5 = .ok (.iconst 0, 1) := by decide +kernel
theorem dX2_turnMinutes_6 : decode cX2_turnMinutes 6 = .ok (.ireturn, 1) := by decide +kernel
theorem dX2_turnMinutes_7 : decode cX2_turnMinutes 7 = .ok (.iload_n 2, 1) := by decide +kernel
theorem dX2_turnMinutes_8 : decode cX2_turnMinutes 8 = .ok (.iload_n 1, 1) := by decide +kernel
theorem dX2_turnMinutes_9 : decode cX2_turnMinutes 9 = .ok (.isub, 1) := by decide +kernel
theorem dX2_turnMinutes_10 : decode cX2_turnMinutes 10 = .ok (.bipush 7, 2) := by decide +kernel
theorem dX2_turnMinutes_12 : decode cX2_turnMinutes 12 = .ok (.iand, 1) := by decide +kernel
theorem dX2_turnMinutes_13 : decode cX2_turnMinutes 13 = .ok (.istore_n 3, 1) := by decide +kernel
theorem dX2_turnMinutes_14 : decode cX2_turnMinutes 14 = .ok (.aload_n 0, 1) := by decide +kernel
theorem dX2_turnMinutes_15 : decode cX2_turnMinutes 15 = .ok (.getfield 65, 3) := by decide +kernel
theorem dX2_turnMinutes_18 : decode cX2_turnMinutes 18 = .ok (.iload_n 3, 1) := by decide +kernel
theorem dX2_turnMinutes_19 : decode cX2_turnMinutes 19 = .ok (.iconst 4, 1) := by decide +kernel
theorem dX2_turnMinutes_20 : decode cX2_turnMinutes 20 = .ok (.if_icmp .le 10, 3) := by decide +kernel
theorem dX2_turnMinutes_23 : decode cX2_turnMinutes 23 = .ok (.bipush 8, 2) := by decide +kernel
theorem dX2_turnMinutes_25 : decode cX2_turnMinutes 25 = .ok (.iload_n 3, 1) := by decide +kernel
theorem dX2_turnMinutes_26 : decode cX2_turnMinutes 26 = .ok (.isub, 1) := by decide +kernel
theorem dX2_turnMinutes_27 : decode cX2_turnMinutes 27 = .ok (.goto 4, 3) := by decide +kernel
theorem dX2_turnMinutes_30 : decode cX2_turnMinutes 30 = .ok (.iload_n 3, 1) := by decide +kernel
theorem dX2_turnMinutes_31 : decode cX2_turnMinutes 31 = .ok (.imul, 1) := by decide +kernel
theorem dX2_turnMinutes_32 : decode cX2_turnMinutes 32 = .ok (.ireturn, 1) := by decide +kernel
theorem dX2_isWay_0 : decode cX2_isWay 0 = .ok (.iconst 0, 1) := by decide +kernel
theorem dX2_isWay_1 : decode cX2_isWay 1 = .ok (.istore_n 3, 1) := by decide +kernel
theorem dX2_isWay_2 : decode cX2_isWay 2 = .ok (.iload_n 3, 1) := by decide +kernel
theorem dX2_isWay_3 : decode cX2_isWay 3 = .ok (.iload_n 2, 1) := by decide +kernel
theorem dX2_isWay_4 : decode cX2_isWay 4 = .ok (.if_icmp .ge 54, 3) := by decide +kernel
theorem dX2_isWay_7 : decode cX2_isWay 7 = .ok (.aload_n 1, 1) := by decide +kernel
theorem dX2_isWay_8 : decode cX2_isWay 8 = .ok (.iload_n 3, 1) := by decide +kernel
theorem dX2_isWay_9 : decode cX2_isWay 9 = .ok (.laload, 1) := by decide +kernel
theorem dX2_isWay_10 : decode cX2_isWay 10 = .ok (.lconst 0, 1) := by decide +kernel
theorem dX2_isWay_11 : decode cX2_isWay 11 = .ok (.lcmp, 1) := by decide +kernel
theorem dX2_isWay_12 : decode cX2_isWay 12 = .ok (.ifCond .lt 15, 3) := by decide +kernel
theorem dX2_isWay_15 : decode cX2_isWay 15 = .ok (.aload_n 1, 1) := by decide +kernel
theorem dX2_isWay_16 : decode cX2_isWay 16 = .ok (.iload_n 3, 1) := by decide +kernel
theorem dX2_isWay_17 : decode cX2_isWay 17 = .ok (.laload, 1) := by decide +kernel
theorem dX2_isWay_18 : decode cX2_isWay 18 = .ok (.aload_n 0, 1) := by decide +kernel
theorem dX2_isWay_19 : decode cX2_isWay 19 = .ok (.invokevirtual 89, 3) := by decide +kernel
theorem dX2_isWay_22 : decode cX2_isWay 22 = .ok (.i2l, 1) := by decide +kernel
theorem dX2_isWay_23 : decode cX2_isWay 23 = .ok (.lcmp, 1) := by decide +kernel
theorem dX2_isWay_24 : decode cX2_isWay 24 = .ok (.ifCond .lt 5, 3) := by decide +kernel
theorem dX2_isWay_27 : decode cX2_isWay 27 = .ok (.iconst 0, 1) := by decide +kernel
theorem dX2_isWay_28 : decode cX2_isWay 28 = .ok (.ireturn, 1) := by decide +kernel
theorem dX2_isWay_29 : decode cX2_isWay 29 = .ok (.iload_n 3, 1) := by decide +kernel
theorem dX2_isWay_30 : decode cX2_isWay 30 = .ok (.ifCond .le 22, 3) := by decide +kernel
theorem dX2_isWay_33 : decode cX2_isWay 33 = .ok (.aload_n 0, 1) := by decide +kernel
theorem dX2_isWay_34 : decode cX2_isWay 34 = .ok (.aload_n 1, 1) := by decide +kernel
theorem dX2_isWay_35 : decode cX2_isWay 35 = .ok (.iload_n 3, 1) := by decide +kernel
theorem dX2_isWay_36 : decode cX2_isWay 36 = .ok (.iconst 1, 1) := by decide +kernel
theorem dX2_isWay_37 : decode cX2_isWay 37 = .ok (.isub, 1) := by decide +kernel
theorem dX2_isWay_38 : decode cX2_isWay 38 = .ok (.laload, 1) := by decide +kernel
theorem dX2_isWay_39 : decode cX2_isWay 39 = .ok (.l2i, 1) := by decide +kernel
theorem dX2_isWay_40 : decode cX2_isWay 40 = .ok (.aload_n 1, 1) := by decide +kernel
theorem dX2_isWay_41 : decode cX2_isWay 41 = .ok (.iload_n 3, 1) := by decide +kernel
theorem dX2_isWay_42 : decode cX2_isWay 42 = .ok (.laload, 1) := by decide +kernel
theorem dX2_isWay_43 : decode cX2_isWay 43 = .ok (.invokevirtual 103, 3) := by decide +kernel
theorem dX2_isWay_46 : decode cX2_isWay 46 = .ok (.iconst (-1), 1) := by decide +kernel
theorem dX2_isWay_47 : decode cX2_isWay 47 = .ok (.if_icmp .ne 5, 3) := by decide +kernel
theorem dX2_isWay_50 : decode cX2_isWay 50 = .ok (.iconst 0, 1) := by decide +kernel
theorem dX2_isWay_51 : decode cX2_isWay 51 = .ok (.ireturn, 1) := by decide +kernel
theorem dX2_isWay_52 : decode cX2_isWay 52 = .ok (.iinc 3 1, 3) := by decide +kernel
theorem dX2_isWay_55 : decode cX2_isWay 55 = .ok (.goto (-53), 3) := by decide +kernel
theorem dX2_isWay_58 : decode cX2_isWay 58 = .ok (.iconst 1, 1) := by decide +kernel
theorem dX2_isWay_59 : decode cX2_isWay 59 = .ok (.ireturn, 1) := by decide +kernel
theorem dX2_minutesAlong_0 : decode cX2_minutesAlong 0 = .ok (.iconst 0, 1) := by decide +kernel
theorem dX2_minutesAlong_1 : decode cX2_minutesAlong 1 = .ok (.istore_n 3, 1) := by decide +kernel
theorem dX2_minutesAlong_2 : decode cX2_minutesAlong 2 = .ok (.iconst (-1), 1) := by decide +kernel
theorem dX2_minutesAlong_3 : decode cX2_minutesAlong 3 = .ok (.istore 4, 2) := by decide +kernel
theorem dX2_minutesAlong_5 : decode cX2_minutesAlong 5 = .ok (.iconst 1, 1) := by decide +kernel
theorem dX2_minutesAlong_6 : decode cX2_minutesAlong 6 = .ok (.istore 5, 2) := by decide +kernel
theorem dX2_minutesAlong_8 : decode cX2_minutesAlong 8 = .ok (.iload 5, 2) := by decide +kernel
theorem dX2_minutesAlong_10 : decode cX2_minutesAlong 10 = .ok (.iload_n 2, 1) := by decide +kernel
theorem dX2_minutesAlong_11 : decode cX2_minutesAlong 11 = .ok (.if_icmp .ge 48, 3) := by decide +kernel
theorem dX2_minutesAlong_14 : decode cX2_minutesAlong 14 = .ok (.aload_n 0, 1) := by decide +kernel
theorem dX2_minutesAlong_15 : decode cX2_minutesAlong 15 = .ok (.aload_n 1, 1) := by decide +kernel
theorem dX2_minutesAlong_16 : decode cX2_minutesAlong 16 = .ok (.iload 5, 2) := by decide +kernel
theorem dX2_minutesAlong_18 : decode cX2_minutesAlong 18 = .ok (.iconst 1, 1) := by decide +kernel
theorem dX2_minutesAlong_19 : decode cX2_minutesAlong 19 = .ok (.isub, 1) := by decide +kernel
theorem dX2_minutesAlong_20 : decode cX2_minutesAlong 20 = .ok (.laload, 1) := by decide +kernel
theorem dX2_minutesAlong_21 : decode cX2_minutesAlong 21 = .ok (.l2i, 1) := by decide +kernel
theorem dX2_minutesAlong_22 : decode cX2_minutesAlong 22 = .ok (.aload_n 1, 1) := by decide +kernel
theorem dX2_minutesAlong_23 : decode cX2_minutesAlong 23 = .ok (.iload 5, 2) := by decide +kernel
theorem dX2_minutesAlong_25 : decode cX2_minutesAlong 25 = .ok (.laload, 1) := by decide +kernel
theorem dX2_minutesAlong_26 : decode cX2_minutesAlong 26 = .ok (.invokevirtual 103, 3) := by decide +kernel
theorem dX2_minutesAlong_29 : decode cX2_minutesAlong 29 = .ok (.istore 6, 2) := by decide +kernel
theorem dX2_minutesAlong_31 : decode cX2_minutesAlong 31 = .ok (.iload_n 3, 1) := by decide +kernel
theorem dX2_minutesAlong_32 : decode cX2_minutesAlong 32 = .ok (.aload_n 0, 1) := by decide +kernel
theorem dX2_minutesAlong_33 : decode cX2_minutesAlong 33 = .ok (.iload 6, 2) := by decide +kernel
theorem dX2_minutesAlong_35 : decode cX2_minutesAlong 35 = .ok (.invokevirtual 107, 3) := by decide +kernel
theorem dX2_minutesAlong_38 : decode cX2_minutesAlong 38 = .ok (.aload_n 0, 1) := by decide +kernel
theorem dX2_minutesAlong_39 : decode cX2_minutesAlong 39 = .ok (.iload 4, 2) := by decide +kernel
theorem dX2_minutesAlong_41 : decode cX2_minutesAlong 41 = .ok (.iload 6, 2) := by decide +kernel
theorem dX2_minutesAlong_43 : decode cX2_minutesAlong 43 = .ok (.invokevirtual 111, 3) := by decide +kernel
theorem dX2_minutesAlong_46 : decode cX2_minutesAlong 46 = .ok (.iadd, 1) := by decide +kernel
theorem dX2_minutesAlong_47 : decode cX2_minutesAlong 47 = .ok (.iadd, 1) := by decide +kernel
theorem dX2_minutesAlong_48 : decode cX2_minutesAlong 48 = .ok (.istore_n 3, 1) := by decide +kernel
theorem dX2_minutesAlong_49 : decode cX2_minutesAlong 49 = .ok (.iload 6, 2) := by decide +kernel
theorem dX2_minutesAlong_51 : decode cX2_minutesAlong 51 = .ok (.istore 4, 2) := by decide +kernel
theorem dX2_minutesAlong_53 : decode cX2_minutesAlong 53 = .ok (.iinc 5 1, 3) := by decide +kernel
theorem dX2_minutesAlong_56 : decode cX2_minutesAlong 56 = .ok (.goto (-48), 3) := by decide +kernel
theorem dX2_minutesAlong_59 : decode cX2_minutesAlong 59 = .ok (.iload_n 3, 1) := by decide +kernel
theorem dX2_minutesAlong_60 : decode cX2_minutesAlong 60 = .ok (.ireturn, 1) := by decide +kernel
theorem dX3_init_0 : decode cX3_init 0 = .ok (.aload_n 0, 1) := by decide +kernel
theorem dX3_init_1 : decode cX3_init 1 = .ok (.invokespecial 3, 3) := by decide +kernel
theorem dX3_init_4 : decode cX3_init 4 = .ok (.aload_n 0, 1) := by decide +kernel
theorem dX3_init_5 : decode cX3_init 5 = .ok (.iconst 0, 1) := by decide +kernel
theorem dX3_init_6 : decode cX3_init 6 = .ok (.putfield 9, 3) := by decide +kernel
theorem dX3_init_9 : decode cX3_init 9 = .ok (.aload_n 0, 1) := by decide +kernel
theorem dX3_init_10 : decode cX3_init 10 = .ok (.iconst 0, 1) := by decide +kernel
theorem dX3_init_11 : decode cX3_init 11 = .ok (.putfield 15, 3) := by decide +kernel
theorem dX3_init_14 : decode cX3_init 14 = .ok (.aload_n 0, 1) := by decide +kernel
theorem dX3_init_15 : decode cX3_init 15 = .ok (.iconst 0, 1) := by decide +kernel
theorem dX3_init_16 : decode cX3_init 16 = .ok (.putfield 19, 3) := by decide +kernel
theorem dX3_init_19 : decode cX3_init 19 = .ok (.aload_n 0, 1) := by decide +kernel
theorem dX3_init_20 : decode cX3_init 20 = .ok (.iconst 0, 1) := by decide +kernel
theorem dX3_init_21 : decode cX3_init 21 = .ok (.putfield 22, 3) := by decide +kernel
theorem dX3_init_24 : decode cX3_init 24 = .ok (.aload_n 0, 1) := by decide +kernel
theorem dX3_init_25 : decode cX3_init 25 = .ok (.iconst 0, 1) := by decide +kernel
theorem dX3_init_26 : decode cX3_init 26 = .ok (.putfield 25, 3) := by decide +kernel
theorem dX3_init_29 : decode cX3_init 29 = .ok (.aload_n 0, 1) := by decide +kernel
theorem dX3_init_30 : decode cX3_init 30 = .ok (.aload_n 1, 1) := by decide +kernel
theorem dX3_init_31 : decode cX3_init 31 = .ok (.putfield 28, 3) := by decide +kernel
theorem dX3_init_34 : decode cX3_init 34 = .ok (.aload_n 0, 1) := by decide +kernel
theorem dX3_init_35 : decode cX3_init 35 = .ok (.aload_n 2, 1) := by decide +kernel
theorem dX3_init_36 : decode cX3_init 36 = .ok (.putfield 32, 3) := by decide +kernel
theorem dX3_init_39 : decode cX3_init 39 = .ok (.return_, 1) := by decide +kernel
theorem dX3_parse_0 : decode cX3_parse 0 = .ok (.aload_n 0, 1) := by decide +kernel
theorem dX3_parse_1 : decode cX3_parse 1 = .ok (.aload_n 2, 1) := by decide +kernel
theorem dX3_parse_2 : decode cX3_parse 2 = .ok (.putfield 32, 3) := by decide +kernel
theorem dX3_parse_5 : decode cX3_parse 5 = .ok (.aload_n 0, 1) := by decide +kernel
theorem dX3_parse_6 : decode cX3_parse 6 = .ok (.getfield 32, 3) := by decide +kernel
theorem dX3_parse_9 : decode cX3_parse 9 = .ok (.invokevirtual 36, 3) := by decide +kernel
theorem dX3_parse_12 : decode cX3_parse 12 = .ok (.aload_n 0, 1) := by decide +kernel
theorem dX3_parse_13 : decode cX3_parse 13 = .ok (.iconst 0, 1) := by decide +kernel
theorem dX3_parse_14 : decode cX3_parse 14 = .ok (.putfield 9, 3) := by decide +kernel
theorem dX3_parse_17 : decode cX3_parse 17 = .ok (.aload_n 0, 1) := by decide +kernel
theorem dX3_parse_18 : decode cX3_parse 18 = .ok (.iconst 0, 1) := by decide +kernel
theorem dX3_parse_19 : decode cX3_parse 19 = .ok (.putfield 15, 3) := by decide +kernel
theorem dX3_parse_22 : decode cX3_parse 22 = .ok (.aload_n 0, 1) := by decide +kernel
theorem dX3_parse_23 : decode cX3_parse 23 = .ok (.iconst 0, 1) := by decide +kernel
theorem dX3_parse_24 : decode cX3_parse 24 = .ok (.putfield 19, 3) := by decide +kernel
theorem dX3_parse_27 : decode cX3_parse 27 = .ok (.aload_n 0, 1) := by decide +kernel
theorem dX3_parse_28 : decode cX3_parse 28 = .ok (.iconst 0, 1) := by decide +kernel
theorem dX3_parse_29 : decode cX3_parse 29 = .ok (.putfield 22, 3) := by decide +kernel
theorem dX3_parse_32 : decode cX3_parse 32 = .ok (.aload_n 0, 1) := by decide +kernel
theorem dX3_parse_33 : decode cX3_parse 33 = .ok (.iconst 0, 1) := by decide +kernel
theorem dX3_parse_34 : decode cX3_parse 34 = .ok (.putfield 25, 3) := by decide +kernel
theorem dX3_parse_37 : decode cX3_parse 37 = .ok (.aload_n 0, 1) := by decide +kernel
theorem dX3_parse_38 : decode cX3_parse 38 = .ok (.getfield 28, 3) := by decide +kernel
theorem dX3_parse_41 : decode cX3_parse 41 = .ok (.iload_n 1, 1) := by decide +kernel
theorem dX3_parse_42 : decode cX3_parse 42 = .ok (.invokevirtual 41, 3) := by decide +kernel
theorem dX3_parse_45 : decode cX3_parse 45 = .ok (.aload_n 0, 1) := by decide +kernel
theorem dX3_parse_46 : decode cX3_parse 46 = .ok (.invokevirtual 47, 3) := by decide +kernel
theorem dX3_parse_49 : decode cX3_parse 49 = .ok (.ifCond .ne 5, 3) := by decide +kernel
theorem dX3_parse_52 : decode cX3_parse 52 = .ok (.iconst 0, 1) := by decide +kernel
theorem dX3_parse_53 : decode cX3_parse 53 = .ok (.ireturn, 1) := by decide +kernel
theorem dX3_parse_54 : decode cX3_parse 54 = .ok (.iconst 0, 1) := by decide +kernel
theorem dX3_parse_55 : decode cX3_parse 55 = .ok (.istore_n 3, 1) := by decide +kernel
theorem dX3_parse_56 : decode cX3_parse 56 = .ok (.iload_n 3, 1) := by decide +kernel
theorem dX3_parse_57 : decode cX3_parse 57 = .ok (.sipush 900, 3) := by decide +kernel
theorem dX3_parse_60 : decode cX3_parse 60 = .ok (.if_icmp .ge 28, 3) := by decide +kernel
theorem dX3_parse_63 : decode cX3_parse 63 = .ok (.aload_n 0, 1) := by decide +kernel
theorem dX3_parse_64 : decode cX3_parse 64 = .ok (.getfield 28, 3) := by decide +kernel
theorem dX3_parse_67 : decode cX3_parse 67 = .ok (.getfield 51, 3) := by decide +kernel
theorem dX3_parse_70 : decode cX3_parse 70 = .ok (.ifCond .eq 18, 3) := by decide +kernel
theorem dX3_parse_73 : decode cX3_parse 73 = .ok (.aload_n 0, 1) := by decide +kernel
theorem dX3_parse_74 : decode cX3_parse 74 = .ok (.invokevirtual 54, 3) := by decide +kernel
theorem dX3_parse_77 : decode cX3_parse 77 = .ok (.ifCond .ne 5, 3) := by decide +kernel
theorem dX3_parse_80 : decode cX3_parse 80 = .ok (.iconst 0, 1) := by decide +kernel
theorem dX3_parse_81 : decode cX3_parse 81 = .ok (.ireturn, 1) := by decide +kernel
theorem dX3_parse_82 : decode cX3_parse 82 = .ok (.iinc 3 1, 3) := by decide +kernel
theorem dX3_parse_85 : decode cX3_parse 85 = .ok (.goto (-29), 3) := by decide +kernel
theorem dX3_parse_88 : decode cX3_parse 88 = .ok (.iconst 1, 1) := by decide +kernel
theorem dX3_parse_89 : decode cX3_parse 89 = .ok (.ireturn, 1) := by decide +kernel
theorem dX3_takeSize_0 : decode cX3_takeSize 0 = .ok (.aload_n 0, 1) := by decide +kernel
theorem dX3_takeSize_1 : decode cX3_takeSize 1 = .ok (.getfield 28, 3) := by decide +kernel
theorem dX3_takeSize_4 : decode cX3_takeSize 4 = .ok (.ldc 57, 2) := by decide +kernel
theorem dX3_takeSize_6 : decode cX3_takeSize 6 = .ok (.iconst 2, 1) := by decide +kernel
theorem dX3_takeSize_7 : decode cX3_takeSize 7 = .ok (.bipush 10, 2) := by decide +kernel
theorem dX3_takeSize_9 : decode cX3_takeSize 9 = .ok (.invokevirtual 59, 3) := by decide +kernel
theorem dX3_takeSize_12 : decode cX3_takeSize 12 = .ok (.ifCond .ne 5, 3) := by decide +kernel
theorem dX3_takeSize_15 : decode cX3_takeSize 15 = .ok (.iconst 0, 1) := by decide +kernel
theorem dX3_takeSize_16 : decode cX3_takeSize 16 = .ok (.ireturn, 1) := by decide +kernel
theorem dX3_takeSize_17 : decode cX3_takeSize 17 = .ok (.aload_n 0, 1) := by decide +kernel
theorem dX3_takeSize_18 : decode cX3_takeSize 18 = .ok (.getfield 32, 3) := by decide +kernel
theorem dX3_takeSize_21 : decode cX3_takeSize 21 = .ok (.aload_n 0, 1) := by decide +kernel
theorem dX3_takeSize_22 : decode cX3_takeSize 22 = .ok (.getfield 28, 3) := by decide +kernel
theorem dX3_takeSize_25 : decode cX3_takeSize 25 = .ok (.getfield 63, 3) := by decide +kernel
theorem dX3_takeSize_28 : decode cX3_takeSize 28 = .ok (.putfield 66, 3) := by decide +kernel
theorem dX3_takeSize_31 : decode cX3_takeSize 31 = .ok (.aload_n 0, 1) := by decide +kernel
theorem dX3_takeSize_32 : decode cX3_takeSize 32 = .ok (.getfield 28, 3) := by decide +kernel
theorem dX3_takeSize_35 : decode cX3_takeSize 35 = .ok (.iconst 2, 1) := by decide +kernel
theorem dX3_takeSize_36 : decode cX3_takeSize 36 = .ok (.bipush 6, 2) := by decide +kernel
theorem dX3_takeSize_38 : decode cX3_takeSize 38 = .ok (.invokevirtual 69, 3) := by decide +kernel
theorem dX3_takeSize_41 : decode cX3_takeSize 41 = .ok (.ifCond .ne 5, 3) := by decide +kernel
theorem dX3_takeSize_44 : decode cX3_takeSize 44 = .ok (.iconst 0, 1) := by decide +kernel
theorem dX3_takeSize_45 : decode cX3_takeSize 45 = .ok (.ireturn, 1) := by decide +kernel
theorem dX3_takeSize_46 : decode cX3_takeSize 46 = .ok (.aload_n 0, 1) := by decide +kernel
theorem dX3_takeSize_47 : decode cX3_takeSize 47 = .ok (.getfield 32, 3) := by decide +kernel
theorem dX3_takeSize_50 : decode cX3_takeSize 50 = .ok (.aload_n 0, 1) := by decide +kernel
theorem dX3_takeSize_51 : decode cX3_takeSize 51 = .ok (.getfield 28, 3) := by decide +kernel
theorem dX3_takeSize_54 : decode cX3_takeSize 54 = .ok (.getfield 63, 3) := by decide +kernel
theorem dX3_takeSize_57 : decode cX3_takeSize 57 = .ok (.putfield 73, 3) := by decide +kernel
theorem dX3_takeSize_60 : decode cX3_takeSize 60 = .ok (.aload_n 0, 1) := by decide +kernel
theorem dX3_takeSize_61 : decode cX3_takeSize 61 = .ok (.getfield 28, 3) := by decide +kernel
theorem dX3_takeSize_64 : decode cX3_takeSize 64 = .ok (.invokevirtual 76, 3) := by decide +kernel
theorem dX3_takeSize_67 : decode cX3_takeSize 67 = .ok (.ireturn, 1) := by decide +kernel
theorem dX3_takePart_0 : decode cX3_takePart 0 = .ok (.aload_n 0, 1) := by decide +kernel
theorem dX3_takePart_1 : decode cX3_takePart 1 = .ok (.getfield 28, 3) := by decide +kernel
theorem dX3_takePart_4 : decode cX3_takePart 4 = .ok (.ldc 79, 2) := by decide +kernel
theorem dX3_takePart_6 : decode cX3_takePart 6 = .ok (.invokevirtual 81, 3) := by decide +kernel
theorem dX3_takePart_9 : decode cX3_takePart 9 = .ok (.ifCond .eq 8, 3) := by decide +kernel
theorem dX3_takePart_12 : decode cX3_takePart 12 = .ok (.aload_n 0, 1) := by decide +kernel
theorem dX3_takePart_13 : decode cX3_takePart 13 = .ok (.invokevirtual 85, 3) := by decide +kernel
theorem dX3_takePart_16 : decode cX3_takePart 16 = .ok (.ireturn, 1) := by decide +kernel
theorem dX3_takePart_17 : decode cX3_takePart 17 = .ok (.aload_n 0, 1) := by decide +kernel
theorem dX3_takePart_18 : decode cX3_takePart 18 = .ok (.getfield 28, 3) := by decide +kernel
theorem dX3_takePart_21 : decode cX3_takePart 21 = .ok (.ldc 88, 2) := by decide +kernel
theorem dX3_takePart_23 : decode cX3_takePart 23 = .ok (.invokevirtual 81, 3) := by decide +kernel
theorem dX3_takePart_26 : decode cX3_takePart 26 = .ok (.ifCond .eq 8, 3) := by decide +kernel
theorem dX3_takePart_29 : decode cX3_takePart 29 = .ok (.aload_n 0, 1) := by decide +kernel
theorem dX3_takePart_30 : decode cX3_takePart 30 = .ok (.invokevirtual 90, 3) := by decide +kernel
theorem dX3_takePart_33 : decode cX3_takePart 33 = .ok (.ireturn, 1) := by decide +kernel
theorem dX3_takePart_34 : decode cX3_takePart 34 = .ok (.aload_n 0, 1) := by decide +kernel
theorem dX3_takePart_35 : decode cX3_takePart 35 = .ok (.getfield 28, 3) := by decide +kernel
theorem dX3_takePart_38 : decode cX3_takePart 38 = .ok (.ldc 93, 2) := by decide +kernel
theorem dX3_takePart_40 : decode cX3_takePart 40 = .ok (.invokevirtual 81, 3) := by decide +kernel
theorem dX3_takePart_43 : decode cX3_takePart 43 = .ok (.ifCond .eq 8, 3) := by decide +kernel
theorem dX3_takePart_46 : decode cX3_takePart 46 = .ok (.aload_n 0, 1) := by decide +kernel
theorem dX3_takePart_47 : decode cX3_takePart 47 = .ok (.invokevirtual 95, 3) := by decide +kernel
theorem dX3_takePart_50 : decode cX3_takePart 50 = .ok (.ireturn, 1) := by decide +kernel
theorem dX3_takePart_51 : decode cX3_takePart 51 = .ok (.aload_n 0, 1) := by decide +kernel
theorem dX3_takePart_52 : decode cX3_takePart 52 = .ok (.getfield 28, 3) := by decide +kernel
theorem dX3_takePart_55 : decode cX3_takePart 55 = .ok (.ldc 98, 2) := by decide +kernel
theorem dX3_takePart_57 : decode cX3_takePart 57 = .ok (.invokevirtual 81, 3) := by decide +kernel
theorem dX3_takePart_60 : decode cX3_takePart 60 = .ok (.ifCond .eq 8, 3) := by decide +kernel
theorem dX3_takePart_63 : decode cX3_takePart 63 = .ok (.aload_n 0, 1) := by decide +kernel
theorem dX3_takePart_64 : decode cX3_takePart 64 = .ok (.invokevirtual 100, 3) := by decide +kernel
theorem dX3_takePart_67 : decode cX3_takePart 67 = .ok (.ireturn, 1) := by decide +kernel
theorem dX3_takePart_68 : decode cX3_takePart 68 = .ok (.aload_n 0, 1) := by decide +kernel
theorem dX3_takePart_69 : decode cX3_takePart 69 = .ok (.getfield 28, 3) := by decide +kernel
theorem dX3_takePart_72 : decode cX3_takePart 72 = .ok (.ldc 103, 2) := by decide +kernel
theorem dX3_takePart_74 : decode cX3_takePart 74 = .ok (.invokevirtual 81, 3) := by decide +kernel
theorem dX3_takePart_77 : decode cX3_takePart 77 = .ok (.ifCond .eq 8, 3) := by decide +kernel
theorem dX3_takePart_80 : decode cX3_takePart 80 = .ok (.aload_n 0, 1) := by decide +kernel
theorem dX3_takePart_81 : decode cX3_takePart 81 = .ok (.invokevirtual 105, 3) := by decide +kernel
theorem dX3_takePart_84 : decode cX3_takePart 84 = .ok (.ireturn, 1) := by decide +kernel
theorem dX3_takePart_85 : decode cX3_takePart 85 = .ok (.aload_n 0, 1) := by decide +kernel
theorem dX3_takePart_86 : decode cX3_takePart 86 = .ok (.getfield 28, 3) := by decide +kernel
theorem dX3_takePart_89 : decode cX3_takePart 89 = .ok (.ldc 108, 2) := by decide +kernel
theorem dX3_takePart_91 : decode cX3_takePart 91 = .ok (.invokevirtual 81, 3) := by decide +kernel
theorem dX3_takePart_94 : decode cX3_takePart 94 = .ok (.ifCond .eq 8, 3) := by decide +kernel
theorem dX3_takePart_97 : decode cX3_takePart 97 = .ok (.aload_n 0, 1) := by decide +kernel
theorem dX3_takePart_98 : decode cX3_takePart 98 = .ok (.invokevirtual 110, 3) := by decide +kernel
theorem dX3_takePart_101 : decode cX3_takePart 101 = .ok (.ireturn, 1) := by decide +kernel
theorem dX3_takePart_102 : decode cX3_takePart 102 = .ok (.aload_n 0, 1) := by decide +kernel
theorem dX3_takePart_103 : decode cX3_takePart 103 = .ok (.getfield 28, 3) := by decide +kernel
theorem dX3_takePart_106 : decode cX3_takePart 106 = .ok (.ldc 113, 2) := by decide +kernel
theorem dX3_takePart_108 : decode cX3_takePart 108 = .ok (.invokevirtual 81, 3) := by decide +kernel
theorem dX3_takePart_111 : decode cX3_takePart 111 = .ok (.ifCond .eq 10, 3) := by decide +kernel
theorem dX3_takePart_114 : decode cX3_takePart 114 = .ok (.aload_n 0, 1) := by decide +kernel
theorem dX3_takePart_115 : decode cX3_takePart 115 = .ok (.invokevirtual 115, 3) := by decide +kernel
theorem dX3_takePart_118 : decode cX3_takePart 118 = .ok (.goto 10, 3) := by decide +kernel
theorem dX3_takePart_121 : decode cX3_takePart 121 = .ok (.aload_n 0, 1) := by decide +kernel
theorem dX3_takePart_122 : decode cX3_takePart 122 = .ok (.getfield 28, 3) := by decide +kernel
theorem dX3_takePart_125 : decode cX3_takePart 125 = .ok (.invokevirtual 118, 3) := by decide +kernel
theorem dX3_takePart_128 : decode cX3_takePart 128 = .ok (.ireturn, 1) := by decide +kernel
theorem dX3_takeRow_0 : decode cX3_takeRow 0 = .ok (.aload_n 0, 1) := by decide +kernel
theorem dX3_takeRow_1 : decode cX3_takeRow 1 = .ok (.getfield 9, 3) := by decide +kernel
theorem dX3_takeRow_4 : decode cX3_takeRow 4 = .ok (.aload_n 0, 1) := by decide +kernel
theorem dX3_takeRow_5 : decode cX3_takeRow 5 = .ok (.getfield 32, 3) := by decide +kernel
theorem dX3_takeRow_8 : decode cX3_takeRow 8 = .ok (.getfield 73, 3) := by decide +kernel
theorem dX3_takeRow_11 : decode cX3_takeRow 11 = .ok (.if_icmp .lt 13, 3) := by decide +kernel
theorem dX3_takeRow_14 : decode cX3_takeRow 14 = .ok (.aload_n 0, 1) := by decide +kernel
theorem dX3_takeRow_15 : decode cX3_takeRow 15 = .ok (.getfield 28, 3) := by decide +kernel
theorem dX3_takeRow_18 : decode cX3_takeRow 18 = .ok (.bipush 6, 2) := by decide +kernel
theorem dX3_takeRow_20 : decode cX3_takeRow 20 = .ok (.invokevirtual 121, 3) := by decide +kernel
theorem dX3_takeRow_23 : decode cX3_takeRow 23 = .ok (.ireturn, 1) := by decide +kernel
theorem dX3_takeRow_24 : decode cX3_takeRow 24 = .ok (.aload_n 0, 1) := by decide +kernel
theorem dX3_takeRow_25 : decode cX3_takeRow 25 = .ok (.getfield 28, 3) := by decide +kernel
theorem dX3_takeRow_28 : decode cX3_takeRow 28 = .ok (.invokevirtual 125, 3) := by decide +kernel
theorem dX3_takeRow_31 : decode cX3_takeRow 31 = .ok (.iconst 0, 1) := by decide +kernel
theorem dX3_takeRow_32 : decode cX3_takeRow 32 = .ok (.istore_n 1, 1) := by decide +kernel
theorem dX3_takeRow_33 : decode cX3_takeRow 33 = .ok (.iload_n 1, 1) := by decide +kernel
theorem dX3_takeRow_34 : decode cX3_takeRow 34 = .ok (.bipush 10, 2) := by decide +kernel
theorem dX3_takeRow_36 : decode cX3_takeRow 36 = .ok (.if_icmp .gt 96, 3) := by decide +kernel
theorem dX3_takeRow_39 : decode cX3_takeRow 39 = .ok (.iload_n 1, 1) := by decide +kernel
theorem dX3_takeRow_40 : decode cX3_takeRow 40 = .ok (.ifCond .eq 14, 3) := by decide +kernel
theorem dX3_takeRow_43 : decode cX3_takeRow 43 = .ok (.aload_n 0, 1) := by decide +kernel
theorem dX3_takeRow_44 : decode cX3_takeRow 44 = .ok (.getfield 28, 3) := by decide +kernel
theorem dX3_takeRow_47 : decode cX3_takeRow 47 = .ok (.getfield 51, 3) := by decide +kernel
theorem dX3_takeRow_50 : decode cX3_takeRow 50 = .ok (.iconst 3, 1) := by decide +kernel
theorem dX3_takeRow_51 : decode cX3_takeRow 51 = .ok (.if_icmp .eq 81, 3) := by decide +kernel
theorem dX3_takeRow_54 : decode cX3_takeRow 54 = .ok (.aload_n 0, 1) := by decide +kernel
theorem dX3_takeRow_55 : decode cX3_takeRow 55 = .ok (.getfield 28, 3) := by decide +kernel
theorem dX3_takeRow_58 : decode cX3_takeRow 58 = .ok (.iconst 0, 1) := by decide +kernel
theorem dX3_takeRow_59 : decode cX3_takeRow 59 = .ok (.bipush 20, 2) := by decide +kernel
theorem dX3_takeRow_61 : decode cX3_takeRow 61 = .ok (.invokevirtual 128, 3) := by decide +kernel
theorem dX3_takeRow_64 : decode cX3_takeRow 64 = .ok (.ifCond .ne 5, 3) := by decide +kernel
theorem dX3_takeRow_67 : decode cX3_takeRow 67 = .ok (.iconst 0, 1) := by decide +kernel
theorem dX3_takeRow_68 : decode cX3_takeRow 68 = .ok (.ireturn, 1) := by decide +kernel
theorem dX3_takeRow_69 : decode cX3_takeRow 69 = .ok (.iload_n 1, 1) := by decide +kernel
theorem dX3_takeRow_70 : decode cX3_takeRow 70 = .ok (.aload_n 0, 1) := by decide +kernel
theorem dX3_takeRow_71 : decode cX3_takeRow 71 = .ok (.getfield 32, 3) := by decide +kernel
theorem dX3_takeRow_74 : decode cX3_takeRow 74 = .ok (.getfield 66, 3) := by decide +kernel
theorem dX3_takeRow_77 : decode cX3_takeRow 77 = .ok (.if_icmp .lt 13, 3) := by decide +kernel
theorem dX3_takeRow_80 : decode cX3_takeRow 80 = .ok (.aload_n 0, 1) := by decide +kernel
theorem dX3_takeRow_81 : decode cX3_takeRow 81 = .ok (.getfield 28, 3) := by decide +kernel
theorem dX3_takeRow_84 : decode cX3_takeRow 84 = .ok (.bipush 6, 2) := by decide +kernel
theorem dX3_takeRow_86 : decode cX3_takeRow 86 = .ok (.invokevirtual 121, 3) := by decide +kernel
theorem dX3_takeRow_89 : decode cX3_takeRow 89 = .ok (.ireturn, 1) := by decide +kernel
theorem dX3_takeRow_90 : decode cX3_takeRow 90 = .ok (.aload_n 0, 1) := by decide +kernel
theorem dX3_takeRow_91 : decode cX3_takeRow 91 = .ok (.getfield 32, 3) := by decide +kernel
theorem dX3_takeRow_94 : decode cX3_takeRow 94 = .ok (.getfield 131, 3) := by decide +kernel
theorem dX3_takeRow_97 : decode cX3_takeRow 97 = .ok (.aload_n 0, 1) := by decide +kernel
theorem dX3_takeRow_98 : decode cX3_takeRow 98 = .ok (.getfield 9, 3) := by decide +kernel
theorem dX3_takeRow_101 : decode cX3_takeRow 101 = .ok (.aload_n 0, 1) := by decide +kernel
theorem dX3_takeRow_102 : decode cX3_takeRow 102 = .ok (.getfield 32, 3) := by decide +kernel
theorem dX3_takeRow_105 : decode cX3_takeRow 105 = .ok (.getfield 66, 3) := by decide +kernel
theorem dX3_takeRow_108 : decode cX3_takeRow 108 = .ok (.imul, 1) := by decide +kernel
theorem dX3_takeRow_109 : decode cX3_takeRow 109 = .ok (.iload_n 1, 1) := by decide +kernel
theorem dX3_takeRow_110 : decode cX3_takeRow 110 = .ok (.iadd, 1) := by decide +kernel
theorem dX3_takeRow_111 : decode cX3_takeRow 111 = .ok (.aload_n 0, 1) := by decide +kernel
theorem dX3_takeRow_112 : decode cX3_takeRow 112 = .ok (.getfield 28, 3) := by decide +kernel
theorem dX3_takeRow_115 : decode cX3_takeRow 115 = .ok (.getfield 135, 3) := by decide +kernel
theorem dX3_takeRow_118 : decode cX3_takeRow 118 = .ok (.iastore, 1) := by decide +kernel
theorem dX3_takeRow_119 : decode cX3_takeRow 119 = .ok (.iinc 1 1, 3) := by decide +kernel
theorem dX3_takeRow_122 : decode cX3_takeRow 122 = .ok (.aload_n 0, 1) := by decide +kernel
theorem dX3_takeRow_123 : decode cX3_takeRow 123 = .ok (.getfield 28, 3) := by decide +kernel
theorem dX3_takeRow_126 : decode cX3_takeRow 126 = .ok (.invokevirtual 125, 3) := by decide +kernel
theorem dX3_takeRow_129 : decode cX3_takeRow 129 = .ok (.goto (-96), 3) := by decide +kernel
theorem dX3_takeRow_132 : decode cX3_takeRow 132 = .ok (.iload_n 1, 1) := by decide +kernel
theorem dX3_takeRow_133 : decode cX3_takeRow 133 = .ok (.aload_n 0, 1) := by decide +kernel
theorem dX3_takeRow_134 : decode cX3_takeRow 134 = .ok (.getfield 32, 3) := by decide +kernel
theorem dX3_takeRow_137 : decode cX3_takeRow 137 = .ok (.getfield 66, 3) := by decide +kernel
theorem dX3_takeRow_140 : decode cX3_takeRow 140 = .ok (.if_icmp .ge 13, 3) := by decide +kernel
theorem dX3_takeRow_143 : decode cX3_takeRow 143 = .ok (.aload_n 0, 1) := by decide +kernel
theorem dX3_takeRow_144 : decode cX3_takeRow 144 = .ok (.getfield 28, 3) := by decide +kernel
theorem dX3_takeRow_147 : decode cX3_takeRow 147 = .ok (.bipush 7, 2) := by decide +kernel
theorem dX3_takeRow_149 : decode cX3_takeRow 149 = .ok (.invokevirtual 121, 3) := by decide +kernel
theorem dX3_takeRow_152 : decode cX3_takeRow 152 = .ok (.ireturn, 1) := by decide +kernel
theorem dX3_takeRow_153 : decode cX3_takeRow 153 = .ok (.aload_n 0, 1) := by decide +kernel
theorem dX3_takeRow_154 : decode cX3_takeRow 154 = .ok (.dup, 1) := by decide +kernel
theorem dX3_takeRow_155 : decode cX3_takeRow 155 = .ok (.getfield 9, 3) := by decide +kernel
theorem dX3_takeRow_158 : decode cX3_takeRow 158 = .ok (.iconst 1, 1) := by decide +kernel
theorem dX3_takeRow_159 : decode cX3_takeRow 159 = .ok (.iadd, 1) := by decide +kernel
theorem dX3_takeRow_160 : decode cX3_takeRow 160 = .ok (.putfield 9, 3) := by decide +kernel
theorem dX3_takeRow_163 : decode cX3_takeRow 163 = .ok (.aload_n 0, 1) := by decide +kernel
theorem dX3_takeRow_164 : decode cX3_takeRow 164 = .ok (.getfield 28, 3) := by decide +kernel
theorem dX3_takeRow_167 : decode cX3_takeRow 167 = .ok (.invokevirtual 76, 3) := by decide +kernel
theorem dX3_takeRow_170 : decode cX3_takeRow 170 = .ok (.ireturn, 1) := by decide +kernel
theorem dX3_takeBar_0 : decode cX3_takeBar 0 = .ok (.aload_n 0, 1) := by decide +kernel
theorem dX3_takeBar_1 : decode cX3_takeBar 1 = .ok (.getfield 32, 3) := by decide +kernel
theorem dX3_takeBar_4 : decode cX3_takeBar 4 = .ok (.getfield 138, 3) := by decide +kernel
theorem dX3_takeBar_7 : decode cX3_takeBar 7 = .ok (.istore_n 1, 1) := by decide +kernel
theorem dX3_takeBar_8 : decode cX3_takeBar 8 = .ok (.iload_n 1, 1) := by decide +kernel
theorem dX3_takeBar_9 : decode cX3_takeBar 9 = .ok (.iconst 5, 1) := by decide +kernel
theorem dX3_takeBar_10 : decode cX3_takeBar 10 = .ok (.if_icmp .lt 13, 3) := by decide +kernel
theorem dX3_takeBar_13 : decode cX3_takeBar 13 = .ok (.aload_n 0, 1) := by decide +kernel
theorem dX3_takeBar_14 : decode cX3_takeBar 14 = .ok (.getfield 28, 3) := by decide +kernel
theorem dX3_takeBar_17 : decode cX3_takeBar 17 = .ok (.bipush 6, 2) := by decide +kernel
theorem dX3_takeBar_19 : decode cX3_takeBar 19 = .ok (.invokevirtual 121, 3) := by decide +kernel
theorem dX3_takeBar_22 : decode cX3_takeBar 22 = .ok (.ireturn, 1) := by decide +kernel
theorem dX3_takeBar_23 : decode cX3_takeBar 23 = .ok (.aload_n 0, 1) := by decide +kernel
theorem dX3_takeBar_24 : decode cX3_takeBar 24 = .ok (.getfield 28, 3) := by decide +kernel
theorem dX3_takeBar_27 : decode cX3_takeBar 27 = .ok (.invokevirtual 125, 3) := by decide +kernel
theorem dX3_takeBar_30 : decode cX3_takeBar 30 = .ok (.aload_n 0, 1) := by decide +kernel
theorem dX3_takeBar_31 : decode cX3_takeBar 31 = .ok (.getfield 28, 3) := by decide +kernel
theorem dX3_takeBar_34 : decode cX3_takeBar 34 = .ok (.invokevirtual 141, 3) := by decide +kernel
theorem dX3_takeBar_37 : decode cX3_takeBar 37 = .ok (.ifCond .ne 5, 3) := by decide +kernel
theorem dX3_takeBar_40 : decode cX3_takeBar 40 = .ok (.iconst 0, 1) := by decide +kernel
theorem dX3_takeBar_41 : decode cX3_takeBar 41 = .ok (.ireturn, 1) := by decide +kernel
theorem dX3_takeBar_42 : decode cX3_takeBar 42 = .ok (.aload_n 0, 1) := by decide +kernel
theorem dX3_takeBar_43 : decode cX3_takeBar 43 = .ok (.getfield 32, 3) := by decide +kernel
theorem dX3_takeBar_46 : decode cX3_takeBar 46 = .ok (.aload_n 0, 1) := by decide +kernel
theorem dX3_takeBar_47 : decode cX3_takeBar 47 = .ok (.getfield 28, 3) := by decide +kernel
theorem dX3_takeBar_50 : decode cX3_takeBar 50 = .ok (.getfield 144, 3) := by decide +kernel
theorem dX3_takeBar_53 : decode cX3_takeBar 53 = .ok (.invokevirtual 148, 3) := by decide +kernel
theorem dX3_takeBar_56 : decode cX3_takeBar 56 = .ok (.iconst (-1), 1) := by decide +kernel
theorem dX3_takeBar_57 : decode cX3_takeBar 57 = .ok (.if_icmp .eq 12, 3) := by decide +kernel
theorem dX3_takeBar_60 : decode cX3_takeBar 60 = .ok (.aload_n 0, 1) := by decide +kernel
theorem dX3_takeBar_61 : decode cX3_takeBar 61 = .ok (.getfield 28, 3) := by decide +kernel
theorem dX3_takeBar_64 : decode cX3_takeBar 64 = .ok (.iconst 3, 1) := by decide +kernel
theorem dX3_takeBar_65 : decode cX3_takeBar 65 = .ok (.invokevirtual 121, 3) := by decide +kernel
theorem dX3_takeBar_68 : decode cX3_takeBar 68 = .ok (.ireturn, 1) := by decide +kernel
theorem dX3_takeBar_69 : decode cX3_takeBar 69 = .ok (.aload_n 0, 1) := by decide +kernel
theorem dX3_takeBar_70 : decode cX3_takeBar 70 = .ok (.getfield 32, 3) := by decide +kernel
theorem dX3_takeBar_73 : decode cX3_takeBar 73 = .ok (.getfield 152, 3) := by decide +kernel
theorem dX3_takeBar_76 : decode cX3_takeBar 76 = .ok (.iload_n 1, 1) := by decide +kernel
theorem dX3_takeBar_77 : decode cX3_takeBar 77 = .ok (.aload_n 0, 1) := by decide +kernel
theorem dX3_takeBar_78 : decode cX3_takeBar 78 = .ok (.getfield 28, 3) := by decide +kernel
theorem dX3_takeBar_81 : decode cX3_takeBar 81 = .ok (.getfield 144, 3) := by decide +kernel
theorem dX3_takeBar_84 : decode cX3_takeBar 84 = .ok (.lastore, 1) := by decide +kernel
theorem dX3_takeBar_85 : decode cX3_takeBar 85 = .ok (.aload_n 0, 1) := by decide +kernel
theorem dX3_takeBar_86 : decode cX3_takeBar 86 = .ok (.getfield 32, 3) := by decide +kernel
theorem dX3_takeBar_89 : decode cX3_takeBar 89 = .ok (.getfield 156, 3) := by decide +kernel
theorem dX3_takeBar_92 : decode cX3_takeBar 92 = .ok (.iload_n 1, 1) := by decide +kernel
theorem dX3_takeBar_93 : decode cX3_takeBar 93 = .ok (.iconst (-1), 1) := by decide +kernel
theorem dX3_takeBar_94 : decode cX3_takeBar 94 = .ok (.iastore, 1) := by decide +kernel
theorem dX3_takeBar_95 : decode cX3_takeBar 95 = .ok (.aload_n 0, 1) := by decide +kernel
theorem dX3_takeBar_96 : decode cX3_takeBar 96 = .ok (.getfield 28, 3) := by decide +kernel
theorem dX3_takeBar_99 : decode cX3_takeBar 99 = .ok (.invokevirtual 125, 3) := by decide +kernel
theorem dX3_takeBar_102 : decode cX3_takeBar 102 = .ok (.aload_n 0, 1) := by decide +kernel
theorem dX3_takeBar_103 : decode cX3_takeBar 103 = .ok (.getfield 28, 3) := by decide +kernel
theorem dX3_takeBar_106 : decode cX3_takeBar 106 = .ok (.ldc 159, 2) := by decide +kernel
theorem dX3_takeBar_108 : decode cX3_takeBar 108 = .ok (.iconst 1, 1) := by decide +kernel
theorem dX3_takeBar_109 : decode cX3_takeBar 109 = .ok (.bipush 9, 2) := by decide +kernel
theorem dX3_takeBar_111 : decode cX3_takeBar 111 = .ok (.invokevirtual 59, 3) := by decide +kernel
theorem dX3_takeBar_114 : decode cX3_takeBar 114 = .ok (.ifCond .ne 5, 3) := by decide +kernel
theorem dX3_takeBar_117 : decode cX3_takeBar 117 = .ok (.iconst 0, 1) := by decide +kernel
theorem dX3_takeBar_118 : decode cX3_takeBar 118 = .ok (.ireturn, 1) := by decide +kernel
theorem dX3_takeBar_119 : decode cX3_takeBar 119 = .ok (.aload_n 0, 1) := by decide +kernel
theorem dX3_takeBar_120 : decode cX3_takeBar 120 = .ok (.getfield 32, 3) := by decide +kernel
theorem dX3_takeBar_123 : decode cX3_takeBar 123 = .ok (.getfield 161, 3) := by decide +kernel
theorem dX3_takeBar_126 : decode cX3_takeBar 126 = .ok (.iload_n 1, 1) := by decide +kernel
theorem dX3_takeBar_127 : decode cX3_takeBar 127 = .ok (.aload_n 0, 1) := by decide +kernel
theorem dX3_takeBar_128 : decode cX3_takeBar 128 = .ok (.getfield 28, 3) := by decide +kernel
theorem dX3_takeBar_131 : decode cX3_takeBar 131 = .ok (.getfield 63, 3) := by decide +kernel
theorem dX3_takeBar_134 : decode cX3_takeBar 134 = .ok (.iastore, 1) := by decide +kernel
theorem dX3_takeBar_135 : decode cX3_takeBar 135 = .ok (.aload_n 0, 1) := by decide +kernel
theorem dX3_takeBar_136 : decode cX3_takeBar 136 = .ok (.getfield 28, 3) := by decide +kernel
theorem dX3_takeBar_139 : decode cX3_takeBar 139 = .ok (.ldc 163, 2) := by decide +kernel
theorem dX3_takeBar_141 : decode cX3_takeBar 141 = .ok (.iconst 0, 1) := by decide +kernel
theorem dX3_takeBar_142 : decode cX3_takeBar 142 = .ok (.bipush 16, 2) := by decide +kernel
theorem dX3_takeBar_144 : decode cX3_takeBar 144 = .ok (.invokevirtual 59, 3) := by decide +kernel
theorem dX3_takeBar_147 : decode cX3_takeBar 147 = .ok (.ifCond .ne 5, 3) := by decide +kernel
theorem dX3_takeBar_150 : decode cX3_takeBar 150 = .ok (.iconst 0, 1) := by decide +kernel
theorem dX3_takeBar_151 : decode cX3_takeBar 151 = .ok (.ireturn, 1) := by decide +kernel
theorem dX3_takeBar_152 : decode cX3_takeBar 152 = .ok (.aload_n 0, 1) := by decide +kernel
theorem dX3_takeBar_153 : decode cX3_takeBar 153 = .ok (.getfield 32, 3) := by decide +kernel
theorem dX3_takeBar_156 : decode cX3_takeBar 156 = .ok (.getfield 165, 3) := by decide +kernel
theorem dX3_takeBar_159 : decode cX3_takeBar 159 = .ok (.iload_n 1, 1) := by decide +kernel
theorem dX3_takeBar_160 : decode cX3_takeBar 160 = .ok (.aload_n 0, 1) := by decide +kernel
theorem dX3_takeBar_161 : decode cX3_takeBar 161 = .ok (.getfield 28, 3) := by decide +kernel
theorem dX3_takeBar_164 : decode cX3_takeBar 164 = .ok (.getfield 63, 3) := by decide +kernel
theorem dX3_takeBar_167 : decode cX3_takeBar 167 = .ok (.iastore, 1) := by decide +kernel
theorem dX3_takeBar_168 : decode cX3_takeBar 168 = .ok (.aload_n 0, 1) := by decide +kernel
theorem dX3_takeBar_169 : decode cX3_takeBar 169 = .ok (.getfield 28, 3) := by decide +kernel
theorem dX3_takeBar_172 : decode cX3_takeBar 172 = .ok (.ldc 168, 2) := by decide +kernel
theorem dX3_takeBar_174 : decode cX3_takeBar 174 = .ok (.iconst 0, 1) := by decide +kernel
theorem dX3_takeBar_175 : decode cX3_takeBar 175 = .ok (.bipush 16, 2) := by decide +kernel
theorem dX3_takeBar_177 : decode cX3_takeBar 177 = .ok (.invokevirtual 59, 3) := by decide +kernel
theorem dX3_takeBar_180 : decode cX3_takeBar 180 = .ok (.ifCond .ne 5, 3) := by decide +kernel
theorem dX3_takeBar_183 : decode cX3_takeBar 183 = .ok (.iconst 0, 1) := by decide +kernel
theorem dX3_takeBar_184 : decode cX3_takeBar 184 = .ok (.ireturn, 1) := by decide +kernel
theorem dX3_takeBar_185 : decode cX3_takeBar 185 = .ok (.aload_n 0, 1) := by decide +kernel
theorem dX3_takeBar_186 : decode cX3_takeBar 186 = .ok (.getfield 32, 3) := by decide +kernel
theorem dX3_takeBar_189 : decode cX3_takeBar 189 = .ok (.getfield 170, 3) := by decide +kernel
theorem dX3_takeBar_192 : decode cX3_takeBar 192 = .ok (.iload_n 1, 1) := by decide +kernel
theorem dX3_takeBar_193 : decode cX3_takeBar 193 = .ok (.aload_n 0, 1) := by decide +kernel
theorem dX3_takeBar_194 : decode cX3_takeBar 194 = .ok (.getfield 28, 3) := by decide +kernel
theorem dX3_takeBar_197 : decode cX3_takeBar 197 = .ok (.getfield 63, 3) := by decide +kernel
theorem dX3_takeBar_200 : decode cX3_takeBar 200 = .ok (.iastore, 1) := by decide +kernel
theorem dX3_takeBar_201 : decode cX3_takeBar 201 = .ok (.aload_n 0, 1) := by decide +kernel
theorem dX3_takeBar_202 : decode cX3_takeBar 202 = .ok (.getfield 28, 3) := by decide +kernel
theorem dX3_takeBar_205 : decode cX3_takeBar 205 = .ok (.ldc 172, 2) := by decide +kernel
theorem dX3_takeBar_207 : decode cX3_takeBar 207 = .ok (.iconst 0, 1) := by decide +kernel
theorem dX3_takeBar_208 : decode cX3_takeBar 208 = .ok (.bipush 16, 2) := by decide +kernel
theorem dX3_takeBar_210 : decode cX3_takeBar 210 = .ok (.invokevirtual 59, 3) := by decide +kernel
theorem dX3_takeBar_213 : decode cX3_takeBar 213 = .ok (.ifCond .ne 5, 3) := by decide +kernel
theorem dX3_takeBar_216 : decode cX3_takeBar 216 = .ok (.iconst 0, 1) := by decide +kernel
theorem dX3_takeBar_217 : decode cX3_takeBar 217 = .ok (.ireturn, 1) := by decide +kernel
theorem dX3_takeBar_218 : decode cX3_takeBar 218 = .ok (.aload_n 0, 1) := by decide +kernel
theorem dX3_takeBar_219 : decode cX3_takeBar 219 = .ok (.getfield 32, 3) := by decide +kernel
theorem dX3_takeBar_222 : decode cX3_takeBar 222 = .ok (.getfield 174, 3) := by decide +kernel
theorem dX3_takeBar_225 : decode cX3_takeBar 225 = .ok (.iload_n 1, 1) := by decide +kernel
theorem dX3_takeBar_226 : decode cX3_takeBar 226 = .ok (.aload_n 0, 1) := by decide +kernel
theorem dX3_takeBar_227 : decode cX3_takeBar 227 = .ok (.getfield 28, 3) := by decide +kernel
theorem dX3_takeBar_230 : decode cX3_takeBar 230 = .ok (.getfield 63, 3) := by decide +kernel
theorem dX3_takeBar_233 : decode cX3_takeBar 233 = .ok (.iastore, 1) := by decide +kernel
theorem dX3_takeBar_234 : decode cX3_takeBar 234 = .ok (.aload_n 0, 1) := by decide +kernel
theorem dX3_takeBar_235 : decode cX3_takeBar 235 = .ok (.getfield 32, 3) := by decide +kernel
theorem dX3_takeBar_238 : decode cX3_takeBar 238 = .ok (.dup, 1) := by decide +kernel
theorem dX3_takeBar_239 : decode cX3_takeBar 239 = .ok (.getfield 138, 3) := by decide +kernel
theorem dX3_takeBar_242 : decode cX3_takeBar 242 = .ok (.iconst 1, 1) := by decide +kernel
theorem dX3_takeBar_243 : decode cX3_takeBar 243 = .ok (.iadd, 1) := by decide +kernel
theorem dX3_takeBar_244 : decode cX3_takeBar 244 = .ok (.putfield 138, 3) := by decide +kernel
theorem dX3_takeBar_247 : decode cX3_takeBar 247 = .ok (.aload_n 0, 1) := by decide +kernel
theorem dX3_takeBar_248 : decode cX3_takeBar 248 = .ok (.getfield 28, 3) := by decide +kernel
theorem dX3_takeBar_251 : decode cX3_takeBar 251 = .ok (.invokevirtual 76, 3) := by decide +kernel
theorem dX3_takeBar_254 : decode cX3_takeBar 254 = .ok (.ireturn, 1) := by decide +kernel
theorem dX3_takeAt_0 : decode cX3_takeAt 0 = .ok (.aload_n 0, 1) := by decide +kernel
theorem dX3_takeAt_1 : decode cX3_takeAt 1 = .ok (.getfield 28, 3) := by decide +kernel
theorem dX3_takeAt_4 : decode cX3_takeAt 4 = .ok (.invokevirtual 125, 3) := by decide +kernel
theorem dX3_takeAt_7 : decode cX3_takeAt 7 = .ok (.aload_n 0, 1) := by decide +kernel
theorem dX3_takeAt_8 : decode cX3_takeAt 8 = .ok (.getfield 28, 3) := by decide +kernel
theorem dX3_takeAt_11 : decode cX3_takeAt 11 = .ok (.invokevirtual 141, 3) := by decide +kernel
theorem dX3_takeAt_14 : decode cX3_takeAt 14 = .ok (.ifCond .ne 5, 3) := by decide +kernel
theorem dX3_takeAt_17 : decode cX3_takeAt 17 = .ok (.iconst 0, 1) := by decide +kernel
theorem dX3_takeAt_18 : decode cX3_takeAt 18 = .ok (.ireturn, 1) := by decide +kernel
theorem dX3_takeAt_19 : decode cX3_takeAt 19 = .ok (.aload_n 0, 1) := by decide +kernel
theorem dX3_takeAt_20 : decode cX3_takeAt 20 = .ok (.getfield 32, 3) := by decide +kernel
theorem dX3_takeAt_23 : decode cX3_takeAt 23 = .ok (.aload_n 0, 1) := by decide +kernel
theorem dX3_takeAt_24 : decode cX3_takeAt 24 = .ok (.getfield 28, 3) := by decide +kernel
theorem dX3_takeAt_27 : decode cX3_takeAt 27 = .ok (.getfield 144, 3) := by decide +kernel
theorem dX3_takeAt_30 : decode cX3_takeAt 30 = .ok (.invokevirtual 148, 3) := by decide +kernel
theorem dX3_takeAt_33 : decode cX3_takeAt 33 = .ok (.istore_n 1, 1) := by decide +kernel
theorem dX3_takeAt_34 : decode cX3_takeAt 34 = .ok (.iload_n 1, 1) := by decide +kernel
theorem dX3_takeAt_35 : decode cX3_takeAt 35 = .ok (.iconst (-1), 1) := by decide +kernel
theorem dX3_takeAt_36 : decode cX3_takeAt 36 = .ok (.if_icmp .ne 12, 3) := by decide +kernel
theorem dX3_takeAt_39 : decode cX3_takeAt 39 = .ok (.aload_n 0, 1) := by decide +kernel
theorem dX3_takeAt_40 : decode cX3_takeAt 40 = .ok (.getfield 28, 3) := by decide +kernel
theorem dX3_takeAt_43 : decode cX3_takeAt 43 = .ok (.iconst 3, 1) := by decide +kernel
theorem dX3_takeAt_44 : decode cX3_takeAt 44 = .ok (.invokevirtual 121, 3) := by decide +kernel
theorem dX3_takeAt_47 : decode cX3_takeAt 47 = .ok (.ireturn, 1) := by decide +kernel
theorem dX3_takeAt_48 : decode cX3_takeAt 48 = .ok (.aload_n 0, 1) := by decide +kernel
theorem dX3_takeAt_49 : decode cX3_takeAt 49 = .ok (.getfield 28, 3) := by decide +kernel
theorem dX3_takeAt_52 : decode cX3_takeAt 52 = .ok (.invokevirtual 125, 3) := by decide +kernel
theorem dX3_takeAt_55 : decode cX3_takeAt 55 = .ok (.aload_n 0, 1) := by decide +kernel
theorem dX3_takeAt_56 : decode cX3_takeAt 56 = .ok (.getfield 28, 3) := by decide +kernel
theorem dX3_takeAt_59 : decode cX3_takeAt 59 = .ok (.iconst 0, 1) := by decide +kernel
theorem dX3_takeAt_60 : decode cX3_takeAt 60 = .ok (.aload_n 0, 1) := by decide +kernel
theorem dX3_takeAt_61 : decode cX3_takeAt 61 = .ok (.getfield 32, 3) := by decide +kernel
theorem dX3_takeAt_64 : decode cX3_takeAt 64 = .ok (.getfield 66, 3) := by decide +kernel
theorem dX3_takeAt_67 : decode cX3_takeAt 67 = .ok (.iconst 1, 1) := by decide +kernel
theorem dX3_takeAt_68 : decode cX3_takeAt 68 = .ok (.isub, 1) := by decide +kernel
theorem dX3_takeAt_69 : decode cX3_takeAt 69 = .ok (.invokevirtual 69, 3) := by decide +kernel
theorem dX3_takeAt_72 : decode cX3_takeAt 72 = .ok (.ifCond .ne 5, 3) := by decide +kernel
theorem dX3_takeAt_75 : decode cX3_takeAt 75 = .ok (.iconst 0, 1) := by decide +kernel
theorem dX3_takeAt_76 : decode cX3_takeAt 76 = .ok (.ireturn, 1) := by decide +kernel
theorem dX3_takeAt_77 : decode cX3_takeAt 77 = .ok (.aload_n 0, 1) := by decide +kernel
theorem dX3_takeAt_78 : decode cX3_takeAt 78 = .ok (.getfield 28, 3) := by decide +kernel
theorem dX3_takeAt_81 : decode cX3_takeAt 81 = .ok (.getfield 63, 3) := by decide +kernel
theorem dX3_takeAt_84 : decode cX3_takeAt 84 = .ok (.istore_n 2, 1) := by decide +kernel
theorem dX3_takeAt_85 : decode cX3_takeAt 85 = .ok (.aload_n 0, 1) := by decide +kernel
theorem dX3_takeAt_86 : decode cX3_takeAt 86 = .ok (.getfield 28, 3) := by decide +kernel
theorem dX3_takeAt_89 : decode cX3_takeAt 89 = .ok (.iconst 0, 1) := by decide +kernel
theorem dX3_takeAt_90 : decode cX3_takeAt 90 = .ok (.aload_n 0, 1) := by decide +kernel
theorem dX3_takeAt_91 : decode cX3_takeAt 91 = .ok (.getfield 32, 3) := by decide +kernel
theorem dX3_takeAt_94 : decode cX3_takeAt 94 = .ok (.getfield 73, 3) := by decide +kernel
theorem dX3_takeAt_97 : decode cX3_takeAt 97 = .ok (.iconst 1, 1) := by decide +kernel
theorem dX3_takeAt_98 : decode cX3_takeAt 98 = .ok (.isub, 1) := by decide +kernel
theorem dX3_takeAt_99 : decode cX3_takeAt 99 = .ok (.invokevirtual 69, 3) := by decide +kernel
theorem dX3_takeAt_102 : decode cX3_takeAt 102 = .ok (.ifCond .ne 5, 3) := by decide +kernel
theorem dX3_takeAt_105 : decode cX3_takeAt 105 = .ok (.iconst 0, 1) := by decide +kernel
theorem dX3_takeAt_106 : decode cX3_takeAt 106 = .ok (.ireturn, 1) := by decide +kernel
theorem dX3_takeAt_107 : decode cX3_takeAt 107 = .ok (.aload_n 0, 1) := by decide +kernel
theorem dX3_takeAt_108 : decode cX3_takeAt 108 = .ok (.getfield 28, 3) := by decide +kernel
theorem dX3_takeAt_111 : decode cX3_takeAt 111 = .ok (.getfield 63, 3) := by decide +kernel
theorem dX3_takeAt_114 : decode cX3_takeAt 114 = .ok (.istore_n 3, 1) := by decide +kernel
theorem dX3_takeAt_115 : decode cX3_takeAt 115 = .ok (.aload_n 0, 1) := by decide +kernel
theorem dX3_takeAt_116 : decode cX3_takeAt 116 = .ok (.getfield 28, 3) := by decide +kernel
theorem dX3_takeAt_119 : decode cX3_takeAt 119 = .ok (.ldc 176, 2) := by decide +kernel
theorem dX3_takeAt_121 : decode cX3_takeAt 121 = .ok (.iload_n 2, 1) := by decide +kernel
theorem dX3_takeAt_122 : decode cX3_takeAt 122 = .ok (.aload_n 0, 1) := by decide +kernel
theorem dX3_takeAt_123 : decode cX3_takeAt 123 = .ok (.getfield 32, 3) := by decide +kernel
theorem dX3_takeAt_126 : decode cX3_takeAt 126 = .ok (.getfield 66, 3) := by decide +kernel
theorem dX3_takeAt_129 : decode cX3_takeAt 129 = .ok (.iconst 1, 1) := by decide +kernel
theorem dX3_takeAt_130 : decode cX3_takeAt 130 = .ok (.isub, 1) := by decide +kernel
theorem dX3_takeAt_131 : decode cX3_takeAt 131 = .ok (.invokevirtual 59, 3) := by decide +kernel
theorem dX3_takeAt_134 : decode cX3_takeAt 134 = .ok (.ifCond .ne 5, 3) := by decide +kernel
theorem dX3_takeAt_137 : decode cX3_takeAt 137 = .ok (.iconst 0, 1) := by decide +kernel
theorem dX3_takeAt_138 : decode cX3_takeAt 138 = .ok (.ireturn, 1) := by decide +kernel
theorem dX3_takeAt_139 : decode cX3_takeAt 139 = .ok (.aload_n 0, 1) := by decide +kernel
theorem dX3_takeAt_140 : decode cX3_takeAt 140 = .ok (.getfield 28, 3) := by decide +kernel
theorem dX3_takeAt_143 : decode cX3_takeAt 143 = .ok (.getfield 63, 3) := by decide +kernel
theorem dX3_takeAt_146 : decode cX3_takeAt 146 = .ok (.istore 4, 2) := by decide +kernel
theorem dX3_takeAt_148 : decode cX3_takeAt 148 = .ok (.aload_n 0, 1) := by decide +kernel
theorem dX3_takeAt_149 : decode cX3_takeAt 149 = .ok (.getfield 28, 3) := by decide +kernel
theorem dX3_takeAt_152 : decode cX3_takeAt 152 = .ok (.iload_n 3, 1) := by decide +kernel
theorem dX3_takeAt_153 : decode cX3_takeAt 153 = .ok (.aload_n 0, 1) := by decide +kernel
theorem dX3_takeAt_154 : decode cX3_takeAt 154 = .ok (.getfield 32, 3) := by decide +kernel
theorem dX3_takeAt_157 : decode cX3_takeAt 157 = .ok (.getfield 73, 3) := by decide +kernel
theorem dX3_takeAt_160 : decode cX3_takeAt 160 = .ok (.iconst 1, 1) := by decide +kernel
theorem dX3_takeAt_161 : decode cX3_takeAt 161 = .ok (.isub, 1) := by decide +kernel
theorem dX3_takeAt_162 : decode cX3_takeAt 162 = .ok (.invokevirtual 128, 3) := by decide +kernel
theorem dX3_takeAt_165 : decode cX3_takeAt 165 = .ok (.ifCond .ne 5, 3) := by decide +kernel
theorem dX3_takeAt_168 : decode cX3_takeAt 168 = .ok (.iconst 0, 1) := by decide +kernel
theorem dX3_takeAt_169 : decode cX3_takeAt 169 = .ok (.ireturn, 1) := by decide +kernel
theorem dX3_takeAt_170 : decode cX3_takeAt 170 = .ok (.aload_n 0, 1) := by decide +kernel
theorem dX3_takeAt_171 : decode cX3_takeAt 171 = .ok (.iload_n 1, 1) := by decide +kernel
theorem dX3_takeAt_172 : decode cX3_takeAt 172 = .ok (.iload_n 2, 1) := by decide +kernel
theorem dX3_takeAt_173 : decode cX3_takeAt 173 = .ok (.iload_n 3, 1) := by decide +kernel
theorem dX3_takeAt_174 : decode cX3_takeAt 174 = .ok (.iload 4, 2) := by decide +kernel
theorem dX3_takeAt_176 : decode cX3_takeAt 176 = .ok (.aload_n 0, 1) := by decide +kernel
theorem dX3_takeAt_177 : decode cX3_takeAt 177 = .ok (.getfield 28, 3) := by decide +kernel
theorem dX3_takeAt_180 : decode cX3_takeAt 180 = .ok (.getfield 135, 3) := by decide +kernel
theorem dX3_takeAt_183 : decode cX3_takeAt 183 = .ok (.invokevirtual 178, 3) := by decide +kernel
theorem dX3_takeAt_186 : decode cX3_takeAt 186 = .ok (.ifCond .ne 12, 3) := by decide +kernel
theorem dX3_takeAt_189 : decode cX3_takeAt 189 = .ok (.aload_n 0, 1) := by decide +kernel
theorem dX3_takeAt_190 : decode cX3_takeAt 190 = .ok (.getfield 28, 3) := by decide +kernel
theorem dX3_takeAt_193 : decode cX3_takeAt 193 = .ok (.iconst 5, 1) := by decide +kernel
theorem dX3_takeAt_194 : decode cX3_takeAt 194 = .ok (.invokevirtual 121, 3) := by decide +kernel
theorem dX3_takeAt_197 : decode cX3_takeAt 197 = .ok (.ireturn, 1) := by decide +kernel
theorem dX3_takeAt_198 : decode cX3_takeAt 198 = .ok (.aload_n 0, 1) := by decide +kernel
theorem dX3_takeAt_199 : decode cX3_takeAt 199 = .ok (.getfield 28, 3) := by decide +kernel
theorem dX3_takeAt_202 : decode cX3_takeAt 202 = .ok (.invokevirtual 125, 3) := by decide +kernel
theorem dX3_takeAt_205 : decode cX3_takeAt 205 = .ok (.aload_n 0, 1) := by decide +kernel
theorem dX3_takeAt_206 : decode cX3_takeAt 206 = .ok (.getfield 28, 3) := by decide +kernel
theorem dX3_takeAt_209 : decode cX3_takeAt 209 = .ok (.invokevirtual 76, 3) := by decide +kernel
theorem dX3_takeAt_212 : decode cX3_takeAt 212 = .ok (.ireturn, 1) := by decide +kernel
theorem dX3_giveCells_0 : decode cX3_giveCells 0 = .ok (.iload_n 3, 1) := by decide +kernel
theorem dX3_giveCells_1 : decode cX3_giveCells 1 = .ok (.istore 6, 2) := by decide +kernel
theorem dX3_giveCells_3 : decode cX3_giveCells 3 = .ok (.iload 6, 2) := by decide +kernel
theorem dX3_giveCells_5 : decode cX3_giveCells 5 = .ok (.iload 5, 2) := by decide +kernel
theorem dX3_giveCells_7 : decode cX3_giveCells 7 = .ok (.if_icmp .gt 105, 3) := by decide +kernel
theorem dX3_giveCells_10 : decode cX3_giveCells 10 = .ok (.iload_n 2, 1) := by decide +kernel
theorem dX3_giveCells_11 : decode cX3_giveCells 11 = .ok (.istore 7, 2) := by decide +kernel
theorem dX3_giveCells_13 : decode cX3_giveCells 13 = .ok (.iload 7, 2) := by decide +kernel
theorem dX3_giveCells_15 : decode cX3_giveCells 15 = .ok (.iload 4, 2) := by decide +kernel
theorem dX3_giveCells_17 : decode cX3_giveCells 17 = .ok (.if_icmp .gt 89, 3) := by decide +kernel
theorem dX3_giveCells_20 : decode cX3_giveCells 20 = .ok (.iload 6, 2) := by decide +kernel
theorem dX3_giveCells_22 : decode cX3_giveCells 22 = .ok (.aload_n 0, 1) := by decide +kernel
theorem dX3_giveCells_23 : decode cX3_giveCells 23 = .ok (.getfield 32, 3) := by decide +kernel
theorem dX3_giveCells_26 : decode cX3_giveCells 26 = .ok (.getfield 66, 3) := by decide +kernel
theorem dX3_giveCells_29 : decode cX3_giveCells 29 = .ok (.imul, 1) := by decide +kernel
theorem dX3_giveCells_30 : decode cX3_giveCells 30 = .ok (.iload 7, 2) := by decide +kernel
theorem dX3_giveCells_32 : decode cX3_giveCells 32 = .ok (.iadd, 1) := by decide +kernel
theorem dX3_giveCells_33 : decode cX3_giveCells 33 = .ok (.istore 8, 2) := by decide +kernel
theorem dX3_giveCells_35 : decode cX3_giveCells 35 = .ok (.aload_n 0, 1) := by decide +kernel
theorem dX3_giveCells_36 : decode cX3_giveCells 36 = .ok (.getfield 32, 3) := by decide +kernel
theorem dX3_giveCells_39 : decode cX3_giveCells 39 = .ok (.getfield 182, 3) := by decide +kernel
theorem dX3_giveCells_42 : decode cX3_giveCells 42 = .ok (.iload 8, 2) := by decide +kernel
theorem dX3_giveCells_44 : decode cX3_giveCells 44 = .ok (.iaload, 1) := by decide +kernel
theorem dX3_giveCells_45 : decode cX3_giveCells 45 = .ok (.iconst (-1), 1) := by decide +kernel
theorem dX3_giveCells_46 : decode cX3_giveCells 46 = .ok (.if_icmp .eq 5, 3) := by decide +kernel
theorem dX3_giveCells_49 : decode cX3_giveCells 49 = .ok (.iconst 0, 1) := by decide +kernel
theorem dX3_giveCells_50 : decode cX3_giveCells 50 = .ok (.ireturn, 1) := by decide +kernel
theorem dX3_giveCells_51 : decode cX3_giveCells 51 = .ok (.aload_n 0, 1) := by decide +kernel
theorem dX3_giveCells_52 : decode cX3_giveCells 52 = .ok (.getfield 32, 3) := by decide +kernel
theorem dX3_giveCells_55 : decode cX3_giveCells 55 = .ok (.getfield 182, 3) := by decide +kernel
theorem dX3_giveCells_58 : decode cX3_giveCells 58 = .ok (.iload 8, 2) := by decide +kernel
theorem dX3_giveCells_60 : decode cX3_giveCells 60 = .ok (.iload_n 1, 1) := by decide +kernel
theorem dX3_giveCells_61 : decode cX3_giveCells 61 = .ok (.iastore, 1) := by decide +kernel
theorem dX3_giveCells_62 : decode cX3_giveCells 62 = .ok (.aload_n 0, 1) := by decide +kernel
theorem dX3_giveCells_63 : decode cX3_giveCells 63 = .ok (.getfield 32, 3) := by decide +kernel
theorem dX3_giveCells_66 : decode cX3_giveCells 66 = .ok (.getfield 156, 3) := by decide +kernel
theorem dX3_giveCells_69 : decode cX3_giveCells 69 = .ok (.iload_n 1, 1) := by decide +kernel
theorem dX3_giveCells_70 : decode cX3_giveCells 70 = .ok (.iaload, 1) := by decide +kernel
theorem dX3_giveCells_71 : decode cX3_giveCells 71 = .ok (.iconst (-1), 1) := by decide +kernel
theorem dX3_giveCells_72 : decode cX3_giveCells 72 = .ok (.if_icmp .eq 17, 3) := by decide +kernel
theorem dX3_giveCells_75 : decode cX3_giveCells 75 = .ok (.iload 8, 2) := by decide +kernel
theorem dX3_giveCells_77 : decode cX3_giveCells 77 = .ok (.aload_n 0, 1) := by decide +kernel
theorem dX3_giveCells_78 : decode cX3_giveCells 78 = .ok (.getfield 32, 3) := by decide +kernel
theorem dX3_giveCells_81 : decode cX3_giveCells 81 = .ok (.getfield 156, 3) := by decide +kernel
theorem dX3_giveCells_84 : decode cX3_giveCells 84 = .ok (.iload_n 1, 1) := by decide +kernel
theorem dX3_giveCells_85 : decode cX3_giveCells 85 = .ok (.iaload, 1) := by decide +kernel
theorem dX3_giveCells_86 : decode cX3_giveCells 86 = .ok (.if_icmp .ge 14, 3) := by decide +kernel
theorem dX3_giveCells_89 : decode cX3_giveCells 89 = .ok (.aload_n 0, 1) := by decide +kernel
theorem dX3_giveCells_90 : decode cX3_giveCells 90 = .ok (.getfield 32, 3) := by decide +kernel
theorem dX3_giveCells_93 : decode cX3_giveCells 93 = .ok (.getfield 156, 3) := by decide +kernel
theorem dX3_giveCells_96 : decode cX3_giveCells 96 = .ok (.iload_n 1, 1) := by decide +kernel
theorem dX3_giveCells_97 : decode cX3_giveCells 97 = .ok (.iload 8, 2) := by decide +kernel
theorem dX3_giveCells_99 : decode cX3_giveCells 99 = .ok (.iastore, 1) := by decide +kernel
theorem dX3_giveCells_100 : decode cX3_giveCells 100 = .ok (.iinc 7 1, 3) := by decide +kernel
theorem dX3_giveCells_103 : decode cX3_giveCells 103 = .ok (.goto (-90), 3) := by decide +kernel
theorem dX3_giveCells_106 : decode cX3_giveCells 106 = .ok (.iinc 6 1, 3) := by decide +kernel
theorem dX3_giveCells_109 : decode cX3_giveCells 109 = .ok (.goto (-106), 3) := by decide +kernel
theorem dX3_giveCells_112 : decode cX3_giveCells 112 = .ok (.iconst 1, 1) := by decide +kernel
theorem dX3_giveCells_113 : decode cX3_giveCells 113 = .ok (.ireturn, 1) := by decide +kernel
theorem dX3_takeStage_0 : decode cX3_takeStage 0 = .ok (.aload_n 0, 1) := by decide +kernel
theorem dX3_takeStage_1 : decode cX3_takeStage 1 = .ok (.getfield 15, 3) := by decide +kernel
theorem dX3_takeStage_4 : decode cX3_takeStage 4 = .ok (.ifCond .eq 12, 3) := by decide +kernel
theorem dX3_takeStage_7 : decode cX3_takeStage 7 = .ok (.aload_n 0, 1) := by decide +kernel
theorem dX3_takeStage_8 : decode cX3_takeStage 8 = .ok (.getfield 28, 3) := by decide +kernel
theorem dX3_takeStage_11 : decode cX3_takeStage 11 = .ok (.iconst 5, 1) := by decide +kernel
theorem dX3_takeStage_12 : decode cX3_takeStage 12 = .ok (.invokevirtual 121, 3) := by decide +kernel
theorem dX3_takeStage_15 : decode cX3_takeStage 15 = .ok (.ireturn, 1) := by decide +kernel
theorem dX3_takeStage_16 : decode cX3_takeStage 16 = .ok (.aload_n 0, 1) := by decide +kernel
theorem dX3_takeStage_17 : decode cX3_takeStage 17 = .ok (.iconst 1, 1) := by decide +kernel
theorem dX3_takeStage_18 : decode cX3_takeStage 18 = .ok (.putfield 15, 3) := by decide +kernel
theorem dX3_takeStage_21 : decode cX3_takeStage 21 = .ok (.aload_n 0, 1) := by decide +kernel
theorem dX3_takeStage_22 : decode cX3_takeStage 22 = .ok (.getfield 28, 3) := by decide +kernel
theorem dX3_takeStage_25 : decode cX3_takeStage 25 = .ok (.invokevirtual 125, 3) := by decide +kernel
theorem dX3_takeStage_28 : decode cX3_takeStage 28 = .ok (.iconst 0, 1) := by decide +kernel
theorem dX3_takeStage_29 : decode cX3_takeStage 29 = .ok (.istore_n 1, 1) := by decide +kernel
theorem dX3_takeStage_30 : decode cX3_takeStage 30 = .ok (.iload_n 1, 1) := by decide +kernel
theorem dX3_takeStage_31 : decode cX3_takeStage 31 = .ok (.bipush 12, 2) := by decide +kernel
theorem dX3_takeStage_33 : decode cX3_takeStage 33 = .ok (.if_icmp .gt 130, 3) := by decide +kernel
theorem dX3_takeStage_36 : decode cX3_takeStage 36 = .ok (.iload_n 1, 1) := by decide +kernel
theorem dX3_takeStage_37 : decode cX3_takeStage 37 = .ok (.ifCond .eq 14, 3) := by decide +kernel
theorem dX3_takeStage_40 : decode cX3_takeStage 40 = .ok (.aload_n 0, 1) := by decide +kernel
theorem dX3_takeStage_41 : decode cX3_takeStage 41 = .ok (.getfield 28, 3) := by decide +kernel
theorem dX3_takeStage_44 : decode cX3_takeStage 44 = .ok (.getfield 51, 3) := by decide +kernel
theorem dX3_takeStage_47 : decode cX3_takeStage 47 = .ok (.iconst 3, 1) := by decide +kernel
theorem dX3_takeStage_48 : decode cX3_takeStage 48 = .ok (.if_icmp .eq 115, 3) := by decide +kernel
theorem dX3_takeStage_51 : decode cX3_takeStage 51 = .ok (.aload_n 0, 1) := by decide +kernel
theorem dX3_takeStage_52 : decode cX3_takeStage 52 = .ok (.getfield 28, 3) := by decide +kernel
theorem dX3_takeStage_55 : decode cX3_takeStage 55 = .ok (.ldc 185, 2) := by decide +kernel
theorem dX3_takeStage_57 : decode cX3_takeStage 57 = .ok (.invokevirtual 81, 3) := by decide +kernel
theorem dX3_takeStage_60 : decode cX3_takeStage 60 = .ok (.istore_n 2, 1) := by decide +kernel
theorem dX3_takeStage_61 : decode cX3_takeStage 61 = .ok (.iload_n 2, 1) := by decide +kernel
theorem dX3_takeStage_62 : decode cX3_takeStage 62 = .ok (.ifCond .eq 26, 3) := by decide +kernel
theorem dX3_takeStage_65 : decode cX3_takeStage 65 = .ok (.iload_n 1, 1) := by decide +kernel
theorem dX3_takeStage_66 : decode cX3_takeStage 66 = .ok (.bipush 12, 2) := by decide +kernel
theorem dX3_takeStage_68 : decode cX3_takeStage 68 = .ok (.if_icmp .lt 13, 3) := by decide +kernel
theorem dX3_takeStage_71 : decode cX3_takeStage 71 = .ok (.aload_n 0, 1) := by decide +kernel
theorem dX3_takeStage_72 : decode cX3_takeStage 72 = .ok (.getfield 28, 3) := by decide +kernel
theorem dX3_takeStage_75 : decode cX3_takeStage 75 = .ok (.bipush 6, 2) := by decide +kernel
theorem dX3_takeStage_77 : decode cX3_takeStage 77 = .ok (.invokevirtual 121, 3) := by decide +kernel
theorem dX3_takeStage_80 : decode cX3_takeStage 80 = .ok (.ireturn, 1) := by decide +kernel
theorem dX3_takeStage_81 : decode cX3_takeStage 81 = .ok (.aload_n 0, 1) := by decide +kernel
theorem dX3_takeStage_82 : decode cX3_takeStage 82 = .ok (.getfield 28, 3) := by decide +kernel
theorem dX3_takeStage_85 : decode cX3_takeStage 85 = .ok (.invokevirtual 125, 3) := by decide +kernel
theorem dX3_takeStage_88 : decode cX3_takeStage 88 = .ok (.aload_n 0, 1) := by decide +kernel
theorem dX3_takeStage_89 : decode cX3_takeStage 89 = .ok (.getfield 28, 3) := by decide +kernel
theorem dX3_takeStage_92 : decode cX3_takeStage 92 = .ok (.iconst 0, 1) := by decide +kernel
theorem dX3_takeStage_93 : decode cX3_takeStage 93 = .ok (.bipush 9, 2) := by decide +kernel
theorem dX3_takeStage_95 : decode cX3_takeStage 95 = .ok (.invokevirtual 128, 3) := by decide +kernel
theorem dX3_takeStage_98 : decode cX3_takeStage 98 = .ok (.ifCond .ne 5, 3) := by decide +kernel
theorem dX3_takeStage_101 : decode cX3_takeStage 101 = .ok (.iconst 0, 1) := by decide +kernel
theorem dX3_takeStage_102 : decode cX3_takeStage 102 = .ok (.ireturn, 1) := by decide +kernel
theorem dX3_takeStage_103 : decode cX3_takeStage 103 = .ok (.iload_n 1, 1) := by decide +kernel
theorem dX3_takeStage_104 : decode cX3_takeStage 104 = .ok (.bipush 12, 2) := by decide +kernel
theorem dX3_takeStage_106 : decode cX3_takeStage 106 = .ok (.if_icmp .lt 13, 3) := by decide +kernel
theorem dX3_takeStage_109 : decode cX3_takeStage 109 = .ok (.aload_n 0, 1) := by decide +kernel
theorem dX3_takeStage_110 : decode cX3_takeStage 110 = .ok (.getfield 28, 3) := by decide +kernel
theorem dX3_takeStage_113 : decode cX3_takeStage 113 = .ok (.bipush 6, 2) := by decide +kernel
theorem dX3_takeStage_115 : decode cX3_takeStage 115 = .ok (.invokevirtual 121, 3) := by decide +kernel
theorem dX3_takeStage_118 : decode cX3_takeStage 118 = .ok (.ireturn, 1) := by decide +kernel
theorem dX3_takeStage_119 : decode cX3_takeStage 119 = .ok (.aload_n 0, 1) := by decide +kernel
theorem dX3_takeStage_120 : decode cX3_takeStage 120 = .ok (.getfield 32, 3) := by decide +kernel
theorem dX3_takeStage_123 : decode cX3_takeStage 123 = .ok (.getfield 187, 3) := by decide +kernel
theorem dX3_takeStage_126 : decode cX3_takeStage 126 = .ok (.iload_n 1, 1) := by decide +kernel
theorem dX3_takeStage_127 : decode cX3_takeStage 127 = .ok (.iload_n 2, 1) := by decide +kernel
theorem dX3_takeStage_128 : decode cX3_takeStage 128 = .ok (.ifCond .eq 14, 3) := by decide +kernel
theorem dX3_takeStage_131 : decode cX3_takeStage 131 = .ok (.aload_n 0, 1) := by decide +kernel
theorem dX3_takeStage_132 : decode cX3_takeStage 132 = .ok (.getfield 28, 3) := by decide +kernel
theorem dX3_takeStage_135 : decode cX3_takeStage 135 = .ok (.getfield 135, 3) := by decide +kernel
theorem dX3_takeStage_138 : decode cX3_takeStage 138 = .ok (.ineg, 1) := by decide +kernel
theorem dX3_takeStage_139 : decode cX3_takeStage 139 = .ok (.goto 10, 3) := by decide +kernel
theorem dX3_takeStage_142 : decode cX3_takeStage 142 = .ok (.aload_n 0, 1) := by decide +kernel
theorem dX3_takeStage_143 : decode cX3_takeStage 143 = .ok (.getfield 28, 3) := by decide +kernel
theorem dX3_takeStage_146 : decode cX3_takeStage 146 = .ok (.getfield 135, 3) := by decide +kernel
theorem dX3_takeStage_149 : decode cX3_takeStage 149 = .ok (.iastore, 1) := by decide +kernel
theorem dX3_takeStage_150 : decode cX3_takeStage 150 = .ok (.iinc 1 1, 3) := by decide +kernel
theorem dX3_takeStage_153 : decode cX3_takeStage 153 = .ok (.aload_n 0, 1) := by decide +kernel
theorem dX3_takeStage_154 : decode cX3_takeStage 154 = .ok (.getfield 28, 3) := by decide +kernel
theorem dX3_takeStage_157 : decode cX3_takeStage 157 = .ok (.invokevirtual 125, 3) := by decide +kernel
theorem dX3_takeStage_160 : decode cX3_takeStage 160 = .ok (.goto (-130), 3) := by decide +kernel
theorem dX3_takeStage_163 : decode cX3_takeStage 163 = .ok (.aload_n 0, 1) := by decide +kernel
theorem dX3_takeStage_164 : decode cX3_takeStage 164 = .ok (.getfield 28, 3) := by decide +kernel
theorem dX3_takeStage_167 : decode cX3_takeStage 167 = .ok (.invokevirtual 76, 3) := by decide +kernel
theorem dX3_takeStage_170 : decode cX3_takeStage 170 = .ok (.ireturn, 1) := by decide +kernel
theorem dX3_takeBoat_0 : decode cX3_takeBoat 0 = .ok (.aload_n 0, 1) := by decide +kernel
theorem dX3_takeBoat_1 : decode cX3_takeBoat 1 = .ok (.getfield 19, 3) := by decide +kernel
theorem dX3_takeBoat_4 : decode cX3_takeBoat 4 = .ok (.ifCond .eq 12, 3) := by decide +kernel
theorem dX3_takeBoat_7 : decode cX3_takeBoat 7 = .ok (.aload_n 0, 1) := by decide +kernel
theorem dX3_takeBoat_8 : decode cX3_takeBoat 8 = .ok (.getfield 28, 3) := by decide +kernel
theorem dX3_takeBoat_11 : decode cX3_takeBoat 11 = .ok (.iconst 5, 1) := by decide +kernel
theorem dX3_takeBoat_12 : decode cX3_takeBoat 12 = .ok (.invokevirtual 121, 3) := by decide +kernel
theorem dX3_takeBoat_15 : decode cX3_takeBoat 15 = .ok (.ireturn, 1) := by decide +kernel
theorem dX3_takeBoat_16 : decode cX3_takeBoat 16 = .ok (.aload_n 0, 1) := by decide +kernel
theorem dX3_takeBoat_17 : decode cX3_takeBoat 17 = .ok (.iconst 1, 1) := by decide +kernel
theorem dX3_takeBoat_18 : decode cX3_takeBoat 18 = .ok (.putfield 19, 3) := by decide +kernel
theorem dX3_takeBoat_21 : decode cX3_takeBoat 21 = .ok (.aload_n 0, 1) := by decide +kernel
theorem dX3_takeBoat_22 : decode cX3_takeBoat 22 = .ok (.getfield 28, 3) := by decide +kernel
theorem dX3_takeBoat_25 : decode cX3_takeBoat 25 = .ok (.invokevirtual 125, 3) := by decide +kernel
theorem dX3_takeBoat_28 : decode cX3_takeBoat 28 = .ok (.aload_n 0, 1) := by decide +kernel
theorem dX3_takeBoat_29 : decode cX3_takeBoat 29 = .ok (.getfield 28, 3) := by decide +kernel
theorem dX3_takeBoat_32 : decode cX3_takeBoat 32 = .ok (.ldc 190, 2) := by decide +kernel
theorem dX3_takeBoat_34 : decode cX3_takeBoat 34 = .ok (.iconst 1, 1) := by decide +kernel
theorem dX3_takeBoat_35 : decode cX3_takeBoat 35 = .ok (.bipush 20, 2) := by decide +kernel
theorem dX3_takeBoat_37 : decode cX3_takeBoat 37 = .ok (.invokevirtual 59, 3) := by decide +kernel
theorem dX3_takeBoat_40 : decode cX3_takeBoat 40 = .ok (.ifCond .ne 5, 3) := by decide +kernel
theorem dX3_takeBoat_43 : decode cX3_takeBoat 43 = .ok (.iconst 0, 1) := by decide +kernel
theorem dX3_takeBoat_44 : decode cX3_takeBoat 44 = .ok (.ireturn, 1) := by decide +kernel
theorem dX3_takeBoat_45 : decode cX3_takeBoat 45 = .ok (.aload_n 0, 1) := by decide +kernel
theorem dX3_takeBoat_46 : decode cX3_takeBoat 46 = .ok (.getfield 32, 3) := by decide +kernel
theorem dX3_takeBoat_49 : decode cX3_takeBoat 49 = .ok (.aload_n 0, 1) := by decide +kernel
theorem dX3_takeBoat_50 : decode cX3_takeBoat 50 = .ok (.getfield 28, 3) := by decide +kernel
theorem dX3_takeBoat_53 : decode cX3_takeBoat 53 = .ok (.getfield 63, 3) := by decide +kernel
theorem dX3_takeBoat_56 : decode cX3_takeBoat 56 = .ok (.putfield 192, 3) := by decide +kernel
theorem dX3_takeBoat_59 : decode cX3_takeBoat 59 = .ok (.aload_n 0, 1) := by decide +kernel
theorem dX3_takeBoat_60 : decode cX3_takeBoat 60 = .ok (.getfield 28, 3) := by decide +kernel
theorem dX3_takeBoat_63 : decode cX3_takeBoat 63 = .ok (.ldc 194, 2) := by decide +kernel
theorem dX3_takeBoat_65 : decode cX3_takeBoat 65 = .ok (.iconst 0, 1) := by decide +kernel
theorem dX3_takeBoat_66 : decode cX3_takeBoat 66 = .ok (.bipush 9, 2) := by decide +kernel
theorem dX3_takeBoat_68 : decode cX3_takeBoat 68 = .ok (.aload_n 0, 1) := by decide +kernel
theorem dX3_takeBoat_69 : decode cX3_takeBoat 69 = .ok (.getfield 32, 3) := by decide +kernel
theorem dX3_takeBoat_72 : decode cX3_takeBoat 72 = .ok (.getfield 192, 3) := by decide +kernel
theorem dX3_takeBoat_75 : decode cX3_takeBoat 75 = .ok (.iconst 1, 1) := by decide +kernel
theorem dX3_takeBoat_76 : decode cX3_takeBoat 76 = .ok (.isub, 1) := by decide +kernel
theorem dX3_takeBoat_77 : decode cX3_takeBoat 77 = .ok (.invokestatic 196, 3) := by decide +kernel
theorem dX3_takeBoat_80 : decode cX3_takeBoat 80 = .ok (.invokevirtual 59, 3) := by decide +kernel
theorem dX3_takeBoat_83 : decode cX3_takeBoat 83 = .ok (.ifCond .ne 5, 3) := by decide +kernel
theorem dX3_takeBoat_86 : decode cX3_takeBoat 86 = .ok (.iconst 0, 1) := by decide +kernel
theorem dX3_takeBoat_87 : decode cX3_takeBoat 87 = .ok (.ireturn, 1) := by decide +kernel
theorem dX3_takeBoat_88 : decode cX3_takeBoat 88 = .ok (.aload_n 0, 1) := by decide +kernel
theorem dX3_takeBoat_89 : decode cX3_takeBoat 89 = .ok (.getfield 32, 3) := by decide +kernel
theorem dX3_takeBoat_92 : decode cX3_takeBoat 92 = .ok (.aload_n 0, 1) := by decide +kernel
theorem dX3_takeBoat_93 : decode cX3_takeBoat 93 = .ok (.getfield 28, 3) := by decide +kernel
theorem dX3_takeBoat_96 : decode cX3_takeBoat 96 = .ok (.getfield 63, 3) := by decide +kernel
theorem dX3_takeBoat_99 : decode cX3_takeBoat 99 = .ok (.putfield 202, 3) := by decide +kernel
theorem dX3_takeBoat_102 : decode cX3_takeBoat 102 = .ok (.aload_n 0, 1) := by decide +kernel
theorem dX3_takeBoat_103 : decode cX3_takeBoat 103 = .ok (.getfield 28, 3) := by decide +kernel
theorem dX3_takeBoat_106 : decode cX3_takeBoat 106 = .ok (.ldc 204, 2) := by decide +kernel
theorem dX3_takeBoat_108 : decode cX3_takeBoat 108 = .ok (.iconst 1, 1) := by decide +kernel
theorem dX3_takeBoat_109 : decode cX3_takeBoat 109 = .ok (.bipush 99, 2) := by decide +kernel
theorem dX3_takeBoat_111 : decode cX3_takeBoat 111 = .ok (.invokevirtual 59, 3) := by decide +kernel
theorem dX3_takeBoat_114 : decode cX3_takeBoat 114 = .ok (.ifCond .ne 5, 3) := by decide +kernel
theorem dX3_takeBoat_117 : decode cX3_takeBoat 117 = .ok (.iconst 0, 1) := by decide +kernel
theorem dX3_takeBoat_118 : decode cX3_takeBoat 118 = .ok (.ireturn, 1) := by decide +kernel
theorem dX3_takeBoat_119 : decode cX3_takeBoat 119 = .ok (.aload_n 0, 1) := by decide +kernel
theorem dX3_takeBoat_120 : decode cX3_takeBoat 120 = .ok (.getfield 32, 3) := by decide +kernel
theorem dX3_takeBoat_123 : decode cX3_takeBoat 123 = .ok (.aload_n 0, 1) := by decide +kernel
theorem dX3_takeBoat_124 : decode cX3_takeBoat 124 = .ok (.getfield 28, 3) := by decide +kernel
theorem dX3_takeBoat_127 : decode cX3_takeBoat 127 = .ok (.getfield 63, 3) := by decide +kernel
theorem dX3_takeBoat_130 : decode cX3_takeBoat 130 = .ok (.putfield 206, 3) := by decide +kernel
theorem dX3_takeBoat_133 : decode cX3_takeBoat 133 = .ok (.aload_n 0, 1) := by decide +kernel
theorem dX3_takeBoat_134 : decode cX3_takeBoat 134 = .ok (.getfield 28, 3) := by decide +kernel
theorem dX3_takeBoat_137 : decode cX3_takeBoat 137 = .ok (.ldc 208, 2) := by decide +kernel
theorem dX3_takeBoat_139 : decode cX3_takeBoat 139 = .ok (.iconst 1, 1) := by decide +kernel
theorem dX3_takeBoat_140 : decode cX3_takeBoat 140 = .ok (.bipush 99, 2) := by decide +kernel
theorem dX3_takeBoat_142 : decode cX3_takeBoat 142 = .ok (.invokevirtual 59, 3) := by decide +kernel
theorem dX3_takeBoat_145 : decode cX3_takeBoat 145 = .ok (.ifCond .ne 5, 3) := by decide +kernel
theorem dX3_takeBoat_148 : decode cX3_takeBoat 148 = .ok (.iconst 0, 1) := by decide +kernel
theorem dX3_takeBoat_149 : decode cX3_takeBoat 149 = .ok (.ireturn, 1) := by decide +kernel
theorem dX3_takeBoat_150 : decode cX3_takeBoat 150 = .ok (.aload_n 0, 1) := by decide +kernel
theorem dX3_takeBoat_151 : decode cX3_takeBoat 151 = .ok (.getfield 32, 3) := by decide +kernel
theorem dX3_takeBoat_154 : decode cX3_takeBoat 154 = .ok (.aload_n 0, 1) := by decide +kernel
theorem dX3_takeBoat_155 : decode cX3_takeBoat 155 = .ok (.getfield 28, 3) := by decide +kernel
theorem dX3_takeBoat_158 : decode cX3_takeBoat 158 = .ok (.getfield 63, 3) := by decide +kernel
theorem dX3_takeBoat_161 : decode cX3_takeBoat 161 = .ok (.putfield 210, 3) := by decide +kernel
theorem dX3_takeBoat_164 : decode cX3_takeBoat 164 = .ok (.aload_n 0, 1) := by decide +kernel
theorem dX3_takeBoat_165 : decode cX3_takeBoat 165 = .ok (.getfield 28, 3) := by decide +kernel
theorem dX3_takeBoat_168 : decode cX3_takeBoat 168 = .ok (.ldc 212, 2) := by decide +kernel
theorem dX3_takeBoat_170 : decode cX3_takeBoat 170 = .ok (.iconst 0, 1) := by decide +kernel
theorem dX3_takeBoat_171 : decode cX3_takeBoat 171 = .ok (.bipush 99, 2) := by decide +kernel
theorem dX3_takeBoat_173 : decode cX3_takeBoat 173 = .ok (.invokevirtual 59, 3) := by decide +kernel
theorem dX3_takeBoat_176 : decode cX3_takeBoat 176 = .ok (.ifCond .ne 5, 3) := by decide +kernel
theorem dX3_takeBoat_179 : decode cX3_takeBoat 179 = .ok (.iconst 0, 1) := by decide +kernel
theorem dX3_takeBoat_180 : decode cX3_takeBoat 180 = .ok (.ireturn, 1) := by decide +kernel
theorem dX3_takeBoat_181 : decode cX3_takeBoat 181 = .ok (.aload_n 0, 1) := by decide +kernel
theorem dX3_takeBoat_182 : decode cX3_takeBoat 182 = .ok (.getfield 32, 3) := by decide +kernel
theorem dX3_takeBoat_185 : decode cX3_takeBoat 185 = .ok (.aload_n 0, 1) := by decide +kernel
theorem dX3_takeBoat_186 : decode cX3_takeBoat 186 = .ok (.getfield 28, 3) := by decide +kernel
theorem dX3_takeBoat_189 : decode cX3_takeBoat 189 = .ok (.getfield 63, 3) := by decide +kernel
theorem dX3_takeBoat_192 : decode cX3_takeBoat 192 = .ok (.putfield 214, 3) := by decide +kernel
theorem dX3_takeBoat_195 : decode cX3_takeBoat 195 = .ok (.aload_n 0, 1) := by decide +kernel
theorem dX3_takeBoat_196 : decode cX3_takeBoat 196 = .ok (.getfield 28, 3) := by decide +kernel
theorem dX3_takeBoat_199 : decode cX3_takeBoat 199 = .ok (.ldc 216, 2) := by decide +kernel
theorem dX3_takeBoat_201 : decode cX3_takeBoat 201 = .ok (.iconst 0, 1) := by decide +kernel
theorem dX3_takeBoat_202 : decode cX3_takeBoat 202 = .ok (.sipush 999, 3) := by decide +kernel
theorem dX3_takeBoat_205 : decode cX3_takeBoat 205 = .ok (.invokevirtual 59, 3) := by decide +kernel
theorem dX3_takeBoat_208 : decode cX3_takeBoat 208 = .ok (.ifCond .ne 5, 3) := by decide +kernel
theorem dX3_takeBoat_211 : decode cX3_takeBoat 211 = .ok (.iconst 0, 1) := by decide +kernel
theorem dX3_takeBoat_212 : decode cX3_takeBoat 212 = .ok (.ireturn, 1) := by decide +kernel
theorem dX3_takeBoat_213 : decode cX3_takeBoat 213 = .ok (.aload_n 0, 1) := by decide +kernel
theorem dX3_takeBoat_214 : decode cX3_takeBoat 214 = .ok (.getfield 32, 3) := by decide +kernel
theorem dX3_takeBoat_217 : decode cX3_takeBoat 217 = .ok (.aload_n 0, 1) := by decide +kernel
theorem dX3_takeBoat_218 : decode cX3_takeBoat 218 = .ok (.getfield 28, 3) := by decide +kernel
theorem dX3_takeBoat_221 : decode cX3_takeBoat 221 = .ok (.getfield 63, 3) := by decide +kernel
theorem dX3_takeBoat_224 : decode cX3_takeBoat 224 = .ok (.putfield 218, 3) := by decide +kernel
theorem dX3_takeBoat_227 : decode cX3_takeBoat 227 = .ok (.aload_n 0, 1) := by decide +kernel
theorem dX3_takeBoat_228 : decode cX3_takeBoat 228 = .ok (.getfield 28, 3) := by decide +kernel
theorem dX3_takeBoat_231 : decode cX3_takeBoat 231 = .ok (.invokevirtual 76, 3) := by decide +kernel
theorem dX3_takeBoat_234 : decode cX3_takeBoat 234 = .ok (.ireturn, 1) := by decide +kernel
theorem dX3_takePole_0 : decode cX3_takePole 0 = .ok (.aload_n 0, 1) := by decide +kernel
theorem dX3_takePole_1 : decode cX3_takePole 1 = .ok (.getfield 22, 3) := by decide +kernel
theorem dX3_takePole_4 : decode cX3_takePole 4 = .ok (.ifCond .eq 12, 3) := by decide +kernel
theorem dX3_takePole_7 : decode cX3_takePole 7 = .ok (.aload_n 0, 1) := by decide +kernel
theorem dX3_takePole_8 : decode cX3_takePole 8 = .ok (.getfield 28, 3) := by decide +kernel
theorem dX3_takePole_11 : decode cX3_takePole 11 = .ok (.iconst 5, 1) := by decide +kernel
theorem dX3_takePole_12 : decode cX3_takePole 12 = .ok (.invokevirtual 121, 3) := by decide +kernel
theorem dX3_takePole_15 : decode cX3_takePole 15 = .ok (.ireturn, 1) := by decide +kernel
theorem dX3_takePole_16 : decode cX3_takePole 16 = .ok (.aload_n 0, 1) := by decide +kernel
theorem dX3_takePole_17 : decode cX3_takePole 17 = .ok (.iconst 1, 1) := by decide +kernel
theorem dX3_takePole_18 : decode cX3_takePole 18 = .ok (.putfield 22, 3) := by decide +kernel
theorem dX3_takePole_21 : decode cX3_takePole 21 = .ok (.aload_n 0, 1) := by decide +kernel
theorem dX3_takePole_22 : decode cX3_takePole 22 = .ok (.getfield 28, 3) := by decide +kernel
theorem dX3_takePole_25 : decode cX3_takePole 25 = .ok (.ldc 108, 2) := by decide +kernel
theorem dX3_takePole_27 : decode cX3_takePole 27 = .ok (.iconst 0, 1) := by decide +kernel
theorem dX3_takePole_28 : decode cX3_takePole 28 = .ok (.bipush 16, 2) := by decide +kernel
theorem dX3_takePole_30 : decode cX3_takePole 30 = .ok (.invokevirtual 59, 3) := by decide +kernel
theorem dX3_takePole_33 : decode cX3_takePole 33 = .ok (.ifCond .ne 5, 3) := by decide +kernel
theorem dX3_takePole_36 : decode cX3_takePole 36 = .ok (.iconst 0, 1) := by decide +kernel
theorem dX3_takePole_37 : decode cX3_takePole 37 = .ok (.ireturn, 1) := by decide +kernel
theorem dX3_takePole_38 : decode cX3_takePole 38 = .ok (.aload_n 0, 1) := by decide +kernel
theorem dX3_takePole_39 : decode cX3_takePole 39 = .ok (.getfield 32, 3) := by decide +kernel
theorem dX3_takePole_42 : decode cX3_takePole 42 = .ok (.aload_n 0, 1) := by decide +kernel
theorem dX3_takePole_43 : decode cX3_takePole 43 = .ok (.getfield 28, 3) := by decide +kernel
theorem dX3_takePole_46 : decode cX3_takePole 46 = .ok (.getfield 63, 3) := by decide +kernel
theorem dX3_takePole_49 : decode cX3_takePole 49 = .ok (.putfield 220, 3) := by decide +kernel
theorem dX3_takePole_52 : decode cX3_takePole 52 = .ok (.aload_n 0, 1) := by decide +kernel
theorem dX3_takePole_53 : decode cX3_takePole 53 = .ok (.getfield 28, 3) := by decide +kernel
theorem dX3_takePole_56 : decode cX3_takePole 56 = .ok (.invokevirtual 76, 3) := by decide +kernel
theorem dX3_takePole_59 : decode cX3_takePole 59 = .ok (.ireturn, 1) := by decide +kernel
theorem dX3_takeColour_0 : decode cX3_takeColour 0 = .ok (.aload_n 0, 1) := by decide +kernel
theorem dX3_takeColour_1 : decode cX3_takeColour 1 = .ok (.getfield 25, 3) := by decide +kernel
theorem dX3_takeColour_4 : decode cX3_takeColour 4 = .ok (.ifCond .eq 12, 3) := by decide +kernel
theorem dX3_takeColour_7 : decode cX3_takeColour 7 = .ok (.aload_n 0, 1) := by decide +kernel
theorem dX3_takeColour_8 : decode cX3_takeColour 8 = .ok (.getfield 28, 3) := by decide +kernel
theorem dX3_takeColour_11 : decode cX3_takeColour 11 = .ok (.iconst 5, 1) := by decide +kernel
theorem dX3_takeColour_12 : decode cX3_takeColour 12 = .ok (.invokevirtual 121, 3) := by decide +kernel
theorem dX3_takeColour_15 : decode cX3_takeColour 15 = .ok (.ireturn, 1) := by decide +kernel
theorem dX3_takeColour_16 : decode cX3_takeColour 16 = .ok (.aload_n 0, 1) := by decide +kernel
theorem dX3_takeColour_17 : decode cX3_takeColour 17 = .ok (.iconst 1, 1) := by decide +kernel
theorem dX3_takeColour_18 : decode cX3_takeColour 18 = .ok (.putfield 25, 3) := by decide +kernel
theorem dX3_takeColour_21 : decode cX3_takeColour 21 = .ok (.aload_n 0, 1) := by decide +kernel
theorem dX3_takeColour_22 : decode cX3_takeColour 22 = .ok (.getfield 28, 3) := by decide +kernel
theorem dX3_takeColour_25 : decode cX3_takeColour 25 = .ok (.ldc 113, 2) := by decide +kernel
theorem dX3_takeColour_27 : decode cX3_takeColour 27 = .ok (.iconst 0, 1) := by decide +kernel
theorem dX3_takeColour_28 : decode cX3_takeColour 28 = .ok (.bipush 16, 2) := by decide +kernel
theorem dX3_takeColour_30 : decode cX3_takeColour 30 = .ok (.invokevirtual 59, 3) := by decide +kernel
theorem dX3_takeColour_33 : decode cX3_takeColour 33 = .ok (.ifCond .ne 5, 3) := by decide +kernel
theorem dX3_takeColour_36 : decode cX3_takeColour 36 = .ok (.iconst 0, 1) := by decide +kernel
theorem dX3_takeColour_37 : decode cX3_takeColour 37 = .ok (.ireturn, 1) := by decide +kernel
theorem dX3_takeColour_38 : decode cX3_takeColour 38 = .ok (.aload_n 0, 1) := by decide +kernel
theorem dX3_takeColour_39 : decode cX3_takeColour 39 = .ok (.getfield 32, 3) := by decide +kernel
theorem dX3_takeColour_42 : decode cX3_takeColour 42 = .ok (.aload_n 0, 1) := by decide +kernel
theorem dX3_takeColour_43 : decode cX3_takeColour 43 = .ok (.getfield 28, 3) := by decide +kernel
theorem dX3_takeColour_46 : decode cX3_takeColour 46 = .ok (.getfield 63, 3) := by decide +kernel
theorem dX3_takeColour_49 : decode cX3_takeColour 49 = .ok (.putfield 222, 3) := by decide +kernel
theorem dX3_takeColour_52 : decode cX3_takeColour 52 = .ok (.aload_n 0, 1) := by decide +kernel
theorem dX3_takeColour_53 : decode cX3_takeColour 53 = .ok (.getfield 28, 3) := by decide +kernel
theorem dX3_takeColour_56 : decode cX3_takeColour 56 = .ok (.invokevirtual 76, 3) := by decide +kernel
theorem dX3_takeColour_59 : decode cX3_takeColour 59 = .ok (.ireturn, 1) := by decide +kernel
theorem dX4_init_0 : decode cX4_init 0 = .ok (.aload_n 0, 1) := by decide +kernel
theorem dX4_init_1 : decode cX4_init 1 = .ok (.invokespecial 3, 3) := by decide +kernel
theorem dX4_init_4 : decode cX4_init 4 = .ok (.aload_n 0, 1) := by decide +kernel
theorem dX4_init_5 : decode cX4_init 5 = .ok (.iconst 0, 1) := by decide +kernel
theorem dX4_init_6 : decode cX4_init 6 = .ok (.putfield 9, 3) := by decide +kernel
theorem dX4_init_9 : decode cX4_init 9 = .ok (.aload_n 0, 1) := by decide +kernel
theorem dX4_init_10 : decode cX4_init 10 = .ok (.iconst 0, 1) := by decide +kernel
theorem dX4_init_11 : decode cX4_init 11 = .ok (.putfield 15, 3) := by decide +kernel
theorem dX4_init_14 : decode cX4_init 14 = .ok (.aload_n 0, 1) := by decide +kernel
theorem dX4_init_15 : decode cX4_init 15 = .ok (.bipush 60, 2) := by decide +kernel
theorem dX4_init_17 : decode cX4_init 17 = .ok (.newarray .int, 2) := by decide +kernel
theorem dX4_init_19 : decode cX4_init 19 = .ok (.putfield 18, 3) := by decide +kernel
theorem dX4_init_22 : decode cX4_init 22 = .ok (.aload_n 0, 1) := by decide +kernel
theorem dX4_init_23 : decode cX4_init 23 = .ok (.bipush 60, 2) := by decide +kernel
theorem dX4_init_25 : decode cX4_init 25 = .ok (.newarray .int, 2) := by decide +kernel
theorem dX4_init_27 : decode cX4_init 27 = .ok (.putfield 22, 3) := by decide +kernel
theorem dX4_init_30 : decode cX4_init 30 = .ok (.aload_n 0, 1) := by decide +kernel
theorem dX4_init_31 : decode cX4_init 31 = .ok (.bipush 60, 2) := by decide +kernel
theorem dX4_init_33 : decode cX4_init 33 = .ok (.newarray .int, 2) := by decide +kernel
theorem dX4_init_35 : decode cX4_init 35 = .ok (.putfield 25, 3) := by decide +kernel
theorem dX4_init_38 : decode cX4_init 38 = .ok (.aload_n 0, 1) := by decide +kernel
theorem dX4_init_39 : decode cX4_init 39 = .ok (.bipush 60, 2) := by decide +kernel
theorem dX4_init_41 : decode cX4_init 41 = .ok (.newarray .int, 2) := by decide +kernel
theorem dX4_init_43 : decode cX4_init 43 = .ok (.putfield 28, 3) := by decide +kernel
theorem dX4_init_46 : decode cX4_init 46 = .ok (.return_, 1) := by decide +kernel
theorem dX4_copyFrom_0 : decode cX4_copyFrom 0 = .ok (.aload_n 0, 1) := by decide +kernel
theorem dX4_copyFrom_1 : decode cX4_copyFrom 1 = .ok (.aload_n 1, 1) := by decide +kernel
theorem dX4_copyFrom_2 : decode cX4_copyFrom 2 = .ok (.getfield 9, 3) := by decide +kernel
theorem dX4_copyFrom_5 : decode cX4_copyFrom 5 = .ok (.putfield 9, 3) := by decide +kernel
theorem dX4_copyFrom_8 : decode cX4_copyFrom 8 = .ok (.aload_n 0, 1) := by decide +kernel
theorem dX4_copyFrom_9 : decode cX4_copyFrom 9 = .ok (.aload_n 1, 1) := by decide +kernel
theorem dX4_copyFrom_10 : decode cX4_copyFrom 10 = .ok (.getfield 15, 3) := by decide +kernel
theorem dX4_copyFrom_13 : decode cX4_copyFrom 13 = .ok (.putfield 15, 3) := by decide +kernel
theorem dX4_copyFrom_16 : decode cX4_copyFrom 16 = .ok (.aload_n 1, 1) := by decide +kernel
theorem dX4_copyFrom_17 : decode cX4_copyFrom 17 = .ok (.getfield 18, 3) := by decide +kernel
theorem dX4_copyFrom_20 : decode cX4_copyFrom 20 = .ok (.iconst 0, 1) := by decide +kernel
theorem dX4_copyFrom_21 : decode cX4_copyFrom 21 = .ok (.aload_n 0, 1) := by decide +kernel
theorem dX4_copyFrom_22 : decode cX4_copyFrom 22 = .ok (.getfield 18, 3) := by decide +kernel
theorem dX4_copyFrom_25 : decode cX4_copyFrom 25 = .ok (.iconst 0, 1) := by decide +kernel
theorem dX4_copyFrom_26 : decode cX4_copyFrom 26 = .ok (.bipush 60, 2) := by decide +kernel
theorem dX4_copyFrom_28 : decode cX4_copyFrom 28 = .ok (.invokestatic 31, 3) := by decide +kernel
theorem dX4_copyFrom_31 : decode cX4_copyFrom 31 = .ok (.aload_n 1, 1) := by decide +kernel
theorem dX4_copyFrom_32 : decode cX4_copyFrom 32 = .ok (.getfield 22, 3) := by decide +kernel
theorem dX4_copyFrom_35 : decode cX4_copyFrom 35 = .ok (.iconst 0, 1) := by decide +kernel
theorem dX4_copyFrom_36 : decode cX4_copyFrom 36 = .ok (.aload_n 0, 1) := by decide +kernel
theorem dX4_copyFrom_37 : decode cX4_copyFrom 37 = .ok (.getfield 22, 3) := by decide +kernel
theorem dX4_copyFrom_40 : decode cX4_copyFrom 40 = .ok (.iconst 0, 1) := by decide +kernel
theorem dX4_copyFrom_41 : decode cX4_copyFrom 41 = .ok (.bipush 60, 2) := by decide +kernel
theorem dX4_copyFrom_43 : decode cX4_copyFrom 43 = .ok (.invokestatic 31, 3) := by decide +kernel
theorem dX4_copyFrom_46 : decode cX4_copyFrom 46 = .ok (.aload_n 1, 1) := by decide +kernel
theorem dX4_copyFrom_47 : decode cX4_copyFrom 47 = .ok (.getfield 25, 3) := by decide +kernel
theorem dX4_copyFrom_50 : decode cX4_copyFrom 50 = .ok (.iconst 0, 1) := by decide +kernel
theorem dX4_copyFrom_51 : decode cX4_copyFrom 51 = .ok (.aload_n 0, 1) := by decide +kernel
theorem dX4_copyFrom_52 : decode cX4_copyFrom 52 = .ok (.getfield 25, 3) := by decide +kernel
theorem dX4_copyFrom_55 : decode cX4_copyFrom 55 = .ok (.iconst 0, 1) := by decide +kernel
theorem dX4_copyFrom_56 : decode cX4_copyFrom 56 = .ok (.bipush 60, 2) := by decide +kernel
theorem dX4_copyFrom_58 : decode cX4_copyFrom 58 = .ok (.invokestatic 31, 3) := by decide +kernel
theorem dX4_copyFrom_61 : decode cX4_copyFrom 61 = .ok (.aload_n 1, 1) := by decide +kernel
theorem dX4_copyFrom_62 : decode cX4_copyFrom 62 = .ok (.getfield 28, 3) := by decide +kernel
theorem dX4_copyFrom_65 : decode cX4_copyFrom 65 = .ok (.iconst 0, 1) := by decide +kernel
theorem dX4_copyFrom_66 : decode cX4_copyFrom 66 = .ok (.aload_n 0, 1) := by decide +kernel
theorem dX4_copyFrom_67 : decode cX4_copyFrom 67 = .ok (.getfield 28, 3) := by decide +kernel
theorem dX4_copyFrom_70 : decode cX4_copyFrom 70 = .ok (.iconst 0, 1) := by decide +kernel
theorem dX4_copyFrom_71 : decode cX4_copyFrom 71 = .ok (.bipush 60, 2) := by decide +kernel
theorem dX4_copyFrom_73 : decode cX4_copyFrom 73 = .ok (.invokestatic 31, 3) := by decide +kernel
theorem dX4_copyFrom_76 : decode cX4_copyFrom 76 = .ok (.return_, 1) := by decide +kernel
theorem dX4_add_0 : decode cX4_add 0 = .ok (.aload_n 0, 1) := by decide +kernel
theorem dX4_add_1 : decode cX4_add 1 = .ok (.getfield 9, 3) := by decide +kernel
theorem dX4_add_4 : decode cX4_add 4 = .ok (.istore_n 2, 1) := by decide +kernel
theorem dX4_add_5 : decode cX4_add 5 = .ok (.iload_n 2, 1) := by decide +kernel
theorem dX4_add_6 : decode cX4_add 6 = .ok (.bipush 60, 2) := by decide +kernel
theorem dX4_add_8 : decode cX4_add 8 = .ok (.if_icmp .lt 5, 3) := by decide +kernel
theorem dX4_add_11 : decode cX4_add 11 = .ok (.iconst (-1), 1) := by decide +kernel
theorem dX4_add_12 : decode cX4_add 12 = .ok (.ireturn, 1) := by decide +kernel
theorem dX4_add_13 : decode cX4_add 13 = .ok (.aload_n 0, 1) := by decide +kernel
theorem dX4_add_14 : decode cX4_add 14 = .ok (.getfield 18, 3) := by decide +kernel
theorem dX4_add_17 : decode cX4_add 17 = .ok (.iload_n 2, 1) := by decide +kernel
theorem dX4_add_18 : decode cX4_add 18 = .ok (.iload_n 1, 1) := by decide +kernel
theorem dX4_add_19 : decode cX4_add 19 = .ok (.iastore, 1) := by decide +kernel
theorem dX4_add_20 : decode cX4_add 20 = .ok (.aload_n 0, 1) := by decide +kernel
theorem dX4_add_21 : decode cX4_add 21 = .ok (.getfield 22, 3) := by decide +kernel
theorem dX4_add_24 : decode cX4_add 24 = .ok (.iload_n 2, 1) := by decide +kernel
theorem dX4_add_25 : decode cX4_add 25 = .ok (.iconst (-1), 1) := by decide +kernel
theorem dX4_add_26 : decode cX4_add 26 = .ok (.iastore, 1) := by decide +kernel
theorem dX4_add_27 : decode cX4_add 27 = .ok (.aload_n 0, 1) := by decide +kernel
theorem dX4_add_28 : decode cX4_add 28 = .ok (.getfield 25, 3) := by decide +kernel
theorem dX4_add_31 : decode cX4_add 31 = .ok (.iload_n 2, 1) := by decide +kernel
theorem dX4_add_32 : decode cX4_add 32 = .ok (.iconst 0, 1) := by decide +kernel
theorem dX4_add_33 : decode cX4_add 33 = .ok (.iastore, 1) := by decide +kernel
theorem dX4_add_34 : decode cX4_add 34 = .ok (.aload_n 0, 1) := by decide +kernel
theorem dX4_add_35 : decode cX4_add 35 = .ok (.getfield 28, 3) := by decide +kernel
theorem dX4_add_38 : decode cX4_add 38 = .ok (.iload_n 2, 1) := by decide +kernel
theorem dX4_add_39 : decode cX4_add 39 = .ok (.iconst (-1), 1) := by decide +kernel
theorem dX4_add_40 : decode cX4_add 40 = .ok (.iastore, 1) := by decide +kernel
theorem dX4_add_41 : decode cX4_add 41 = .ok (.aload_n 0, 1) := by decide +kernel
theorem dX4_add_42 : decode cX4_add 42 = .ok (.dup, 1) := by decide +kernel
theorem dX4_add_43 : decode cX4_add 43 = .ok (.getfield 9, 3) := by decide +kernel
theorem dX4_add_46 : decode cX4_add 46 = .ok (.iconst 1, 1) := by decide +kernel
theorem dX4_add_47 : decode cX4_add 47 = .ok (.iadd, 1) := by decide +kernel
theorem dX4_add_48 : decode cX4_add 48 = .ok (.putfield 9, 3) := by decide +kernel
theorem dX4_add_51 : decode cX4_add 51 = .ok (.iload_n 2, 1) := by decide +kernel
theorem dX4_add_52 : decode cX4_add 52 = .ok (.ireturn, 1) := by decide +kernel
theorem dX5_init_0 : decode cX5_init 0 = .ok (.aload_n 0, 1) := by decide +kernel
theorem dX5_init_1 : decode cX5_init 1 = .ok (.invokespecial 3, 3) := by decide +kernel
theorem dX5_init_4 : decode cX5_init 4 = .ok (.aload_n 0, 1) := by decide +kernel
theorem dX5_init_5 : decode cX5_init 5 = .ok (.iconst 3, 1) := by decide +kernel
theorem dX5_init_6 : decode cX5_init 6 = .ok (.newarray .int, 2) := by decide +kernel
theorem dX5_init_8 : decode cX5_init 8 = .ok (.putfield 9, 3) := by decide +kernel
theorem dX5_init_11 : decode cX5_init 11 = .ok (.aload_n 0, 1) := by decide +kernel
theorem dX5_init_12 : decode cX5_init 12 = .ok (.iconst 0, 1) := by decide +kernel
theorem dX5_init_13 : decode cX5_init 13 = .ok (.putfield 15, 3) := by decide +kernel
theorem dX5_init_16 : decode cX5_init 16 = .ok (.aload_n 0, 1) := by decide +kernel
theorem dX5_init_17 : decode cX5_init 17 = .ok (.aload_n 1, 1) := by decide +kernel
theorem dX5_init_18 : decode cX5_init 18 = .ok (.putfield 19, 3) := by decide +kernel
theorem dX5_init_21 : decode cX5_init 21 = .ok (.aload_n 0, 1) := by decide +kernel
theorem dX5_init_22 : decode cX5_init 22 = .ok (.aload_n 2, 1) := by decide +kernel
theorem dX5_init_23 : decode cX5_init 23 = .ok (.putfield 23, 3) := by decide +kernel
theorem dX5_init_26 : decode cX5_init 26 = .ok (.aload_n 0, 1) := by decide +kernel
theorem dX5_init_27 : decode cX5_init 27 = .ok (.aload_n 3, 1) := by decide +kernel
theorem dX5_init_28 : decode cX5_init 28 = .ok (.putfield 27, 3) := by decide +kernel
theorem dX5_init_31 : decode cX5_init 31 = .ok (.return_, 1) := by decide +kernel
theorem dX5_parse_0 : decode cX5_parse 0 = .ok (.aload_n 0, 1) := by decide +kernel
theorem dX5_parse_1 : decode cX5_parse 1 = .ok (.aload_n 2, 1) := by decide +kernel
theorem dX5_parse_2 : decode cX5_parse 2 = .ok (.putfield 23, 3) := by decide +kernel
theorem dX5_parse_5 : decode cX5_parse 5 = .ok (.aload_n 0, 1) := by decide +kernel
theorem dX5_parse_6 : decode cX5_parse 6 = .ok (.aload_n 3, 1) := by decide +kernel
theorem dX5_parse_7 : decode cX5_parse 7 = .ok (.putfield 27, 3) := by decide +kernel
theorem dX5_parse_10 : decode cX5_parse 10 = .ok (.aload_n 0, 1) := by decide +kernel
theorem dX5_parse_11 : decode cX5_parse 11 = .ok (.iconst 0, 1) := by decide +kernel
theorem dX5_parse_12 : decode cX5_parse 12 = .ok (.putfield 15, 3) := by decide +kernel
theorem dX5_parse_15 : decode cX5_parse 15 = .ok (.aload_n 0, 1) := by decide +kernel
theorem dX5_parse_16 : decode cX5_parse 16 = .ok (.getfield 23, 3) := by decide +kernel
theorem dX5_parse_19 : decode cX5_parse 19 = .ok (.iconst 0, 1) := by decide +kernel
theorem dX5_parse_20 : decode cX5_parse 20 = .ok (.putfield 31, 3) := by decide +kernel
theorem dX5_parse_23 : decode cX5_parse 23 = .ok (.aload_n 0, 1) := by decide +kernel
theorem dX5_parse_24 : decode cX5_parse 24 = .ok (.getfield 23, 3) := by decide +kernel
theorem dX5_parse_27 : decode cX5_parse 27 = .ok (.iconst 0, 1) := by decide +kernel
theorem dX5_parse_28 : decode cX5_parse 28 = .ok (.putfield 36, 3) := by decide +kernel
theorem dX5_parse_31 : decode cX5_parse 31 = .ok (.aload_n 0, 1) := by decide +kernel
theorem dX5_parse_32 : decode cX5_parse 32 = .ok (.getfield 19, 3) := by decide +kernel
theorem dX5_parse_35 : decode cX5_parse 35 = .ok (.iload_n 1, 1) := by decide +kernel
theorem dX5_parse_36 : decode cX5_parse 36 = .ok (.invokevirtual 39, 3) := by decide +kernel
theorem dX5_parse_39 : decode cX5_parse 39 = .ok (.iconst 0, 1) := by decide +kernel
theorem dX5_parse_40 : decode cX5_parse 40 = .ok (.istore 4, 2) := by decide +kernel
theorem dX5_parse_42 : decode cX5_parse 42 = .ok (.iload 4, 2) := by decide +kernel
theorem dX5_parse_44 : decode cX5_parse 44 = .ok (.sipush 300, 3) := by decide +kernel
theorem dX5_parse_47 : decode cX5_parse 47 = .ok (.if_icmp .ge 50, 3) := by decide +kernel
theorem dX5_parse_50 : decode cX5_parse 50 = .ok (.aload_n 0, 1) := by decide +kernel
theorem dX5_parse_51 : decode cX5_parse 51 = .ok (.getfield 19, 3) := by decide +kernel
theorem dX5_parse_54 : decode cX5_parse 54 = .ok (.getfield 45, 3) := by decide +kernel
theorem dX5_parse_57 : decode cX5_parse 57 = .ok (.ifCond .eq 40, 3) := by decide +kernel
theorem dX5_parse_60 : decode cX5_parse 60 = .ok (.aload_n 0, 1) := by decide +kernel
theorem dX5_parse_61 : decode cX5_parse 61 = .ok (.getfield 19, 3) := by decide +kernel
theorem dX5_parse_64 : decode cX5_parse 64 = .ok (.ldc 48, 2) := by decide +kernel
theorem dX5_parse_66 : decode cX5_parse 66 = .ok (.invokevirtual 50, 3) := by decide +kernel
theorem dX5_parse_69 : decode cX5_parse 69 = .ok (.ifCond .eq 13, 3) := by decide +kernel
theorem dX5_parse_72 : decode cX5_parse 72 = .ok (.aload_n 0, 1) := by decide +kernel
theorem dX5_parse_73 : decode cX5_parse 73 = .ok (.invokevirtual 54, 3) := by decide +kernel
theorem dX5_parse_76 : decode cX5_parse 76 = .ok (.ifCond .eq 13, 3) := by decide +kernel
theorem dX5_parse_79 : decode cX5_parse 79 = .ok (.goto 12, 3) := by decide +kernel
theorem dX5_parse_82 : decode cX5_parse 82 = .ok (.aload_n 0, 1) := by decide +kernel
theorem dX5_parse_83 : decode cX5_parse 83 = .ok (.invokevirtual 58, 3) := by decide +kernel
theorem dX5_parse_86 : decode cX5_parse 86 = .ok (.ifCond .ne 5, 3) := by decide +kernel
theorem dX5_parse_89 : decode cX5_parse 89 = .ok (.iconst 0, 1) := by decide +kernel
theorem dX5_parse_90 : decode cX5_parse 90 = .ok (.ireturn, 1) := by decide +kernel
theorem dX5_parse_91 : decode cX5_parse 91 = .ok (.iinc 4 1, 3) := by decide +kernel
theorem dX5_parse_94 : decode cX5_parse 94 = .ok (.goto (-52), 3) := by decide +kernel
theorem dX5_parse_97 : decode cX5_parse 97 = .ok (.aload_n 0, 1) := by decide +kernel
theorem dX5_parse_98 : decode cX5_parse 98 = .ok (.getfield 15, 3) := by decide +kernel
theorem dX5_parse_101 : decode cX5_parse 101 = .ok (.ifCond .eq 13, 3) := by decide +kernel
theorem dX5_parse_104 : decode cX5_parse 104 = .ok (.aload_n 0, 1) := by decide +kernel
theorem dX5_parse_105 : decode cX5_parse 105 = .ok (.getfield 19, 3) := by decide +kernel
theorem dX5_parse_108 : decode cX5_parse 108 = .ok (.invokevirtual 61, 3) := by decide +kernel
theorem dX5_parse_111 : decode cX5_parse 111 = .ok (.ifCond .eq 7, 3) := by decide +kernel
theorem dX5_parse_114 : decode cX5_parse 114 = .ok (.iconst 1, 1) := by decide +kernel
theorem dX5_parse_115 : decode cX5_parse 115 = .ok (.goto 4, 3) := by decide +kernel
theorem dX5_parse_118 : decode cX5_parse 118 = .ok (.iconst 0, 1) := by decide +kernel
theorem dX5_parse_119 : decode cX5_parse 119 = .ok (.ireturn, 1) := by decide +kernel
theorem dX5_takeEnd_0 : decode cX5_takeEnd 0 = .ok (.aload_n 0, 1) := by decide +kernel
theorem dX5_takeEnd_1 : decode cX5_takeEnd 1 = .ok (.getfield 15, 3) := by decide +kernel
theorem dX5_takeEnd_4 : decode cX5_takeEnd 4 = .ok (.ifCond .ne 7, 3) := by decide +kernel
theorem dX5_takeEnd_7 : decode cX5_takeEnd 7 = .ok (.iconst (-1), 1) := by decide +kernel
theorem dX5_takeEnd_8 : decode cX5_takeEnd 8 = .ok (.goto 11, 3) := by decide +kernel
theorem dX5_takeEnd_11 : decode cX5_takeEnd 11 = .ok (.aload_n 0, 1) := by decide +kernel
theorem dX5_takeEnd_12 : decode cX5_takeEnd 12 = .ok (.getfield 23, 3) := by decide +kernel
theorem dX5_takeEnd_15 : decode cX5_takeEnd 15 = .ok (.iconst 0, 1) := by decide +kernel
theorem dX5_takeEnd_16 : decode cX5_takeEnd 16 = .ok (.invokevirtual 64, 3) := by decide +kernel
theorem dX5_takeEnd_19 : decode cX5_takeEnd 19 = .ok (.istore_n 1, 1) := by decide +kernel
theorem dX5_takeEnd_20 : decode cX5_takeEnd 20 = .ok (.iload_n 1, 1) := by decide +kernel
theorem dX5_takeEnd_21 : decode cX5_takeEnd 21 = .ok (.iconst (-1), 1) := by decide +kernel
theorem dX5_takeEnd_22 : decode cX5_takeEnd 22 = .ok (.if_icmp .ne 11, 3) := by decide +kernel
theorem dX5_takeEnd_25 : decode cX5_takeEnd 25 = .ok (.aload_n 0, 1) := by decide +kernel
theorem dX5_takeEnd_26 : decode cX5_takeEnd 26 = .ok (.getfield 19, 3) := by decide +kernel
theorem dX5_takeEnd_29 : decode cX5_takeEnd 29 = .ok (.invokevirtual 61, 3) := by decide +kernel
theorem dX5_takeEnd_32 : decode cX5_takeEnd 32 = .ok (.ireturn, 1) := by decide +kernel
theorem dX5_takeEnd_33 : decode cX5_takeEnd 33 = .ok (.aload_n 0, 1) := by decide +kernel
theorem dX5_takeEnd_34 : decode cX5_takeEnd 34 = .ok (.dup, 1) := by decide +kernel
theorem dX5_takeEnd_35 : decode cX5_takeEnd 35 = .ok (.getfield 15, 3) := by decide +kernel
theorem dX5_takeEnd_38 : decode cX5_takeEnd 38 = .ok (.iconst 1, 1) := by decide +kernel
theorem dX5_takeEnd_39 : decode cX5_takeEnd 39 = .ok (.isub, 1) := by decide +kernel
theorem dX5_takeEnd_40 : decode cX5_takeEnd 40 = .ok (.putfield 15, 3) := by decide +kernel
theorem dX5_takeEnd_43 : decode cX5_takeEnd 43 = .ok (.aload_n 0, 1) := by decide +kernel
theorem dX5_takeEnd_44 : decode cX5_takeEnd 44 = .ok (.getfield 9, 3) := by decide +kernel
theorem dX5_takeEnd_47 : decode cX5_takeEnd 47 = .ok (.aload_n 0, 1) := by decide +kernel
theorem dX5_takeEnd_48 : decode cX5_takeEnd 48 = .ok (.getfield 15, 3) := by decide +kernel
theorem dX5_takeEnd_51 : decode cX5_takeEnd 51 = .ok (.iaload, 1) := by decide +kernel
theorem dX5_takeEnd_52 : decode cX5_takeEnd 52 = .ok (.istore_n 2, 1) := by decide +kernel
theorem dX5_takeEnd_53 : decode cX5_takeEnd 53 = .ok (.aload_n 0, 1) := by decide +kernel
theorem dX5_takeEnd_54 : decode cX5_takeEnd 54 = .ok (.getfield 23, 3) := by decide +kernel
theorem dX5_takeEnd_57 : decode cX5_takeEnd 57 = .ok (.getfield 68, 3) := by decide +kernel
theorem dX5_takeEnd_60 : decode cX5_takeEnd 60 = .ok (.iload_n 1, 1) := by decide +kernel
theorem dX5_takeEnd_61 : decode cX5_takeEnd 61 = .ok (.iload_n 2, 1) := by decide +kernel
theorem dX5_takeEnd_62 : decode cX5_takeEnd 62 = .ok (.iastore, 1) := by decide +kernel
theorem dX5_takeEnd_63 : decode cX5_takeEnd 63 = .ok (.aload_n 0, 1) := by decide +kernel
theorem dX5_takeEnd_64 : decode cX5_takeEnd 64 = .ok (.getfield 23, 3) := by decide +kernel
theorem dX5_takeEnd_67 : decode cX5_takeEnd 67 = .ok (.getfield 68, 3) := by decide +kernel
theorem dX5_takeEnd_70 : decode cX5_takeEnd 70 = .ok (.iload_n 2, 1) := by decide +kernel
theorem dX5_takeEnd_71 : decode cX5_takeEnd 71 = .ok (.iload_n 1, 1) := by decide +kernel
theorem dX5_takeEnd_72 : decode cX5_takeEnd 72 = .ok (.iastore, 1) := by decide +kernel
theorem dX5_takeEnd_73 : decode cX5_takeEnd 73 = .ok (.aload_n 0, 1) := by decide +kernel
theorem dX5_takeEnd_74 : decode cX5_takeEnd 74 = .ok (.getfield 19, 3) := by decide +kernel
theorem dX5_takeEnd_77 : decode cX5_takeEnd 77 = .ok (.invokevirtual 71, 3) := by decide +kernel
theorem dX5_takeEnd_80 : decode cX5_takeEnd 80 = .ok (.aload_n 0, 1) := by decide +kernel
theorem dX5_takeEnd_81 : decode cX5_takeEnd 81 = .ok (.getfield 19, 3) := by decide +kernel
theorem dX5_takeEnd_84 : decode cX5_takeEnd 84 = .ok (.invokevirtual 74, 3) := by decide +kernel
theorem dX5_takeEnd_87 : decode cX5_takeEnd 87 = .ok (.ireturn, 1) := by decide +kernel
theorem dX5_takeStep_0 : decode cX5_takeStep 0 = .ok (.aload_n 0, 1) := by decide +kernel
theorem dX5_takeStep_1 : decode cX5_takeStep 1 = .ok (.invokevirtual 77, 3) := by decide +kernel
theorem dX5_takeStep_4 : decode cX5_takeStep 4 = .ok (.istore_n 1, 1) := by decide +kernel
theorem dX5_takeStep_5 : decode cX5_takeStep 5 = .ok (.iload_n 1, 1) := by decide +kernel
theorem dX5_takeStep_6 : decode cX5_takeStep 6 = .ok (.iconst (-1), 1) := by decide +kernel
theorem dX5_takeStep_7 : decode cX5_takeStep 7 = .ok (.if_icmp .ne 11, 3) := by decide +kernel
theorem dX5_takeStep_10 : decode cX5_takeStep 10 = .ok (.aload_n 0, 1) := by decide +kernel
theorem dX5_takeStep_11 : decode cX5_takeStep 11 = .ok (.getfield 19, 3) := by decide +kernel
theorem dX5_takeStep_14 : decode cX5_takeStep 14 = .ok (.invokevirtual 61, 3) := by decide +kernel
theorem dX5_takeStep_17 : decode cX5_takeStep 17 = .ok (.ireturn, 1) := by decide +kernel
theorem dX5_takeStep_18 : decode cX5_takeStep 18 = .ok (.aload_n 0, 1) := by decide +kernel
theorem dX5_takeStep_19 : decode cX5_takeStep 19 = .ok (.getfield 23, 3) := by decide +kernel
theorem dX5_takeStep_22 : decode cX5_takeStep 22 = .ok (.getfield 36, 3) := by decide +kernel
theorem dX5_takeStep_25 : decode cX5_takeStep 25 = .ok (.bipush 30, 2) := by decide +kernel
theorem dX5_takeStep_27 : decode cX5_takeStep 27 = .ok (.if_icmp .lt 7, 3) := by decide +kernel
theorem dX5_takeStep_30 : decode cX5_takeStep 30 = .ok (.iconst (-1), 1) := by decide +kernel
theorem dX5_takeStep_31 : decode cX5_takeStep 31 = .ok (.goto 11, 3) := by decide +kernel
theorem dX5_takeStep_34 : decode cX5_takeStep 34 = .ok (.aload_n 0, 1) := by decide +kernel
theorem dX5_takeStep_35 : decode cX5_takeStep 35 = .ok (.getfield 23, 3) := by decide +kernel
theorem dX5_takeStep_38 : decode cX5_takeStep 38 = .ok (.iload_n 1, 1) := by decide +kernel
theorem dX5_takeStep_39 : decode cX5_takeStep 39 = .ok (.invokevirtual 64, 3) := by decide +kernel
theorem dX5_takeStep_42 : decode cX5_takeStep 42 = .ok (.istore_n 2, 1) := by decide +kernel
theorem dX5_takeStep_43 : decode cX5_takeStep 43 = .ok (.iload_n 2, 1) := by decide +kernel
theorem dX5_takeStep_44 : decode cX5_takeStep 44 = .ok (.iconst (-1), 1) := by decide +kernel
theorem dX5_takeStep_45 : decode cX5_takeStep 45 = .ok (.if_icmp .ne 13, 3) := by decide +kernel
theorem dX5_takeStep_48 : decode cX5_takeStep 48 = .ok (.aload_n 0, 1) := by decide +kernel
theorem dX5_takeStep_49 : decode cX5_takeStep 49 = .ok (.getfield 19, 3) := by decide +kernel
theorem dX5_takeStep_52 : decode cX5_takeStep 52 = .ok (.bipush 6, 2) := by decide +kernel
theorem dX5_takeStep_54 : decode cX5_takeStep 54 = .ok (.invokevirtual 81, 3) := by decide +kernel
theorem dX5_takeStep_57 : decode cX5_takeStep 57 = .ok (.ireturn, 1) := by decide +kernel
theorem dX5_takeStep_58 : decode cX5_takeStep 58 = .ok (.iload_n 1, 1) := by decide +kernel
theorem dX5_takeStep_59 : decode cX5_takeStep 59 = .ok (.iconst 5, 1) := by decide +kernel
theorem dX5_takeStep_60 : decode cX5_takeStep 60 = .ok (.if_icmp .eq 9, 3) := by decide +kernel
theorem dX5_takeStep_63 : decode cX5_takeStep 63 = .ok (.iload_n 1, 1) := by decide +kernel
theorem dX5_takeStep_64 : decode cX5_takeStep 64 = .ok (.bipush 6, 2) := by decide +kernel
theorem dX5_takeStep_66 : decode cX5_takeStep 66 = .ok (.if_icmp .ne 7, 3) := by decide +kernel
theorem dX5_takeStep_69 : decode cX5_takeStep 69 = .ok (.iconst 1, 1) := by decide +kernel
theorem dX5_takeStep_70 : decode cX5_takeStep 70 = .ok (.goto 4, 3) := by decide +kernel
theorem dX5_takeStep_73 : decode cX5_takeStep 73 = .ok (.iconst 0, 1) := by decide +kernel
theorem dX5_takeStep_74 : decode cX5_takeStep 74 = .ok (.istore_n 3, 1) := by decide +kernel
theorem dX5_takeStep_75 : decode cX5_takeStep 75 = .ok (.iload_n 3, 1) := by decide +kernel
theorem dX5_takeStep_76 : decode cX5_takeStep 76 = .ok (.ifCond .eq 21, 3) := by decide +kernel
theorem dX5_takeStep_79 : decode cX5_takeStep 79 = .ok (.aload_n 0, 1) := by decide +kernel
theorem dX5_takeStep_80 : decode cX5_takeStep 80 = .ok (.getfield 15, 3) := by decide +kernel
theorem dX5_takeStep_83 : decode cX5_takeStep 83 = .ok (.iconst 3, 1) := by decide +kernel
theorem dX5_takeStep_84 : decode cX5_takeStep 84 = .ok (.if_icmp .lt 13, 3) := by decide +kernel
theorem dX5_takeStep_87 : decode cX5_takeStep 87 = .ok (.aload_n 0, 1) := by decide +kernel
theorem dX5_takeStep_88 : decode cX5_takeStep 88 = .ok (.getfield 19, 3) := by decide +kernel
theorem dX5_takeStep_91 : decode cX5_takeStep 91 = .ok (.bipush 7, 2) := by decide +kernel
theorem dX5_takeStep_93 : decode cX5_takeStep 93 = .ok (.invokevirtual 81, 3) := by decide +kernel
theorem dX5_takeStep_96 : decode cX5_takeStep 96 = .ok (.ireturn, 1) := by decide +kernel
theorem dX5_takeStep_97 : decode cX5_takeStep 97 = .ok (.aload_n 0, 1) := by decide +kernel
theorem dX5_takeStep_98 : decode cX5_takeStep 98 = .ok (.getfield 19, 3) := by decide +kernel
theorem dX5_takeStep_101 : decode cX5_takeStep 101 = .ok (.invokevirtual 71, 3) := by decide +kernel
theorem dX5_takeStep_104 : decode cX5_takeStep 104 = .ok (.aload_n 0, 1) := by decide +kernel
theorem dX5_takeStep_105 : decode cX5_takeStep 105 = .ok (.iload_n 2, 1) := by decide +kernel
theorem dX5_takeStep_106 : decode cX5_takeStep 106 = .ok (.iload_n 1, 1) := by decide +kernel
theorem dX5_takeStep_107 : decode cX5_takeStep 107 = .ok (.invokevirtual 85, 3) := by decide +kernel
theorem dX5_takeStep_110 : decode cX5_takeStep 110 = .ok (.ifCond .eq 13, 3) := by decide +kernel
theorem dX5_takeStep_113 : decode cX5_takeStep 113 = .ok (.aload_n 0, 1) := by decide +kernel
theorem dX5_takeStep_114 : decode cX5_takeStep 114 = .ok (.getfield 19, 3) := by decide +kernel
theorem dX5_takeStep_117 : decode cX5_takeStep 117 = .ok (.invokevirtual 74, 3) := by decide +kernel
theorem dX5_takeStep_120 : decode cX5_takeStep 120 = .ok (.ifCond .ne 5, 3) := by decide +kernel
theorem dX5_takeStep_123 : decode cX5_takeStep 123 = .ok (.iconst 0, 1) := by decide +kernel
theorem dX5_takeStep_124 : decode cX5_takeStep 124 = .ok (.ireturn, 1) := by decide +kernel
theorem dX5_takeStep_125 : decode cX5_takeStep 125 = .ok (.iload_n 3, 1) := by decide +kernel
theorem dX5_takeStep_126 : decode cX5_takeStep 126 = .ok (.ifCond .eq 23, 3) := by decide +kernel
theorem dX5_takeStep_129 : decode cX5_takeStep 129 = .ok (.aload_n 0, 1) := by decide +kernel
theorem dX5_takeStep_130 : decode cX5_takeStep 130 = .ok (.getfield 9, 3) := by decide +kernel
theorem dX5_takeStep_133 : decode cX5_takeStep 133 = .ok (.aload_n 0, 1) := by decide +kernel
theorem dX5_takeStep_134 : decode cX5_takeStep 134 = .ok (.getfield 15, 3) := by decide +kernel
theorem dX5_takeStep_137 : decode cX5_takeStep 137 = .ok (.iload_n 2, 1) := by decide +kernel
theorem dX5_takeStep_138 : decode cX5_takeStep 138 = .ok (.iastore, 1) := by decide +kernel
theorem dX5_takeStep_139 : decode cX5_takeStep 139 = .ok (.aload_n 0, 1) := by decide +kernel
theorem dX5_takeStep_140 : decode cX5_takeStep 140 = .ok (.dup, 1) := by decide +kernel
theorem dX5_takeStep_141 : decode cX5_takeStep 141 = .ok (.getfield 15, 3) := by decide +kernel
theorem dX5_takeStep_144 : decode cX5_takeStep 144 = .ok (.iconst 1, 1) := by decide +kernel
theorem dX5_takeStep_145 : decode cX5_takeStep 145 = .ok (.iadd, 1) := by decide +kernel
theorem dX5_takeStep_146 : decode cX5_takeStep 146 = .ok (.putfield 15, 3) := by decide +kernel
theorem dX5_takeStep_149 : decode cX5_takeStep 149 = .ok (.aload_n 0, 1) := by decide +kernel
theorem dX5_takeStep_150 : decode cX5_takeStep 150 = .ok (.getfield 23, 3) := by decide +kernel
theorem dX5_takeStep_153 : decode cX5_takeStep 153 = .ok (.dup, 1) := by decide +kernel
theorem dX5_takeStep_154 : decode cX5_takeStep 154 = .ok (.getfield 36, 3) := by decide +kernel
theorem dX5_takeStep_157 : decode cX5_takeStep 157 = .ok (.iconst 1, 1) := by decide +kernel
theorem dX5_takeStep_158 : decode cX5_takeStep 158 = .ok (.iadd, 1) := by decide +kernel
theorem dX5_takeStep_159 : decode cX5_takeStep 159 = .ok (.putfield 36, 3) := by decide +kernel
theorem dX5_takeStep_162 : decode cX5_takeStep 162 = .ok (.iconst 1, 1) := by decide +kernel
theorem dX5_takeStep_163 : decode cX5_takeStep 163 = .ok (.ireturn, 1) := by decide +kernel
theorem dX5_wordOfStep_0 : decode cX5_wordOfStep 0 = .ok (.aload_n 0, 1) := by decide +kernel
theorem dX5_wordOfStep_1 : decode cX5_wordOfStep 1 = .ok (.getfield 19, 3) := by decide +kernel
theorem dX5_wordOfStep_4 : decode cX5_wordOfStep 4 = .ok (.ldc 89, 2) := by decide +kernel
theorem dX5_wordOfStep_6 : decode cX5_wordOfStep 6 = .ok (.invokevirtual 50, 3) := by decide +kernel
theorem dX5_wordOfStep_9 : decode cX5_wordOfStep 9 = .ok (.ifCond .eq 5, 3) := by decide +kernel
theorem dX5_wordOfStep_12 : decode cX5_wordOfStep 12 = .ok (.iconst 1, 1) := by decide +kernel
theorem dX5_wordOfStep_13 : decode cX5_wordOfStep 13 = .ok (.ireturn, 1) := by decide +kernel
theorem dX5_wordOfStep_14 : decode cX5_wordOfStep 14 = .ok (.aload_n 0, 1) := by decide +kernel
theorem dX5_wordOfStep_15 : decode cX5_wordOfStep 15 = .ok (.getfield 19, 3) := by decide +kernel
theorem dX5_wordOfStep_18 : decode cX5_wordOfStep 18 = .ok (.ldc 91, 2) := by decide +kernel
theorem dX5_wordOfStep_20 : decode cX5_wordOfStep 20 = .ok (.invokevirtual 50, 3) := by decide +kernel
theorem dX5_wordOfStep_23 : decode cX5_wordOfStep 23 = .ok (.ifCond .eq 5, 3) := by decide +kernel
theorem dX5_wordOfStep_26 : decode cX5_wordOfStep 26 = .ok (.iconst 2, 1) := by decide +kernel
theorem dX5_wordOfStep_27 : decode cX5_wordOfStep 27 = .ok (.ireturn, 1) := by decide +kernel
theorem dX5_wordOfStep_28 : decode cX5_wordOfStep 28 = .ok (.aload_n 0, 1) := by decide +kernel
theorem dX5_wordOfStep_29 : decode cX5_wordOfStep 29 = .ok (.getfield 19, 3) := by decide +kernel
theorem dX5_wordOfStep_32 : decode cX5_wordOfStep 32 = .ok (.ldc 93, 2) := by decide +kernel
theorem dX5_wordOfStep_34 : decode cX5_wordOfStep 34 = .ok (.invokevirtual 50, 3) := by decide +kernel
theorem dX5_wordOfStep_37 : decode cX5_wordOfStep 37 = .ok (.ifCond .eq 5, 3) := by decide +kernel
theorem dX5_wordOfStep_40 : decode cX5_wordOfStep 40 = .ok (.iconst 3, 1) := by decide +kernel
theorem dX5_wordOfStep_41 : decode cX5_wordOfStep 41 = .ok (.ireturn, 1) := by decide +kernel
theorem dX5_wordOfStep_42 : decode cX5_wordOfStep 42 = .ok (.aload_n 0, 1) := by decide +kernel
theorem dX5_wordOfStep_43 : decode cX5_wordOfStep 43 = .ok (.getfield 19, 3) := by decide +kernel
theorem dX5_wordOfStep_46 : decode cX5_wordOfStep 46 = .ok (.ldc 95, 2) := by decide +kernel
theorem dX5_wordOfStep_48 : decode cX5_wordOfStep 48 = .ok (.invokevirtual 50, 3) := by decide +kernel
theorem dX5_wordOfStep_51 : decode cX5_wordOfStep 51 = .ok (.ifCond .eq 5, 3) := by decide +kernel
theorem dX5_wordOfStep_54 : decode cX5_wordOfStep 54 = .ok (.iconst 4, 1) := by decide +kernel
theorem dX5_wordOfStep_55 : decode cX5_wordOfStep 55 = .ok (.ireturn, 1) := by decide +kernel
theorem dX5_wordOfStep_56 : decode cX5_wordOfStep 56 = .ok (.aload_n 0, 1) := by decide +kernel
theorem dX5_wordOfStep_57 : decode cX5_wordOfStep 57 = .ok (.getfield 19, 3) := by decide +kernel
theorem dX5_wordOfStep_60 : decode cX5_wordOfStep 60 = .ok (.ldc 97, 2) := by decide +kernel
theorem dX5_wordOfStep_62 : decode cX5_wordOfStep 62 = .ok (.invokevirtual 50, 3) := by decide +kernel
theorem dX5_wordOfStep_65 : decode cX5_wordOfStep 65 = .ok (.ifCond .eq 5, 3) := by decide +kernel
theorem dX5_wordOfStep_68 : decode cX5_wordOfStep 68 = .ok (.iconst 5, 1) := by decide +kernel
theorem dX5_wordOfStep_69 : decode cX5_wordOfStep 69 = .ok (.ireturn, 1) := by decide +kernel
theorem dX5_wordOfStep_70 : decode cX5_wordOfStep 70 = .ok (.aload_n 0, 1) := by decide +kernel
theorem dX5_wordOfStep_71 : decode cX5_wordOfStep 71 = .ok (.getfield 19, 3) := by decide +kernel
theorem dX5_wordOfStep_74 : decode cX5_wordOfStep 74 = .ok (.ldc 99, 2) := by decide +kernel
theorem dX5_wordOfStep_76 : decode cX5_wordOfStep 76 = .ok (.invokevirtual 50, 3) := by decide +kernel
theorem dX5_wordOfStep_79 : decode cX5_wordOfStep 79 = .ok (.ifCond .eq 6, 3) := by decide +kernel
theorem dX5_wordOfStep_82 : decode cX5_wordOfStep 82 = .ok (.bipush 6, 2) := by decide +kernel
theorem dX5_wordOfStep_84 : decode cX5_wordOfStep 84 = .ok (.ireturn, 1) := by decide +kernel
theorem dX5_wordOfStep_85 : decode cX5_wordOfStep 85 = .ok (.aload_n 0, 1) := by decide +kernel
theorem dX5_wordOfStep_86 : decode cX5_wordOfStep 86 = .ok (.getfield 19, 3) := by decide +kernel
theorem dX5_wordOfStep_89 : decode cX5_wordOfStep 89 = .ok (.ldc 101, 2) := by decide +kernel
theorem dX5_wordOfStep_91 : decode cX5_wordOfStep 91 = .ok (.invokevirtual 50, 3) := by decide +kernel
theorem dX5_wordOfStep_94 : decode cX5_wordOfStep 94 = .ok (.ifCond .eq 6, 3) := by decide +kernel
theorem dX5_wordOfStep_97 : decode cX5_wordOfStep 97 = .ok (.bipush 7, 2) := by decide +kernel
theorem dX5_wordOfStep_99 : decode cX5_wordOfStep 99 = .ok (.ireturn, 1) := by decide +kernel
theorem dX5_wordOfStep_100 : decode cX5_wordOfStep 100 = .ok (.aload_n 0, 1) := by decide +kernel
theorem dX5_wordOfStep_101 : decode cX5_wordOfStep 101 = .ok (.getfield 19, 3) := by decide +kernel
theorem dX5_wordOfStep_104 : decode cX5_wordOfStep 104 = .ok (.ldc 103, 2) := by decide +kernel
theorem dX5_wordOfStep_106 : decode cX5_wordOfStep 106 = .ok (.invokevirtual 50, 3) := by decide +kernel
theorem dX5_wordOfStep_109 : decode cX5_wordOfStep 109 = .ok (.ifCond .eq 8, 3) := by decide +kernel
theorem dX5_wordOfStep_112 : decode cX5_wordOfStep 112 = .ok (.bipush 8, 2) := by decide +kernel
theorem dX5_wordOfStep_114 : decode cX5_wordOfStep 114 = .ok (.goto 4, 3) := by decide +kernel
theorem dX5_wordOfStep_117 : decode cX5_wordOfStep 117 = .ok (.iconst (-1), 1) := by decide +kernel
theorem dX5_wordOfStep_118 : decode cX5_wordOfStep 118 = .ok (.ireturn, 1) := by decide +kernel
theorem dX5_takeRest_0 : decode cX5_takeRest 0 = .ok (.iload_n 2, 1) := by decide +kernel
theorem dX5_takeRest_1 : decode cX5_takeRest 1 = .ok (.tableswitch 88 1 6 #[39, 39, 45, 54, 63, 45], 39) := by decide +kernel
theorem dX5_takeRest_40 : decode cX5_takeRest 40 = .ok (.aload_n 0, 1) := by decide +kernel
theorem dX5_takeRest_41 : decode cX5_takeRest 41 = .ok (.iload_n 1, 1) := by decide +kernel
theorem dX5_takeRest_42 : decode cX5_takeRest 42 = .ok (.invokevirtual 105, 3) := by decide +kernel
theorem dX5_takeRest_45 : decode cX5_takeRest 45 = .ok (.ireturn, 1) := by decide +kernel
theorem dX5_takeRest_46 : decode cX5_takeRest 46 = .ok (.aload_n 0, 1) := by decide +kernel
theorem dX5_takeRest_47 : decode cX5_takeRest 47 = .ok (.iload_n 1, 1) := by decide +kernel
theorem dX5_takeRest_48 : decode cX5_takeRest 48 = .ok (.iconst 1, 1) := by decide +kernel
theorem dX5_takeRest_49 : decode cX5_takeRest 49 = .ok (.bipush 9, 2) := by decide +kernel
theorem dX5_takeRest_51 : decode cX5_takeRest 51 = .ok (.invokevirtual 108, 3) := by decide +kernel
theorem dX5_takeRest_54 : decode cX5_takeRest 54 = .ok (.ireturn, 1) := by decide +kernel
theorem dX5_takeRest_55 : decode cX5_takeRest 55 = .ok (.aload_n 0, 1) := by decide +kernel
theorem dX5_takeRest_56 : decode cX5_takeRest 56 = .ok (.iload_n 1, 1) := by decide +kernel
theorem dX5_takeRest_57 : decode cX5_takeRest 57 = .ok (.iconst 0, 1) := by decide +kernel
theorem dX5_takeRest_58 : decode cX5_takeRest 58 = .ok (.bipush 9, 2) := by decide +kernel
theorem dX5_takeRest_60 : decode cX5_takeRest 60 = .ok (.invokevirtual 108, 3) := by decide +kernel
theorem dX5_takeRest_63 : decode cX5_takeRest 63 = .ok (.ireturn, 1) := by decide +kernel
theorem dX5_takeRest_64 : decode cX5_takeRest 64 = .ok (.aload_n 0, 1) := by decide +kernel
theorem dX5_takeRest_65 : decode cX5_takeRest 65 = .ok (.iload_n 1, 1) := by decide +kernel
theorem dX5_takeRest_66 : decode cX5_takeRest 66 = .ok (.invokevirtual 112, 3) := by decide +kernel
theorem dX5_takeRest_69 : decode cX5_takeRest 69 = .ok (.ifCond .eq 18, 3) := by decide +kernel
theorem dX5_takeRest_72 : decode cX5_takeRest 72 = .ok (.aload_n 0, 1) := by decide +kernel
theorem dX5_takeRest_73 : decode cX5_takeRest 73 = .ok (.iload_n 1, 1) := by decide +kernel
theorem dX5_takeRest_74 : decode cX5_takeRest 74 = .ok (.iconst 0, 1) := by decide +kernel
theorem dX5_takeRest_75 : decode cX5_takeRest 75 = .ok (.bipush 16, 2) := by decide +kernel
theorem dX5_takeRest_77 : decode cX5_takeRest 77 = .ok (.invokevirtual 108, 3) := by decide +kernel
theorem dX5_takeRest_80 : decode cX5_takeRest 80 = .ok (.ifCond .eq 7, 3) := by decide +kernel
theorem dX5_takeRest_83 : decode cX5_takeRest 83 = .ok (.iconst 1, 1) := by decide +kernel
theorem dX5_takeRest_84 : decode cX5_takeRest 84 = .ok (.goto 4, 3) := by decide +kernel
theorem dX5_takeRest_87 : decode cX5_takeRest 87 = .ok (.iconst 0, 1) := by decide +kernel
theorem dX5_takeRest_88 : decode cX5_takeRest 88 = .ok (.ireturn, 1) := by decide +kernel
theorem dX5_takeRest_89 : decode cX5_takeRest 89 = .ok (.iconst 1, 1) := by decide +kernel
theorem dX5_takeRest_90 : decode cX5_takeRest 90 = .ok (.ireturn, 1) := by decide +kernel
theorem dX5_takeWhat_0 : decode cX5_takeWhat 0 = .ok (.aload_n 0, 1) := by decide +kernel
theorem dX5_takeWhat_1 : decode cX5_takeWhat 1 = .ok (.getfield 19, 3) := by decide +kernel
theorem dX5_takeWhat_4 : decode cX5_takeWhat 4 = .ok (.ldc 115, 2) := by decide +kernel
theorem dX5_takeWhat_6 : decode cX5_takeWhat 6 = .ok (.invokevirtual 50, 3) := by decide +kernel
theorem dX5_takeWhat_9 : decode cX5_takeWhat 9 = .ok (.ifCond .eq 23, 3) := by decide +kernel
theorem dX5_takeWhat_12 : decode cX5_takeWhat 12 = .ok (.aload_n 0, 1) := by decide +kernel
theorem dX5_takeWhat_13 : decode cX5_takeWhat 13 = .ok (.getfield 23, 3) := by decide +kernel
theorem dX5_takeWhat_16 : decode cX5_takeWhat 16 = .ok (.getfield 117, 3) := by decide +kernel
theorem dX5_takeWhat_19 : decode cX5_takeWhat 19 = .ok (.iload_n 1, 1) := by decide +kernel
theorem dX5_takeWhat_20 : decode cX5_takeWhat 20 = .ok (.bipush 11, 2) := by decide +kernel
theorem dX5_takeWhat_22 : decode cX5_takeWhat 22 = .ok (.iastore, 1) := by decide +kernel
theorem dX5_takeWhat_23 : decode cX5_takeWhat 23 = .ok (.aload_n 0, 1) := by decide +kernel
theorem dX5_takeWhat_24 : decode cX5_takeWhat 24 = .ok (.getfield 19, 3) := by decide +kernel
theorem dX5_takeWhat_27 : decode cX5_takeWhat 27 = .ok (.invokevirtual 71, 3) := by decide +kernel
theorem dX5_takeWhat_30 : decode cX5_takeWhat 30 = .ok (.iconst 1, 1) := by decide +kernel
theorem dX5_takeWhat_31 : decode cX5_takeWhat 31 = .ok (.ireturn, 1) := by decide +kernel
theorem dX5_takeWhat_32 : decode cX5_takeWhat 32 = .ok (.aload_n 0, 1) := by decide +kernel
theorem dX5_takeWhat_33 : decode cX5_takeWhat 33 = .ok (.getfield 19, 3) := by decide +kernel
theorem dX5_takeWhat_36 : decode cX5_takeWhat 36 = .ok (.ldc 120, 2) := by decide +kernel
theorem dX5_takeWhat_38 : decode cX5_takeWhat 38 = .ok (.invokevirtual 50, 3) := by decide +kernel
theorem dX5_takeWhat_41 : decode cX5_takeWhat 41 = .ok (.ifCond .eq 17, 3) := by decide +kernel
theorem dX5_takeWhat_44 : decode cX5_takeWhat 44 = .ok (.aload_n 0, 1) := by decide +kernel
theorem dX5_takeWhat_45 : decode cX5_takeWhat 45 = .ok (.getfield 23, 3) := by decide +kernel
theorem dX5_takeWhat_48 : decode cX5_takeWhat 48 = .ok (.getfield 117, 3) := by decide +kernel
theorem dX5_takeWhat_51 : decode cX5_takeWhat 51 = .ok (.iload_n 1, 1) := by decide +kernel
theorem dX5_takeWhat_52 : decode cX5_takeWhat 52 = .ok (.bipush 9, 2) := by decide +kernel
theorem dX5_takeWhat_54 : decode cX5_takeWhat 54 = .ok (.iastore, 1) := by decide +kernel
theorem dX5_takeWhat_55 : decode cX5_takeWhat 55 = .ok (.goto 37, 3) := by decide +kernel
theorem dX5_takeWhat_58 : decode cX5_takeWhat 58 = .ok (.aload_n 0, 1) := by decide +kernel
theorem dX5_takeWhat_59 : decode cX5_takeWhat 59 = .ok (.getfield 19, 3) := by decide +kernel
theorem dX5_takeWhat_62 : decode cX5_takeWhat 62 = .ok (.ldc 122, 2) := by decide +kernel
theorem dX5_takeWhat_64 : decode cX5_takeWhat 64 = .ok (.invokevirtual 50, 3) := by decide +kernel
theorem dX5_takeWhat_67 : decode cX5_takeWhat 67 = .ok (.ifCond .eq 17, 3) := by decide +kernel
theorem dX5_takeWhat_70 : decode cX5_takeWhat 70 = .ok (.aload_n 0, 1) := by decide +kernel
theorem dX5_takeWhat_71 : decode cX5_takeWhat 71 = .ok (.getfield 23, 3) := by decide +kernel
theorem dX5_takeWhat_74 : decode cX5_takeWhat 74 = .ok (.getfield 117, 3) := by decide +kernel
theorem dX5_takeWhat_77 : decode cX5_takeWhat 77 = .ok (.iload_n 1, 1) := by decide +kernel
theorem dX5_takeWhat_78 : decode cX5_takeWhat 78 = .ok (.bipush 10, 2) := by decide +kernel
theorem dX5_takeWhat_80 : decode cX5_takeWhat 80 = .ok (.iastore, 1) := by decide +kernel
theorem dX5_takeWhat_81 : decode cX5_takeWhat 81 = .ok (.goto 11, 3) := by decide +kernel
theorem dX5_takeWhat_84 : decode cX5_takeWhat 84 = .ok (.aload_n 0, 1) := by decide +kernel
theorem dX5_takeWhat_85 : decode cX5_takeWhat 85 = .ok (.getfield 19, 3) := by decide +kernel
theorem dX5_takeWhat_88 : decode cX5_takeWhat 88 = .ok (.invokevirtual 61, 3) := by decide +kernel
theorem dX5_takeWhat_91 : decode cX5_takeWhat 91 = .ok (.ireturn, 1) := by decide +kernel
theorem dX5_takeWhat_92 : decode cX5_takeWhat 92 = .ok (.aload_n 0, 1) := by decide +kernel
theorem dX5_takeWhat_93 : decode cX5_takeWhat 93 = .ok (.getfield 19, 3) := by decide +kernel
theorem dX5_takeWhat_96 : decode cX5_takeWhat 96 = .ok (.invokevirtual 71, 3) := by decide +kernel
theorem dX5_takeWhat_99 : decode cX5_takeWhat 99 = .ok (.aload_n 0, 1) := by decide +kernel
theorem dX5_takeWhat_100 : decode cX5_takeWhat 100 = .ok (.iload_n 1, 1) := by decide +kernel
theorem dX5_takeWhat_101 : decode cX5_takeWhat 101 = .ok (.invokevirtual 105, 3) := by decide +kernel
theorem dX5_takeWhat_104 : decode cX5_takeWhat 104 = .ok (.ireturn, 1) := by decide +kernel
theorem dX5_takeBarName_0 : decode cX5_takeBarName 0 = .ok (.aload_n 0, 1) := by decide +kernel
theorem dX5_takeBarName_1 : decode cX5_takeBarName 1 = .ok (.getfield 19, 3) := by decide +kernel
theorem dX5_takeBarName_4 : decode cX5_takeBarName 4 = .ok (.invokevirtual 124, 3) := by decide +kernel
theorem dX5_takeBarName_7 : decode cX5_takeBarName 7 = .ok (.ifCond .ne 5, 3) := by decide +kernel
theorem dX5_takeBarName_10 : decode cX5_takeBarName 10 = .ok (.iconst 0, 1) := by decide +kernel
theorem dX5_takeBarName_11 : decode cX5_takeBarName 11 = .ok (.ireturn, 1) := by decide +kernel
theorem dX5_takeBarName_12 : decode cX5_takeBarName 12 = .ok (.aload_n 0, 1) := by decide +kernel
theorem dX5_takeBarName_13 : decode cX5_takeBarName 13 = .ok (.getfield 27, 3) := by decide +kernel
theorem dX5_takeBarName_16 : decode cX5_takeBarName 16 = .ok (.aload_n 0, 1) := by decide +kernel
theorem dX5_takeBarName_17 : decode cX5_takeBarName 17 = .ok (.getfield 19, 3) := by decide +kernel
theorem dX5_takeBarName_20 : decode cX5_takeBarName 20 = .ok (.getfield 127, 3) := by decide +kernel
theorem dX5_takeBarName_23 : decode cX5_takeBarName 23 = .ok (.invokevirtual 131, 3) := by decide +kernel
theorem dX5_takeBarName_26 : decode cX5_takeBarName 26 = .ok (.istore_n 2, 1) := by decide +kernel
theorem dX5_takeBarName_27 : decode cX5_takeBarName 27 = .ok (.iload_n 2, 1) := by decide +kernel
theorem dX5_takeBarName_28 : decode cX5_takeBarName 28 = .ok (.iconst (-1), 1) := by decide +kernel
theorem dX5_takeBarName_29 : decode cX5_takeBarName 29 = .ok (.if_icmp .ne 12, 3) := by decide +kernel
theorem dX5_takeBarName_32 : decode cX5_takeBarName 32 = .ok (.aload_n 0, 1) := by decide +kernel
theorem dX5_takeBarName_33 : decode cX5_takeBarName 33 = .ok (.getfield 19, 3) := by decide +kernel
theorem dX5_takeBarName_36 : decode cX5_takeBarName 36 = .ok (.iconst 3, 1) := by decide +kernel
theorem dX5_takeBarName_37 : decode cX5_takeBarName 37 = .ok (.invokevirtual 81, 3) := by decide +kernel
theorem dX5_takeBarName_40 : decode cX5_takeBarName 40 = .ok (.ireturn, 1) := by decide +kernel
theorem dX5_takeBarName_41 : decode cX5_takeBarName 41 = .ok (.aload_n 0, 1) := by decide +kernel
theorem dX5_takeBarName_42 : decode cX5_takeBarName 42 = .ok (.getfield 23, 3) := by decide +kernel
theorem dX5_takeBarName_45 : decode cX5_takeBarName 45 = .ok (.getfield 137, 3) := by decide +kernel
theorem dX5_takeBarName_48 : decode cX5_takeBarName 48 = .ok (.iload_n 1, 1) := by decide +kernel
theorem dX5_takeBarName_49 : decode cX5_takeBarName 49 = .ok (.iload_n 2, 1) := by decide +kernel
theorem dX5_takeBarName_50 : decode cX5_takeBarName 50 = .ok (.iastore, 1) := by decide +kernel
theorem dX5_takeBarName_51 : decode cX5_takeBarName 51 = .ok (.aload_n 0, 1) := by decide +kernel
theorem dX5_takeBarName_52 : decode cX5_takeBarName 52 = .ok (.getfield 19, 3) := by decide +kernel
theorem dX5_takeBarName_55 : decode cX5_takeBarName 55 = .ok (.invokevirtual 71, 3) := by decide +kernel
theorem dX5_takeBarName_58 : decode cX5_takeBarName 58 = .ok (.iconst 1, 1) := by decide +kernel
theorem dX5_takeBarName_59 : decode cX5_takeBarName 59 = .ok (.ireturn, 1) := by decide +kernel
theorem dX5_takeCount_0 : decode cX5_takeCount 0 = .ok (.aload_n 0, 1) := by decide +kernel
theorem dX5_takeCount_1 : decode cX5_takeCount 1 = .ok (.getfield 19, 3) := by decide +kernel
theorem dX5_takeCount_4 : decode cX5_takeCount 4 = .ok (.iload_n 2, 1) := by decide +kernel
theorem dX5_takeCount_5 : decode cX5_takeCount 5 = .ok (.iload_n 3, 1) := by decide +kernel
theorem dX5_takeCount_6 : decode cX5_takeCount 6 = .ok (.invokevirtual 140, 3) := by decide +kernel
theorem dX5_takeCount_9 : decode cX5_takeCount 9 = .ok (.ifCond .ne 5, 3) := by decide +kernel
theorem dX5_takeCount_12 : decode cX5_takeCount 12 = .ok (.iconst 0, 1) := by decide +kernel
theorem dX5_takeCount_13 : decode cX5_takeCount 13 = .ok (.ireturn, 1) := by decide +kernel
theorem dX5_takeCount_14 : decode cX5_takeCount 14 = .ok (.aload_n 0, 1) := by decide +kernel
theorem dX5_takeCount_15 : decode cX5_takeCount 15 = .ok (.getfield 23, 3) := by decide +kernel
theorem dX5_takeCount_18 : decode cX5_takeCount 18 = .ok (.getfield 143, 3) := by decide +kernel
theorem dX5_takeCount_21 : decode cX5_takeCount 21 = .ok (.iload_n 1, 1) := by decide +kernel
theorem dX5_takeCount_22 : decode cX5_takeCount 22 = .ok (.aload_n 0, 1) := by decide +kernel
theorem dX5_takeCount_23 : decode cX5_takeCount 23 = .ok (.getfield 19, 3) := by decide +kernel
theorem dX5_takeCount_26 : decode cX5_takeCount 26 = .ok (.getfield 146, 3) := by decide +kernel
theorem dX5_takeCount_29 : decode cX5_takeCount 29 = .ok (.iastore, 1) := by decide +kernel
theorem dX5_takeCount_30 : decode cX5_takeCount 30 = .ok (.iconst 1, 1) := by decide +kernel
theorem dX5_takeCount_31 : decode cX5_takeCount 31 = .ok (.ireturn, 1) := by decide +kernel
theorem dX6_init_0 : decode cX6_init 0 = .ok (.aload_n 0, 1) := by decide +kernel
theorem dX6_init_1 : decode cX6_init 1 = .ok (.invokespecial 3, 3) := by decide +kernel
theorem dX6_init_4 : decode cX6_init 4 = .ok (.aload_n 0, 1) := by decide +kernel
theorem dX6_init_5 : decode cX6_init 5 = .ok (.iconst 4, 1) := by decide +kernel
theorem dX6_init_6 : decode cX6_init 6 = .ok (.bipush 32, 2) := by decide +kernel
theorem dX6_init_8 : decode cX6_init 8 = .ok (.multianewarray 9 2, 4) := by decide +kernel
theorem dX6_init_12 : decode cX6_init 12 = .ok (.putfield 11, 3) := by decide +kernel
theorem dX6_init_15 : decode cX6_init 15 = .ok (.aload_n 0, 1) := by decide +kernel
theorem dX6_init_16 : decode cX6_init 16 = .ok (.iconst 0, 1) := by decide +kernel
theorem dX6_init_17 : decode cX6_init 17 = .ok (.putfield 16, 3) := by decide +kernel
theorem dX6_init_20 : decode cX6_init 20 = .ok (.aload_n 0, 1) := by decide +kernel
theorem dX6_init_21 : decode cX6_init 21 = .ok (.iconst 0, 1) := by decide +kernel
theorem dX6_init_22 : decode cX6_init 22 = .ok (.putfield 20, 3) := by decide +kernel
theorem dX6_init_25 : decode cX6_init 25 = .ok (.aload_n 0, 1) := by decide +kernel
theorem dX6_init_26 : decode cX6_init 26 = .ok (.aload_n 1, 1) := by decide +kernel
theorem dX6_init_27 : decode cX6_init 27 = .ok (.putfield 24, 3) := by decide +kernel
theorem dX6_init_30 : decode cX6_init 30 = .ok (.aload_n 0, 1) := by decide +kernel
theorem dX6_init_31 : decode cX6_init 31 = .ok (.aload_n 2, 1) := by decide +kernel
theorem dX6_init_32 : decode cX6_init 32 = .ok (.putfield 28, 3) := by decide +kernel
theorem dX6_init_35 : decode cX6_init 35 = .ok (.return_, 1) := by decide +kernel
theorem dX6_begin_0 : decode cX6_begin 0 = .ok (.aload_n 0, 1) := by decide +kernel
theorem dX6_begin_1 : decode cX6_begin 1 = .ok (.aload_n 1, 1) := by decide +kernel
theorem dX6_begin_2 : decode cX6_begin 2 = .ok (.getfield 32, 3) := by decide +kernel
theorem dX6_begin_5 : decode cX6_begin 5 = .ok (.putfield 28, 3) := by decide +kernel
theorem dX6_begin_8 : decode cX6_begin 8 = .ok (.aload_n 0, 1) := by decide +kernel
theorem dX6_begin_9 : decode cX6_begin 9 = .ok (.aload_n 0, 1) := by decide +kernel
theorem dX6_begin_10 : decode cX6_begin 10 = .ok (.getfield 28, 3) := by decide +kernel
theorem dX6_begin_13 : decode cX6_begin 13 = .ok (.aload_n 1, 1) := by decide +kernel
theorem dX6_begin_14 : decode cX6_begin 14 = .ok (.getfield 35, 3) := by decide +kernel
theorem dX6_begin_17 : decode cX6_begin 17 = .ok (.invokevirtual 38, 3) := by decide +kernel
theorem dX6_begin_20 : decode cX6_begin 20 = .ok (.putfield 16, 3) := by decide +kernel
theorem dX6_begin_23 : decode cX6_begin 23 = .ok (.aload_n 1, 1) := by decide +kernel
theorem dX6_begin_24 : decode cX6_begin 24 = .ok (.getfield 44, 3) := by decide +kernel
theorem dX6_begin_27 : decode cX6_begin 27 = .ok (.aload_n 0, 1) := by decide +kernel
theorem dX6_begin_28 : decode cX6_begin 28 = .ok (.getfield 11, 3) := by decide +kernel
theorem dX6_begin_31 : decode cX6_begin 31 = .ok (.iload_n 2, 1) := by decide +kernel
theorem dX6_begin_32 : decode cX6_begin 32 = .ok (.aaload, 1) := by decide +kernel
theorem dX6_begin_33 : decode cX6_begin 33 = .ok (.invokestatic 48, 3) := by decide +kernel
theorem dX6_begin_36 : decode cX6_begin 36 = .ok (.aload_n 0, 1) := by decide +kernel
theorem dX6_begin_37 : decode cX6_begin 37 = .ok (.iconst 0, 1) := by decide +kernel
theorem dX6_begin_38 : decode cX6_begin 38 = .ok (.putfield 20, 3) := by decide +kernel
theorem dX6_begin_41 : decode cX6_begin 41 = .ok (.iconst 0, 1) := by decide +kernel
theorem dX6_begin_42 : decode cX6_begin 42 = .ok (.istore_n 3, 1) := by decide +kernel
theorem dX6_begin_43 : decode cX6_begin 43 = .ok (.iload_n 3, 1) := by decide +kernel
theorem dX6_begin_44 : decode cX6_begin 44 = .ok (.aload_n 0, 1) := by decide +kernel
theorem dX6_begin_45 : decode cX6_begin 45 = .ok (.getfield 28, 3) := by decide +kernel
theorem dX6_begin_48 : decode cX6_begin 48 = .ok (.getfield 52, 3) := by decide +kernel
theorem dX6_begin_51 : decode cX6_begin 51 = .ok (.if_icmp .ge 36, 3) := by decide +kernel
theorem dX6_begin_54 : decode cX6_begin 54 = .ok (.aload_n 0, 1) := by decide +kernel
theorem dX6_begin_55 : decode cX6_begin 55 = .ok (.dup, 1) := by decide +kernel
theorem dX6_begin_56 : decode cX6_begin 56 = .ok (.getfield 20, 3) := by decide +kernel
theorem dX6_begin_59 : decode cX6_begin 59 = .ok (.aload_n 0, 1) := by decide +kernel
theorem dX6_begin_60 : decode cX6_begin 60 = .ok (.getfield 28, 3) := by decide +kernel
theorem dX6_begin_63 : decode cX6_begin 63 = .ok (.getfield 55, 3) := by decide +kernel
theorem dX6_begin_66 : decode cX6_begin 66 = .ok (.iload_n 3, 1) := by decide +kernel
theorem dX6_begin_67 : decode cX6_begin 67 = .ok (.iaload, 1) := by decide +kernel
theorem dX6_begin_68 : decode cX6_begin 68 = .ok (.iconst (-1), 1) := by decide +kernel
theorem dX6_begin_69 : decode cX6_begin 69 = .ok (.if_icmp .eq 7, 3) := by decide +kernel
theorem dX6_begin_72 : decode cX6_begin 72 = .ok (.iconst 1, 1) := by decide +kernel
theorem dX6_begin_73 : decode cX6_begin 73 = .ok (.goto 4, 3) := by decide +kernel
theorem dX6_begin_76 : decode cX6_begin 76 = .ok (.iconst 0, 1) := by decide +kernel
theorem dX6_begin_77 : decode cX6_begin 77 = .ok (.ior, 1) := by decide +kernel
theorem dX6_begin_78 : decode cX6_begin 78 = .ok (.putfield 20, 3) := by decide +kernel
theorem dX6_begin_81 : decode cX6_begin 81 = .ok (.iinc 3 1, 3) := by decide +kernel
theorem dX6_begin_84 : decode cX6_begin 84 = .ok (.goto (-41), 3) := by decide +kernel
theorem dX6_begin_87 : decode cX6_begin 87 = .ok (.return_, 1) := by decide +kernel
theorem dX6_wholeOf_0 : decode cX6_wholeOf 0 = .ok (.aload_n 0, 1) := by decide +kernel
theorem dX6_wholeOf_1 : decode cX6_wholeOf 1 = .ok (.getfield 20, 3) := by decide +kernel
theorem dX6_wholeOf_4 : decode cX6_wholeOf 4 = .ok (.ifCond .eq 13, 3) := by decide +kernel
theorem dX6_wholeOf_7 : decode cX6_wholeOf 7 = .ok (.ldc2_w 59, 3) := by decide +kernel
theorem dX6_wholeOf_10 : decode cX6_wholeOf 10 = .ok (.iconst 5, 1) := by decide +kernel
theorem dX6_wholeOf_11 : decode cX6_wholeOf 11 = .ok (.iload_n 1, 1) := by decide +kernel
theorem dX6_wholeOf_12 : decode cX6_wholeOf 12 = .ok (.imul, 1) := by decide +kernel
theorem dX6_wholeOf_13 : decode cX6_wholeOf 13 = .ok (.lshl, 1) := by decide +kernel
theorem dX6_wholeOf_14 : decode cX6_wholeOf 14 = .ok (.goto 6, 3) := by decide +kernel
theorem dX6_wholeOf_17 : decode cX6_wholeOf 17 = .ok (.ldc2_w 59, 3) := by decide +kernel
theorem dX6_wholeOf_20 : decode cX6_wholeOf 20 = .ok (.lreturn, 1) := by decide +kernel
theorem dX6_worthOf_0 : decode cX6_worthOf 0 = .ok (.iload_n 1, 1) := by decide +kernel
theorem dX6_worthOf_1 : decode cX6_worthOf 1 = .ok (.ifCond .le 10, 3) := by decide +kernel
theorem dX6_worthOf_4 : decode cX6_worthOf 4 = .ok (.aload_n 0, 1) := by decide +kernel
theorem dX6_worthOf_5 : decode cX6_worthOf 5 = .ok (.getfield 20, 3) := by decide +kernel
theorem dX6_worthOf_8 : decode cX6_worthOf 8 = .ok (.ifCond .ne 21, 3) := by decide +kernel
theorem dX6_worthOf_11 : decode cX6_worthOf 11 = .ok (.aload_n 0, 1) := by decide +kernel
theorem dX6_worthOf_12 : decode cX6_worthOf 12 = .ok (.getfield 24, 3) := by decide +kernel
theorem dX6_worthOf_15 : decode cX6_worthOf 15 = .ok (.aload_n 0, 1) := by decide +kernel
theorem dX6_worthOf_16 : decode cX6_worthOf 16 = .ok (.getfield 11, 3) := by decide +kernel
theorem dX6_worthOf_19 : decode cX6_worthOf 19 = .ok (.iconst 0, 1) := by decide +kernel
theorem dX6_worthOf_20 : decode cX6_worthOf 20 = .ok (.iload_n 1, 1) := by decide +kernel
theorem dX6_worthOf_21 : decode cX6_worthOf 21 = .ok (.invokestatic 61, 3) := by decide +kernel
theorem dX6_worthOf_24 : decode cX6_worthOf 24 = .ok (.aaload, 1) := by decide +kernel
theorem dX6_worthOf_25 : decode cX6_worthOf 25 = .ok (.invokevirtual 67, 3) := by decide +kernel
theorem dX6_worthOf_28 : decode cX6_worthOf 28 = .ok (.lreturn, 1) := by decide +kernel
theorem dX6_worthOf_29 : decode cX6_worthOf 29 = .ok (.lconst 0, 1) := by decide +kernel
theorem dX6_worthOf_30 : decode cX6_worthOf 30 = .ok (.lstore_n 2, 1) := by decide +kernel
theorem dX6_worthOf_31 : decode cX6_worthOf 31 = .ok (.iconst 0, 1) := by decide +kernel
theorem dX6_worthOf_32 : decode cX6_worthOf 32 = .ok (.istore 4, 2) := by decide +kernel
theorem dX6_worthOf_34 : decode cX6_worthOf 34 = .ok (.iload 4, 2) := by decide +kernel
theorem dX6_worthOf_36 : decode cX6_worthOf 36 = .ok (.aload_n 0, 1) := by decide +kernel
theorem dX6_worthOf_37 : decode cX6_worthOf 37 = .ok (.getfield 28, 3) := by decide +kernel
theorem dX6_worthOf_40 : decode cX6_worthOf 40 = .ok (.getfield 52, 3) := by decide +kernel
theorem dX6_worthOf_43 : decode cX6_worthOf 43 = .ok (.if_icmp .ge 35, 3) := by decide +kernel
theorem dX6_worthOf_46 : decode cX6_worthOf 46 = .ok (.aload_n 0, 1) := by decide +kernel
theorem dX6_worthOf_47 : decode cX6_worthOf 47 = .ok (.getfield 28, 3) := by decide +kernel
theorem dX6_worthOf_50 : decode cX6_worthOf 50 = .ok (.getfield 55, 3) := by decide +kernel
theorem dX6_worthOf_53 : decode cX6_worthOf 53 = .ok (.iload 4, 2) := by decide +kernel
theorem dX6_worthOf_55 : decode cX6_worthOf 55 = .ok (.iaload, 1) := by decide +kernel
theorem dX6_worthOf_56 : decode cX6_worthOf 56 = .ok (.iconst (-1), 1) := by decide +kernel
theorem dX6_worthOf_57 : decode cX6_worthOf 57 = .ok (.if_icmp .eq 15, 3) := by decide +kernel
theorem dX6_worthOf_60 : decode cX6_worthOf 60 = .ok (.lload_n 2, 1) := by decide +kernel
theorem dX6_worthOf_61 : decode cX6_worthOf 61 = .ok (.aload_n 0, 1) := by decide +kernel
theorem dX6_worthOf_62 : decode cX6_worthOf 62 = .ok (.iload 4, 2) := by decide +kernel
theorem dX6_worthOf_64 : decode cX6_worthOf 64 = .ok (.iload_n 1, 1) := by decide +kernel
theorem dX6_worthOf_65 : decode cX6_worthOf 65 = .ok (.invokevirtual 73, 3) := by decide +kernel
theorem dX6_worthOf_68 : decode cX6_worthOf 68 = .ok (.invokestatic 77, 3) := by decide +kernel
theorem dX6_worthOf_71 : decode cX6_worthOf 71 = .ok (.lstore_n 2, 1) := by decide +kernel
theorem dX6_worthOf_72 : decode cX6_worthOf 72 = .ok (.iinc 4 1, 3) := by decide +kernel
theorem dX6_worthOf_75 : decode cX6_worthOf 75 = .ok (.goto (-41), 3) := by decide +kernel
theorem dX6_worthOf_78 : decode cX6_worthOf 78 = .ok (.lload_n 2, 1) := by decide +kernel
theorem dX6_worthOf_79 : decode cX6_worthOf 79 = .ok (.lreturn, 1) := by decide +kernel
theorem dX6_firstBest_0 : decode cX6_firstBest 0 = .ok (.iconst (-1), 1) := by decide +kernel
theorem dX6_firstBest_1 : decode cX6_firstBest 1 = .ok (.istore_n 2, 1) := by decide +kernel
theorem dX6_firstBest_2 : decode cX6_firstBest 2 = .ok (.lconst 0, 1) := by decide +kernel
theorem dX6_firstBest_3 : decode cX6_firstBest 3 = .ok (.lstore_n 3, 1) := by decide +kernel
theorem dX6_firstBest_4 : decode cX6_firstBest 4 = .ok (.iconst 0, 1) := by decide +kernel
theorem dX6_firstBest_5 : decode cX6_firstBest 5 = .ok (.istore 5, 2) := by decide +kernel
theorem dX6_firstBest_7 : decode cX6_firstBest 7 = .ok (.iload 5, 2) := by decide +kernel
theorem dX6_firstBest_9 : decode cX6_firstBest 9 = .ok (.aload_n 0, 1) := by decide +kernel
theorem dX6_firstBest_10 : decode cX6_firstBest 10 = .ok (.getfield 28, 3) := by decide +kernel
theorem dX6_firstBest_13 : decode cX6_firstBest 13 = .ok (.getfield 52, 3) := by decide +kernel
theorem dX6_firstBest_16 : decode cX6_firstBest 16 = .ok (.if_icmp .ge 50, 3) := by decide +kernel
theorem dX6_firstBest_19 : decode cX6_firstBest 19 = .ok (.aload_n 0, 1) := by decide +kernel
theorem dX6_firstBest_20 : decode cX6_firstBest 20 = .ok (.getfield 28, 3) := by decide +kernel
theorem dX6_firstBest_23 : decode cX6_firstBest 23 = .ok (.getfield 55, 3) := by decide +kernel
theorem dX6_firstBest_26 : decode cX6_firstBest 26 = .ok (.iload 5, 2) := by decide +kernel
theorem dX6_firstBest_28 : decode cX6_firstBest 28 = .ok (.iaload, 1) := by decide +kernel
theorem dX6_firstBest_29 : decode cX6_firstBest 29 = .ok (.iconst (-1), 1) := by decide +kernel
theorem dX6_firstBest_30 : decode cX6_firstBest 30 = .ok (.if_icmp .eq 30, 3) := by decide +kernel
theorem dX6_firstBest_33 : decode cX6_firstBest 33 = .ok (.aload_n 0, 1) := by decide +kernel
theorem dX6_firstBest_34 : decode cX6_firstBest 34 = .ok (.iload 5, 2) := by decide +kernel
theorem dX6_firstBest_36 : decode cX6_firstBest 36 = .ok (.iload_n 1, 1) := by decide +kernel
theorem dX6_firstBest_37 : decode cX6_firstBest 37 = .ok (.invokevirtual 73, 3) := by decide +kernel
theorem dX6_firstBest_40 : decode cX6_firstBest 40 = .ok (.lstore 6, 2) := by decide +kernel
theorem dX6_firstBest_42 : decode cX6_firstBest 42 = .ok (.iload_n 2, 1) := by decide +kernel
theorem dX6_firstBest_43 : decode cX6_firstBest 43 = .ok (.iconst (-1), 1) := by decide +kernel
theorem dX6_firstBest_44 : decode cX6_firstBest 44 = .ok (.if_icmp .eq 10, 3) := by decide +kernel
theorem dX6_firstBest_47 : decode cX6_firstBest 47 = .ok (.lload 6, 2) := by decide +kernel
theorem dX6_firstBest_49 : decode cX6_firstBest 49 = .ok (.lload_n 3, 1) := by decide +kernel
theorem dX6_firstBest_50 : decode cX6_firstBest 50 = .ok (.lcmp, 1) := by decide +kernel
theorem dX6_firstBest_51 : decode cX6_firstBest 51 = .ok (.ifCond .le 9, 3) := by decide +kernel
theorem dX6_firstBest_54 : decode cX6_firstBest 54 = .ok (.iload 5, 2) := by decide +kernel
theorem dX6_firstBest_56 : decode cX6_firstBest 56 = .ok (.istore_n 2, 1) := by decide +kernel
theorem dX6_firstBest_57 : decode cX6_firstBest 57 = .ok (.lload 6, 2) := by decide +kernel
theorem dX6_firstBest_59 : decode cX6_firstBest 59 = .ok (.lstore_n 3, 1) := by decide +kernel
theorem dX6_firstBest_60 : decode cX6_firstBest 60 = .ok (.iinc 5 1, 3) := by decide +kernel
theorem dX6_firstBest_63 : decode cX6_firstBest 63 = .ok (.goto (-56), 3) := by decide +kernel
theorem dX6_firstBest_66 : decode cX6_firstBest 66 = .ok (.iload_n 2, 1) := by decide +kernel
theorem dX6_firstBest_67 : decode cX6_firstBest 67 = .ok (.ireturn, 1) := by decide +kernel
theorem dX6_worthAt_0 : decode cX6_worthAt 0 = .ok (.aload_n 0, 1) := by decide +kernel
theorem dX6_worthAt_1 : decode cX6_worthAt 1 = .ok (.getfield 28, 3) := by decide +kernel
theorem dX6_worthAt_4 : decode cX6_worthAt 4 = .ok (.aload_n 0, 1) := by decide +kernel
theorem dX6_worthAt_5 : decode cX6_worthAt 5 = .ok (.getfield 16, 3) := by decide +kernel
theorem dX6_worthAt_8 : decode cX6_worthAt 8 = .ok (.aload_n 0, 1) := by decide +kernel
theorem dX6_worthAt_9 : decode cX6_worthAt 9 = .ok (.getfield 28, 3) := by decide +kernel
theorem dX6_worthAt_12 : decode cX6_worthAt 12 = .ok (.getfield 55, 3) := by decide +kernel
theorem dX6_worthAt_15 : decode cX6_worthAt 15 = .ok (.iload_n 1, 1) := by decide +kernel
theorem dX6_worthAt_16 : decode cX6_worthAt 16 = .ok (.iaload, 1) := by decide +kernel
theorem dX6_worthAt_17 : decode cX6_worthAt 17 = .ok (.iconst 0, 1) := by decide +kernel
theorem dX6_worthAt_18 : decode cX6_worthAt 18 = .ok (.invokevirtual 80, 3) := by decide +kernel
theorem dX6_worthAt_21 : decode cX6_worthAt 21 = .ok (.istore_n 3, 1) := by decide +kernel
theorem dX6_worthAt_22 : decode cX6_worthAt 22 = .ok (.iload_n 3, 1) := by decide +kernel
theorem dX6_worthAt_23 : decode cX6_worthAt 23 = .ok (.aload_n 0, 1) := by decide +kernel
theorem dX6_worthAt_24 : decode cX6_worthAt 24 = .ok (.getfield 28, 3) := by decide +kernel
theorem dX6_worthAt_27 : decode cX6_worthAt 27 = .ok (.getfield 84, 3) := by decide +kernel
theorem dX6_worthAt_30 : decode cX6_worthAt 30 = .ok (.iload_n 1, 1) := by decide +kernel
theorem dX6_worthAt_31 : decode cX6_worthAt 31 = .ok (.iaload, 1) := by decide +kernel
theorem dX6_worthAt_32 : decode cX6_worthAt 32 = .ok (.isub, 1) := by decide +kernel
theorem dX6_worthAt_33 : decode cX6_worthAt 33 = .ok (.istore 4, 2) := by decide +kernel
theorem dX6_worthAt_35 : decode cX6_worthAt 35 = .ok (.iconst 0, 1) := by decide +kernel
theorem dX6_worthAt_36 : decode cX6_worthAt 36 = .ok (.istore 5, 2) := by decide +kernel
theorem dX6_worthAt_38 : decode cX6_worthAt 38 = .ok (.iconst 0, 1) := by decide +kernel
theorem dX6_worthAt_39 : decode cX6_worthAt 39 = .ok (.istore 6, 2) := by decide +kernel
theorem dX6_worthAt_41 : decode cX6_worthAt 41 = .ok (.lconst 0, 1) := by decide +kernel
theorem dX6_worthAt_42 : decode cX6_worthAt 42 = .ok (.lstore 7, 2) := by decide +kernel
theorem dX6_worthAt_44 : decode cX6_worthAt 44 = .ok (.iload 4, 2) := by decide +kernel
theorem dX6_worthAt_46 : decode cX6_worthAt 46 = .ok (.iconst 1, 1) := by decide +kernel
theorem dX6_worthAt_47 : decode cX6_worthAt 47 = .ok (.isub, 1) := by decide +kernel
theorem dX6_worthAt_48 : decode cX6_worthAt 48 = .ok (.istore 9, 2) := by decide +kernel
theorem dX6_worthAt_50 : decode cX6_worthAt 50 = .ok (.iload 9, 2) := by decide +kernel
theorem dX6_worthAt_52 : decode cX6_worthAt 52 = .ok (.iload_n 3, 1) := by decide +kernel
theorem dX6_worthAt_53 : decode cX6_worthAt 53 = .ok (.iconst 1, 1) := by decide +kernel
theorem dX6_worthAt_54 : decode cX6_worthAt 54 = .ok (.iadd, 1) := by decide +kernel
theorem dX6_worthAt_55 : decode cX6_worthAt 55 = .ok (.if_icmp .gt 79, 3) := by decide +kernel
theorem dX6_worthAt_58 : decode cX6_worthAt 58 = .ok (.aload_n 0, 1) := by decide +kernel
theorem dX6_worthAt_59 : decode cX6_worthAt 59 = .ok (.getfield 28, 3) := by decide +kernel
theorem dX6_worthAt_62 : decode cX6_worthAt 62 = .ok (.iload 9, 2) := by decide +kernel
theorem dX6_worthAt_64 : decode cX6_worthAt 64 = .ok (.iload 4, 2) := by decide +kernel
theorem dX6_worthAt_66 : decode cX6_worthAt 66 = .ok (.invokevirtual 87, 3) := by decide +kernel
theorem dX6_worthAt_69 : decode cX6_worthAt 69 = .ok (.istore 10, 2) := by decide +kernel
theorem dX6_worthAt_71 : decode cX6_worthAt 71 = .ok (.aload_n 0, 1) := by decide +kernel
theorem dX6_worthAt_72 : decode cX6_worthAt 72 = .ok (.getfield 28, 3) := by decide +kernel
theorem dX6_worthAt_75 : decode cX6_worthAt 75 = .ok (.iload 9, 2) := by decide +kernel
theorem dX6_worthAt_77 : decode cX6_worthAt 77 = .ok (.iload_n 3, 1) := by decide +kernel
theorem dX6_worthAt_78 : decode cX6_worthAt 78 = .ok (.invokevirtual 87, 3) := by decide +kernel
theorem dX6_worthAt_81 : decode cX6_worthAt 81 = .ok (.istore 11, 2) := by decide +kernel
theorem dX6_worthAt_83 : decode cX6_worthAt 83 = .ok (.iload 11, 2) := by decide +kernel
theorem dX6_worthAt_85 : decode cX6_worthAt 85 = .ok (.ifCond .ne 13, 3) := by decide +kernel
theorem dX6_worthAt_88 : decode cX6_worthAt 88 = .ok (.iload 5, 2) := by decide +kernel
theorem dX6_worthAt_90 : decode cX6_worthAt 90 = .ok (.iload 10, 2) := by decide +kernel
theorem dX6_worthAt_92 : decode cX6_worthAt 92 = .ok (.iadd, 1) := by decide +kernel
theorem dX6_worthAt_93 : decode cX6_worthAt 93 = .ok (.istore 5, 2) := by decide +kernel
theorem dX6_worthAt_95 : decode cX6_worthAt 95 = .ok (.goto 33, 3) := by decide +kernel
theorem dX6_worthAt_98 : decode cX6_worthAt 98 = .ok (.iload 10, 2) := by decide +kernel
theorem dX6_worthAt_100 : decode cX6_worthAt 100 = .ok (.ifCond .ne 13, 3) := by decide +kernel
theorem dX6_worthAt_103 : decode cX6_worthAt 103 = .ok (.iload 6, 2) := by decide +kernel
theorem dX6_worthAt_105 : decode cX6_worthAt 105 = .ok (.iload 11, 2) := by decide +kernel
theorem dX6_worthAt_107 : decode cX6_worthAt 107 = .ok (.iadd, 1) := by decide +kernel
theorem dX6_worthAt_108 : decode cX6_worthAt 108 = .ok (.istore 6, 2) := by decide +kernel
theorem dX6_worthAt_110 : decode cX6_worthAt 110 = .ok (.goto 18, 3) := by decide +kernel
theorem dX6_worthAt_113 : decode cX6_worthAt 113 = .ok (.lload 7, 2) := by decide +kernel
theorem dX6_worthAt_115 : decode cX6_worthAt 115 = .ok (.aload_n 0, 1) := by decide +kernel
theorem dX6_worthAt_116 : decode cX6_worthAt 116 = .ok (.iload_n 1, 1) := by decide +kernel
theorem dX6_worthAt_117 : decode cX6_worthAt 117 = .ok (.iload_n 2, 1) := by decide +kernel
theorem dX6_worthAt_118 : decode cX6_worthAt 118 = .ok (.iload 10, 2) := by decide +kernel
theorem dX6_worthAt_120 : decode cX6_worthAt 120 = .ok (.iload 11, 2) := by decide +kernel
theorem dX6_worthAt_122 : decode cX6_worthAt 122 = .ok (.invokevirtual 90, 3) := by decide +kernel
theorem dX6_worthAt_125 : decode cX6_worthAt 125 = .ok (.ladd, 1) := by decide +kernel
theorem dX6_worthAt_126 : decode cX6_worthAt 126 = .ok (.lstore 7, 2) := by decide +kernel
theorem dX6_worthAt_128 : decode cX6_worthAt 128 = .ok (.iinc 9 1, 3) := by decide +kernel
theorem dX6_worthAt_131 : decode cX6_worthAt 131 = .ok (.goto (-81), 3) := by decide +kernel
theorem dX6_worthAt_134 : decode cX6_worthAt 134 = .ok (.iload 5, 2) := by decide +kernel
theorem dX6_worthAt_136 : decode cX6_worthAt 136 = .ok (.ifCond .le 17, 3) := by decide +kernel
theorem dX6_worthAt_139 : decode cX6_worthAt 139 = .ok (.lload 7, 2) := by decide +kernel
theorem dX6_worthAt_141 : decode cX6_worthAt 141 = .ok (.aload_n 0, 1) := by decide +kernel
theorem dX6_worthAt_142 : decode cX6_worthAt 142 = .ok (.iload_n 1, 1) := by decide +kernel
theorem dX6_worthAt_143 : decode cX6_worthAt 143 = .ok (.iload_n 2, 1) := by decide +kernel
theorem dX6_worthAt_144 : decode cX6_worthAt 144 = .ok (.iload 5, 2) := by decide +kernel
theorem dX6_worthAt_146 : decode cX6_worthAt 146 = .ok (.iconst 0, 1) := by decide +kernel
theorem dX6_worthAt_147 : decode cX6_worthAt 147 = .ok (.invokevirtual 90, 3) := by decide +kernel
theorem dX6_worthAt_150 : decode cX6_worthAt 150 = .ok (.ladd, 1) := by decide +kernel
theorem dX6_worthAt_151 : decode cX6_worthAt 151 = .ok (.lstore 7, 2) := by decide +kernel
theorem dX6_worthAt_153 : decode cX6_worthAt 153 = .ok (.iload 6, 2) := by decide +kernel
theorem dX6_worthAt_155 : decode cX6_worthAt 155 = .ok (.ifCond .le 17, 3) := by decide +kernel
theorem dX6_worthAt_158 : decode cX6_worthAt 158 = .ok (.lload 7, 2) := by decide +kernel
theorem dX6_worthAt_160 : decode cX6_worthAt 160 = .ok (.aload_n 0, 1) := by decide +kernel
theorem dX6_worthAt_161 : decode cX6_worthAt 161 = .ok (.iload_n 1, 1) := by decide +kernel
theorem dX6_worthAt_162 : decode cX6_worthAt 162 = .ok (.iload_n 2, 1) := by decide +kernel
theorem dX6_worthAt_163 : decode cX6_worthAt 163 = .ok (.iconst 0, 1) := by decide +kernel
theorem dX6_worthAt_164 : decode cX6_worthAt 164 = .ok (.iload 6, 2) := by decide +kernel
theorem dX6_worthAt_166 : decode cX6_worthAt 166 = .ok (.invokevirtual 90, 3) := by decide +kernel
theorem dX6_worthAt_169 : decode cX6_worthAt 169 = .ok (.ladd, 1) := by decide +kernel
theorem dX6_worthAt_170 : decode cX6_worthAt 170 = .ok (.lstore 7, 2) := by decide +kernel
theorem dX6_worthAt_172 : decode cX6_worthAt 172 = .ok (.lload 7, 2) := by decide +kernel
theorem dX6_worthAt_174 : decode cX6_worthAt 174 = .ok (.lreturn, 1) := by decide +kernel
theorem dX6_worthBehind_0 : decode cX6_worthBehind 0 = .ok (.iconst 0, 1) := by decide +kernel
theorem dX6_worthBehind_1 : decode cX6_worthBehind 1 = .ok (.istore 5, 2) := by decide +kernel
theorem dX6_worthBehind_3 : decode cX6_worthBehind 3 = .ok (.iload 5, 2) := by decide +kernel
theorem dX6_worthBehind_5 : decode cX6_worthBehind 5 = .ok (.bipush 32, 2) := by decide +kernel
theorem dX6_worthBehind_7 : decode cX6_worthBehind 7 = .ok (.if_icmp .ge 51, 3) := by decide +kernel
theorem dX6_worthBehind_10 : decode cX6_worthBehind 10 = .ok (.iload 5, 2) := by decide +kernel
theorem dX6_worthBehind_12 : decode cX6_worthBehind 12 = .ok (.iload_n 1, 1) := by decide +kernel
theorem dX6_worthBehind_13 : decode cX6_worthBehind 13 = .ok (.ishr, 1) := by decide +kernel
theorem dX6_worthBehind_14 : decode cX6_worthBehind 14 = .ok (.iconst 1, 1) := by decide +kernel
theorem dX6_worthBehind_15 : decode cX6_worthBehind 15 = .ok (.iand, 1) := by decide +kernel
theorem dX6_worthBehind_16 : decode cX6_worthBehind 16 = .ok (.iconst 1, 1) := by decide +kernel
theorem dX6_worthBehind_17 : decode cX6_worthBehind 17 = .ok (.if_icmp .ne 7, 3) := by decide +kernel
theorem dX6_worthBehind_20 : decode cX6_worthBehind 20 = .ok (.iload_n 3, 1) := by decide +kernel
theorem dX6_worthBehind_21 : decode cX6_worthBehind 21 = .ok (.goto 5, 3) := by decide +kernel
theorem dX6_worthBehind_24 : decode cX6_worthBehind 24 = .ok (.iload 4, 2) := by decide +kernel
theorem dX6_worthBehind_26 : decode cX6_worthBehind 26 = .ok (.istore 6, 2) := by decide +kernel
theorem dX6_worthBehind_28 : decode cX6_worthBehind 28 = .ok (.aload_n 0, 1) := by decide +kernel
theorem dX6_worthBehind_29 : decode cX6_worthBehind 29 = .ok (.getfield 11, 3) := by decide +kernel
theorem dX6_worthBehind_32 : decode cX6_worthBehind 32 = .ok (.iload_n 2, 1) := by decide +kernel
theorem dX6_worthBehind_33 : decode cX6_worthBehind 33 = .ok (.iconst 1, 1) := by decide +kernel
theorem dX6_worthBehind_34 : decode cX6_worthBehind 34 = .ok (.isub, 1) := by decide +kernel
theorem dX6_worthBehind_35 : decode cX6_worthBehind 35 = .ok (.aaload, 1) := by decide +kernel
theorem dX6_worthBehind_36 : decode cX6_worthBehind 36 = .ok (.iload 5, 2) := by decide +kernel
theorem dX6_worthBehind_38 : decode cX6_worthBehind 38 = .ok (.aload_n 0, 1) := by decide +kernel
theorem dX6_worthBehind_39 : decode cX6_worthBehind 39 = .ok (.getfield 11, 3) := by decide +kernel
theorem dX6_worthBehind_42 : decode cX6_worthBehind 42 = .ok (.iload_n 2, 1) := by decide +kernel
theorem dX6_worthBehind_43 : decode cX6_worthBehind 43 = .ok (.aaload, 1) := by decide +kernel
theorem dX6_worthBehind_44 : decode cX6_worthBehind 44 = .ok (.iload 5, 2) := by decide +kernel
theorem dX6_worthBehind_46 : decode cX6_worthBehind 46 = .ok (.laload, 1) := by decide +kernel
theorem dX6_worthBehind_47 : decode cX6_worthBehind 47 = .ok (.iload 6, 2) := by decide +kernel
theorem dX6_worthBehind_49 : decode cX6_worthBehind 49 = .ok (.i2l, 1) := by decide +kernel
theorem dX6_worthBehind_50 : decode cX6_worthBehind 50 = .ok (.lmul, 1) := by decide +kernel
theorem dX6_worthBehind_51 : decode cX6_worthBehind 51 = .ok (.lastore, 1) := by decide +kernel
theorem dX6_worthBehind_52 : decode cX6_worthBehind 52 = .ok (.iinc 5 1, 3) := by decide +kernel
theorem dX6_worthBehind_55 : decode cX6_worthBehind 55 = .ok (.goto (-52), 3) := by decide +kernel
theorem dX6_worthBehind_58 : decode cX6_worthBehind 58 = .ok (.aload_n 0, 1) := by decide +kernel
theorem dX6_worthBehind_59 : decode cX6_worthBehind 59 = .ok (.iload_n 2, 1) := by decide +kernel
theorem dX6_worthBehind_60 : decode cX6_worthBehind 60 = .ok (.iconst 1, 1) := by decide +kernel
theorem dX6_worthBehind_61 : decode cX6_worthBehind 61 = .ok (.isub, 1) := by decide +kernel
theorem dX6_worthBehind_62 : decode cX6_worthBehind 62 = .ok (.invokevirtual 94, 3) := by decide +kernel
theorem dX6_worthBehind_65 : decode cX6_worthBehind 65 = .ok (.lreturn, 1) := by decide +kernel
theorem dX7_init_0 : decode cX7_init 0 = .ok (.aload_n 0, 1) := by decide +kernel
theorem dX7_init_1 : decode cX7_init 1 = .ok (.invokespecial 3, 3) := by decide +kernel
theorem dX7_init_4 : decode cX7_init 4 = .ok (.aload_n 0, 1) := by decide +kernel
theorem dX7_init_5 : decode cX7_init 5 = .ok (.new 9, 3) := by decide +kernel
theorem dX7_init_8 : decode cX7_init 8 = .ok (.dup, 1) := by decide +kernel
theorem dX7_init_9 : decode cX7_init 9 = .ok (.invokespecial 11, 3) := by decide +kernel
theorem dX7_init_12 : decode cX7_init 12 = .ok (.putfield 12, 3) := by decide +kernel
theorem dX7_init_15 : decode cX7_init 15 = .ok (.aload_n 0, 1) := by decide +kernel
theorem dX7_init_16 : decode cX7_init 16 = .ok (.new 18, 3) := by decide +kernel
theorem dX7_init_19 : decode cX7_init 19 = .ok (.dup, 1) := by decide +kernel
theorem dX7_init_20 : decode cX7_init 20 = .ok (.invokespecial 20, 3) := by decide +kernel
theorem dX7_init_23 : decode cX7_init 23 = .ok (.putfield 21, 3) := by decide +kernel
theorem dX7_init_26 : decode cX7_init 26 = .ok (.aload_n 0, 1) := by decide +kernel
theorem dX7_init_27 : decode cX7_init 27 = .ok (.bipush 32, 2) := by decide +kernel
theorem dX7_init_29 : decode cX7_init 29 = .ok (.newarray .long, 2) := by decide +kernel
theorem dX7_init_31 : decode cX7_init 31 = .ok (.putfield 25, 3) := by decide +kernel
theorem dX7_init_34 : decode cX7_init 34 = .ok (.aload_n 0, 1) := by decide +kernel
theorem dX7_init_35 : decode cX7_init 35 = .ok (.iconst 0, 1) := by decide +kernel
theorem dX7_init_36 : decode cX7_init 36 = .ok (.putfield 29, 3) := by decide +kernel
theorem dX7_init_39 : decode cX7_init 39 = .ok (.aload_n 0, 1) := by decide +kernel
theorem dX7_init_40 : decode cX7_init 40 = .ok (.iconst 0, 1) := by decide +kernel
theorem dX7_init_41 : decode cX7_init 41 = .ok (.putfield 33, 3) := by decide +kernel
theorem dX7_init_44 : decode cX7_init 44 = .ok (.return_, 1) := by decide +kernel
theorem dX7_copyFrom_0 : decode cX7_copyFrom 0 = .ok (.aload_n 0, 1) := by decide +kernel
theorem dX7_copyFrom_1 : decode cX7_copyFrom 1 = .ok (.getfield 12, 3) := by decide +kernel
theorem dX7_copyFrom_4 : decode cX7_copyFrom 4 = .ok (.aload_n 1, 1) := by decide +kernel
theorem dX7_copyFrom_5 : decode cX7_copyFrom 5 = .ok (.getfield 12, 3) := by decide +kernel
theorem dX7_copyFrom_8 : decode cX7_copyFrom 8 = .ok (.invokevirtual 36, 3) := by decide +kernel
theorem dX7_copyFrom_11 : decode cX7_copyFrom 11 = .ok (.aload_n 0, 1) := by decide +kernel
theorem dX7_copyFrom_12 : decode cX7_copyFrom 12 = .ok (.getfield 21, 3) := by decide +kernel
theorem dX7_copyFrom_15 : decode cX7_copyFrom 15 = .ok (.aload_n 1, 1) := by decide +kernel
theorem dX7_copyFrom_16 : decode cX7_copyFrom 16 = .ok (.getfield 21, 3) := by decide +kernel
theorem dX7_copyFrom_19 : decode cX7_copyFrom 19 = .ok (.invokevirtual 40, 3) := by decide +kernel
theorem dX7_copyFrom_22 : decode cX7_copyFrom 22 = .ok (.aload_n 1, 1) := by decide +kernel
theorem dX7_copyFrom_23 : decode cX7_copyFrom 23 = .ok (.getfield 25, 3) := by decide +kernel
theorem dX7_copyFrom_26 : decode cX7_copyFrom 26 = .ok (.aload_n 0, 1) := by decide +kernel
theorem dX7_copyFrom_27 : decode cX7_copyFrom 27 = .ok (.getfield 25, 3) := by decide +kernel
theorem dX7_copyFrom_30 : decode cX7_copyFrom 30 = .ok (.invokestatic 43, 3) := by decide +kernel
theorem dX7_copyFrom_33 : decode cX7_copyFrom 33 = .ok (.aload_n 0, 1) := by decide +kernel
theorem dX7_copyFrom_34 : decode cX7_copyFrom 34 = .ok (.aload_n 1, 1) := by decide +kernel
theorem dX7_copyFrom_35 : decode cX7_copyFrom 35 = .ok (.getfield 29, 3) := by decide +kernel
theorem dX7_copyFrom_38 : decode cX7_copyFrom 38 = .ok (.putfield 29, 3) := by decide +kernel
theorem dX7_copyFrom_41 : decode cX7_copyFrom 41 = .ok (.aload_n 0, 1) := by decide +kernel
theorem dX7_copyFrom_42 : decode cX7_copyFrom 42 = .ok (.aload_n 1, 1) := by decide +kernel
theorem dX7_copyFrom_43 : decode cX7_copyFrom 43 = .ok (.getfield 33, 3) := by decide +kernel
theorem dX7_copyFrom_46 : decode cX7_copyFrom 46 = .ok (.putfield 33, 3) := by decide +kernel
theorem dX7_copyFrom_49 : decode cX7_copyFrom 49 = .ok (.return_, 1) := by decide +kernel
theorem dX8_init_0 : decode cX8_init 0 = .ok (.aload_n 0, 1) := by decide +kernel
theorem dX8_init_1 : decode cX8_init 1 = .ok (.invokespecial 3, 3) := by decide +kernel
theorem dX8_init_4 : decode cX8_init 4 = .ok (.aload_n 0, 1) := by decide +kernel
theorem dX8_init_5 : decode cX8_init 5 = .ok (.sipush 900, 3) := by decide +kernel
theorem dX8_init_8 : decode cX8_init 8 = .ok (.newarray .byte, 2) := by decide +kernel
theorem dX8_init_10 : decode cX8_init 10 = .ok (.putfield 9, 3) := by decide +kernel
theorem dX8_init_13 : decode cX8_init 13 = .ok (.aload_n 0, 1) := by decide +kernel
theorem dX8_init_14 : decode cX8_init 14 = .ok (.iconst 0, 1) := by decide +kernel
theorem dX8_init_15 : decode cX8_init 15 = .ok (.putfield 15, 3) := by decide +kernel
theorem dX8_init_18 : decode cX8_init 18 = .ok (.aload_n 0, 1) := by decide +kernel
theorem dX8_init_19 : decode cX8_init 19 = .ok (.iconst 0, 1) := by decide +kernel
theorem dX8_init_20 : decode cX8_init 20 = .ok (.putfield 19, 3) := by decide +kernel
theorem dX8_init_23 : decode cX8_init 23 = .ok (.aload_n 0, 1) := by decide +kernel
theorem dX8_init_24 : decode cX8_init 24 = .ok (.iconst 0, 1) := by decide +kernel
theorem dX8_init_25 : decode cX8_init 25 = .ok (.putfield 22, 3) := by decide +kernel
theorem dX8_init_28 : decode cX8_init 28 = .ok (.aload_n 0, 1) := by decide +kernel
theorem dX8_init_29 : decode cX8_init 29 = .ok (.iconst 0, 1) := by decide +kernel
theorem dX8_init_30 : decode cX8_init 30 = .ok (.putfield 25, 3) := by decide +kernel
theorem dX8_init_33 : decode cX8_init 33 = .ok (.aload_n 0, 1) := by decide +kernel
theorem dX8_init_34 : decode cX8_init 34 = .ok (.iconst 0, 1) := by decide +kernel
theorem dX8_init_35 : decode cX8_init 35 = .ok (.putfield 28, 3) := by decide +kernel
theorem dX8_init_38 : decode cX8_init 38 = .ok (.aload_n 0, 1) := by decide +kernel
theorem dX8_init_39 : decode cX8_init 39 = .ok (.lconst 0, 1) := by decide +kernel
theorem dX8_init_40 : decode cX8_init 40 = .ok (.putfield 31, 3) := by decide +kernel
theorem dX8_init_43 : decode cX8_init 43 = .ok (.aload_n 0, 1) := by decide +kernel
theorem dX8_init_44 : decode cX8_init 44 = .ok (.iconst 0, 1) := by decide +kernel
theorem dX8_init_45 : decode cX8_init 45 = .ok (.putfield 35, 3) := by decide +kernel
theorem dX8_init_48 : decode cX8_init 48 = .ok (.aload_n 0, 1) := by decide +kernel
theorem dX8_init_49 : decode cX8_init 49 = .ok (.iconst 0, 1) := by decide +kernel
theorem dX8_init_50 : decode cX8_init 50 = .ok (.putfield 38, 3) := by decide +kernel
theorem dX8_init_53 : decode cX8_init 53 = .ok (.aload_n 0, 1) := by decide +kernel
theorem dX8_init_54 : decode cX8_init 54 = .ok (.iconst (-1), 1) := by decide +kernel
theorem dX8_init_55 : decode cX8_init 55 = .ok (.putfield 41, 3) := by decide +kernel
theorem dX8_init_58 : decode cX8_init 58 = .ok (.aload_n 0, 1) := by decide +kernel
theorem dX8_init_59 : decode cX8_init 59 = .ok (.iconst (-1), 1) := by decide +kernel
theorem dX8_init_60 : decode cX8_init 60 = .ok (.putfield 44, 3) := by decide +kernel
theorem dX8_init_63 : decode cX8_init 63 = .ok (.return_, 1) := by decide +kernel
theorem dX8_append_0 : decode cX8_append 0 = .ok (.bipush 24, 2) := by decide +kernel
theorem dX8_append_2 : decode cX8_append 2 = .ok (.istore_n 2, 1) := by decide +kernel
theorem dX8_append_3 : decode cX8_append 3 = .ok (.iload_n 2, 1) := by decide +kernel
theorem dX8_append_4 : decode cX8_append 4 = .ok (.ifCond .lt 42, 3) := by decide +kernel
theorem dX8_append_7 : decode cX8_append 7 = .ok (.aload_n 0, 1) := by decide +kernel
theorem dX8_append_8 : decode cX8_append 8 = .ok (.getfield 15, 3) := by decide +kernel
theorem dX8_append_11 : decode cX8_append 11 = .ok (.sipush 900, 3) := by decide +kernel
theorem dX8_append_14 : decode cX8_append 14 = .ok (.if_icmp .ge 32, 3) := by decide +kernel
theorem dX8_append_17 : decode cX8_append 17 = .ok (.aload_n 0, 1) := by decide +kernel
theorem dX8_append_18 : decode cX8_append 18 = .ok (.getfield 9, 3) := by decide +kernel
theorem dX8_append_21 : decode cX8_append 21 = .ok (.aload_n 0, 1) := by decide +kernel
theorem dX8_append_22 : decode cX8_append 22 = .ok (.getfield 15, 3) := by decide +kernel
theorem dX8_append_25 : decode cX8_append 25 = .ok (.iload_n 1, 1) := by decide +kernel
theorem dX8_append_26 : decode cX8_append 26 = .ok (.iload_n 2, 1) := by decide +kernel
theorem dX8_append_27 : decode cX8_append 27 = .ok (.iushr, 1) := by decide +kernel
theorem dX8_append_28 : decode cX8_append 28 = .ok (.i2b, 1) := by decide +kernel
theorem dX8_append_29 : decode cX8_append 29 = .ok (.bastore, 1) := by decide +kernel
theorem dX8_append_30 : decode cX8_append 30 = .ok (.aload_n 0, 1) := by decide +kernel
theorem dX8_append_31 : decode cX8_append 31 = .ok (.dup, 1) := by decide +kernel
theorem dX8_append_32 : decode cX8_append 32 = .ok (.getfield 15, 3) := by decide +kernel
theorem dX8_append_35 : decode cX8_append 35 = .ok (.iconst 1, 1) := by decide +kernel
theorem dX8_append_36 : decode cX8_append 36 = .ok (.iadd, 1) := by decide +kernel
theorem dX8_append_37 : decode cX8_append 37 = .ok (.putfield 15, 3) := by decide +kernel
theorem dX8_append_40 : decode cX8_append 40 = .ok (.iinc 2 (-8), 3) := by decide +kernel
theorem dX8_append_43 : decode cX8_append 43 = .ok (.goto (-40), 3) := by decide +kernel
theorem dX8_append_46 : decode cX8_append 46 = .ok (.return_, 1) := by decide +kernel
theorem dX8_start_0 : decode cX8_start 0 = .ok (.aload_n 0, 1) := by decide +kernel
theorem dX8_start_1 : decode cX8_start 1 = .ok (.iload_n 1, 1) := by decide +kernel
theorem dX8_start_2 : decode cX8_start 2 = .ok (.putfield 19, 3) := by decide +kernel
theorem dX8_start_5 : decode cX8_start 5 = .ok (.aload_n 0, 1) := by decide +kernel
theorem dX8_start_6 : decode cX8_start 6 = .ok (.iconst 0, 1) := by decide +kernel
theorem dX8_start_7 : decode cX8_start 7 = .ok (.putfield 22, 3) := by decide +kernel
theorem dX8_start_10 : decode cX8_start 10 = .ok (.aload_n 0, 1) := by decide +kernel
theorem dX8_start_11 : decode cX8_start 11 = .ok (.iconst 0, 1) := by decide +kernel
theorem dX8_start_12 : decode cX8_start 12 = .ok (.putfield 41, 3) := by decide +kernel
theorem dX8_start_15 : decode cX8_start 15 = .ok (.aload_n 0, 1) := by decide +kernel
theorem dX8_start_16 : decode cX8_start 16 = .ok (.iconst (-1), 1) := by decide +kernel
theorem dX8_start_17 : decode cX8_start 17 = .ok (.putfield 44, 3) := by decide +kernel
theorem dX8_start_20 : decode cX8_start 20 = .ok (.aload_n 0, 1) := by decide +kernel
theorem dX8_start_21 : decode cX8_start 21 = .ok (.invokevirtual 47, 3) := by decide +kernel
theorem dX8_start_24 : decode cX8_start 24 = .ok (.return_, 1) := by decide +kernel
theorem dX8_advance_0 : decode cX8_advance 0 = .ok (.aload_n 0, 1) := by decide +kernel
theorem dX8_advance_1 : decode cX8_advance 1 = .ok (.getfield 22, 3) := by decide +kernel
theorem dX8_advance_4 : decode cX8_advance 4 = .ok (.aload_n 0, 1) := by decide +kernel
theorem dX8_advance_5 : decode cX8_advance 5 = .ok (.getfield 19, 3) := by decide +kernel
theorem dX8_advance_8 : decode cX8_advance 8 = .ok (.if_icmp .ge 44, 3) := by decide +kernel
theorem dX8_advance_11 : decode cX8_advance 11 = .ok (.aload_n 0, 1) := by decide +kernel
theorem dX8_advance_12 : decode cX8_advance 12 = .ok (.getfield 9, 3) := by decide +kernel
theorem dX8_advance_15 : decode cX8_advance 15 = .ok (.aload_n 0, 1) := by decide +kernel
theorem dX8_advance_16 : decode cX8_advance 16 = .ok (.getfield 22, 3) := by decide +kernel
theorem dX8_advance_19 : decode cX8_advance 19 = .ok (.baload, 1) := by decide +kernel
theorem dX8_advance_20 : decode cX8_advance 20 = .ok (.bipush 10, 2) := by decide +kernel
theorem dX8_advance_22 : decode cX8_advance 22 = .ok (.if_icmp .eq 17, 3) := by decide +kernel
theorem dX8_advance_25 : decode cX8_advance 25 = .ok (.aload_n 0, 1) := by decide +kernel
theorem dX8_advance_26 : decode cX8_advance 26 = .ok (.getfield 9, 3) := by decide +kernel
theorem dX8_advance_29 : decode cX8_advance 29 = .ok (.aload_n 0, 1) := by decide +kernel
theorem dX8_advance_30 : decode cX8_advance 30 = .ok (.getfield 22, 3) := by decide +kernel
theorem dX8_advance_33 : decode cX8_advance 33 = .ok (.baload, 1) := by decide +kernel
theorem dX8_advance_34 : decode cX8_advance 34 = .ok (.bipush 32, 2) := by decide +kernel
theorem dX8_advance_36 : decode cX8_advance 36 = .ok (.if_icmp .ne 16, 3) := by decide +kernel
theorem dX8_advance_39 : decode cX8_advance 39 = .ok (.aload_n 0, 1) := by decide +kernel
theorem dX8_advance_40 : decode cX8_advance 40 = .ok (.dup, 1) := by decide +kernel
theorem dX8_advance_41 : decode cX8_advance 41 = .ok (.getfield 22, 3) := by decide +kernel
theorem dX8_advance_44 : decode cX8_advance 44 = .ok (.iconst 1, 1) := by decide +kernel
theorem dX8_advance_45 : decode cX8_advance 45 = .ok (.iadd, 1) := by decide +kernel
theorem dX8_advance_46 : decode cX8_advance 46 = .ok (.putfield 22, 3) := by decide +kernel
theorem dX8_advance_49 : decode cX8_advance 49 = .ok (.goto (-49), 3) := by decide +kernel
theorem dX8_advance_52 : decode cX8_advance 52 = .ok (.aload_n 0, 1) := by decide +kernel
theorem dX8_advance_53 : decode cX8_advance 53 = .ok (.aload_n 0, 1) := by decide +kernel
theorem dX8_advance_54 : decode cX8_advance 54 = .ok (.getfield 22, 3) := by decide +kernel
theorem dX8_advance_57 : decode cX8_advance 57 = .ok (.putfield 28, 3) := by decide +kernel
theorem dX8_advance_60 : decode cX8_advance 60 = .ok (.aload_n 0, 1) := by decide +kernel
theorem dX8_advance_61 : decode cX8_advance 61 = .ok (.iconst 0, 1) := by decide +kernel
theorem dX8_advance_62 : decode cX8_advance 62 = .ok (.putfield 25, 3) := by decide +kernel
theorem dX8_advance_65 : decode cX8_advance 65 = .ok (.aload_n 0, 1) := by decide +kernel
theorem dX8_advance_66 : decode cX8_advance 66 = .ok (.lconst 0, 1) := by decide +kernel
theorem dX8_advance_67 : decode cX8_advance 67 = .ok (.putfield 31, 3) := by decide +kernel
theorem dX8_advance_70 : decode cX8_advance 70 = .ok (.aload_n 0, 1) := by decide +kernel
theorem dX8_advance_71 : decode cX8_advance 71 = .ok (.iconst 0, 1) := by decide +kernel
theorem dX8_advance_72 : decode cX8_advance 72 = .ok (.putfield 35, 3) := by decide +kernel
theorem dX8_advance_75 : decode cX8_advance 75 = .ok (.aload_n 0, 1) := by decide +kernel
theorem dX8_advance_76 : decode cX8_advance 76 = .ok (.getfield 22, 3) := by decide +kernel
theorem dX8_advance_79 : decode cX8_advance 79 = .ok (.aload_n 0, 1) := by decide +kernel
theorem dX8_advance_80 : decode cX8_advance 80 = .ok (.getfield 19, 3) := by decide +kernel
theorem dX8_advance_83 : decode cX8_advance 83 = .ok (.if_icmp .lt 4, 3) := by decide +kernel
theorem dX8_advance_86 : decode cX8_advance 86 = .ok (.return_, 1) := by decide +kernel
theorem dX8_advance_87 : decode cX8_advance 87 = .ok (.aload_n 0, 1) := by decide +kernel
theorem dX8_advance_88 : decode cX8_advance 88 = .ok (.aload_n 0, 1) := by decide +kernel
theorem dX8_advance_89 : decode cX8_advance 89 = .ok (.getfield 9, 3) := by decide +kernel
theorem dX8_advance_92 : decode cX8_advance 92 = .ok (.aload_n 0, 1) := by decide +kernel
theorem dX8_advance_93 : decode cX8_advance 93 = .ok (.getfield 22, 3) := by decide +kernel
theorem dX8_advance_96 : decode cX8_advance 96 = .ok (.baload, 1) := by decide +kernel
theorem dX8_advance_97 : decode cX8_advance 97 = .ok (.invokestatic 50, 3) := by decide +kernel
theorem dX8_advance_100 : decode cX8_advance 100 = .ok (.putfield 25, 3) := by decide +kernel
theorem dX8_advance_103 : decode cX8_advance 103 = .ok (.aload_n 0, 1) := by decide +kernel
theorem dX8_advance_104 : decode cX8_advance 104 = .ok (.getfield 25, 3) := by decide +kernel
theorem dX8_advance_107 : decode cX8_advance 107 = .ok (.iconst 1, 1) := by decide +kernel
theorem dX8_advance_108 : decode cX8_advance 108 = .ok (.if_icmp .eq 11, 3) := by decide +kernel
theorem dX8_advance_111 : decode cX8_advance 111 = .ok (.aload_n 0, 1) := by decide +kernel
theorem dX8_advance_112 : decode cX8_advance 112 = .ok (.getfield 25, 3) := by decide +kernel
theorem dX8_advance_115 : decode cX8_advance 115 = .ok (.iconst 2, 1) := by decide +kernel
theorem dX8_advance_116 : decode cX8_advance 116 = .ok (.if_icmp .ne 10, 3) := by decide +kernel
theorem dX8_advance_119 : decode cX8_advance 119 = .ok (.aload_n 0, 1) := by decide +kernel
theorem dX8_advance_120 : decode cX8_advance 120 = .ok (.getfield 19, 3) := by decide +kernel
theorem dX8_advance_123 : decode cX8_advance 123 = .ok (.goto 9, 3) := by decide +kernel
theorem dX8_advance_126 : decode cX8_advance 126 = .ok (.aload_n 0, 1) := by decide +kernel
theorem dX8_advance_127 : decode cX8_advance 127 = .ok (.getfield 22, 3) := by decide +kernel
theorem dX8_advance_130 : decode cX8_advance 130 = .ok (.iconst 1, 1) := by decide +kernel
theorem dX8_advance_131 : decode cX8_advance 131 = .ok (.iadd, 1) := by decide +kernel
theorem dX8_advance_132 : decode cX8_advance 132 = .ok (.istore_n 1, 1) := by decide +kernel
theorem dX8_advance_133 : decode cX8_advance 133 = .ok (.aload_n 0, 1) := by decide +kernel
theorem dX8_advance_134 : decode cX8_advance 134 = .ok (.getfield 22, 3) := by decide +kernel
theorem dX8_advance_137 : decode cX8_advance 137 = .ok (.iload_n 1, 1) := by decide +kernel
theorem dX8_advance_138 : decode cX8_advance 138 = .ok (.if_icmp .ge 129, 3) := by decide +kernel
theorem dX8_advance_141 : decode cX8_advance 141 = .ok (.aload_n 0, 1) := by decide +kernel
theorem dX8_advance_142 : decode cX8_advance 142 = .ok (.getfield 9, 3) := by decide +kernel
theorem dX8_advance_145 : decode cX8_advance 145 = .ok (.aload_n 0, 1) := by decide +kernel
theorem dX8_advance_146 : decode cX8_advance 146 = .ok (.getfield 22, 3) := by decide +kernel
theorem dX8_advance_149 : decode cX8_advance 149 = .ok (.baload, 1) := by decide +kernel
theorem dX8_advance_150 : decode cX8_advance 150 = .ok (.invokestatic 50, 3) := by decide +kernel
theorem dX8_advance_153 : decode cX8_advance 153 = .ok (.aload_n 0, 1) := by decide +kernel
theorem dX8_advance_154 : decode cX8_advance 154 = .ok (.getfield 25, 3) := by decide +kernel
theorem dX8_advance_157 : decode cX8_advance 157 = .ok (.if_icmp .ne 110, 3) := by decide +kernel
theorem dX8_advance_160 : decode cX8_advance 160 = .ok (.aload_n 0, 1) := by decide +kernel
theorem dX8_advance_161 : decode cX8_advance 161 = .ok (.getfield 25, 3) := by decide +kernel
theorem dX8_advance_164 : decode cX8_advance 164 = .ok (.iconst 1, 1) := by decide +kernel
theorem dX8_advance_165 : decode cX8_advance 165 = .ok (.if_icmp .ne 52, 3) := by decide +kernel
theorem dX8_advance_168 : decode cX8_advance 168 = .ok (.aload_n 0, 1) := by decide +kernel
theorem dX8_advance_169 : decode cX8_advance 169 = .ok (.aload_n 0, 1) := by decide +kernel
theorem dX8_advance_170 : decode cX8_advance 170 = .ok (.getfield 22, 3) := by decide +kernel
theorem dX8_advance_173 : decode cX8_advance 173 = .ok (.aload_n 0, 1) := by decide +kernel
theorem dX8_advance_174 : decode cX8_advance 174 = .ok (.getfield 28, 3) := by decide +kernel
theorem dX8_advance_177 : decode cX8_advance 177 = .ok (.isub, 1) := by decide +kernel
theorem dX8_advance_178 : decode cX8_advance 178 = .ok (.bipush 8, 2) := by decide +kernel
theorem dX8_advance_180 : decode cX8_advance 180 = .ok (.if_icmp .ge 30, 3) := by decide +kernel
theorem dX8_advance_183 : decode cX8_advance 183 = .ok (.aload_n 0, 1) := by decide +kernel
theorem dX8_advance_184 : decode cX8_advance 184 = .ok (.getfield 31, 3) := by decide +kernel
theorem dX8_advance_187 : decode cX8_advance 187 = .ok (.ldc2_w 54, 3) := by decide +kernel
theorem dX8_advance_190 : decode cX8_advance 190 = .ok (.lmul, 1) := by decide +kernel
theorem dX8_advance_191 : decode cX8_advance 191 = .ok (.aload_n 0, 1) := by decide +kernel
theorem dX8_advance_192 : decode cX8_advance 192 = .ok (.getfield 9, 3) := by decide +kernel
theorem dX8_advance_195 : decode cX8_advance 195 = .ok (.aload_n 0, 1) := by decide +kernel
theorem dX8_advance_196 : decode cX8_advance 196 = .ok (.getfield 22, 3) := by decide +kernel
theorem dX8_advance_199 : decode cX8_advance 199 = .ok (.baload, 1) := by decide +kernel
theorem dX8_advance_200 : decode cX8_advance 200 = .ok (.bipush 97, 2) := by decide +kernel
theorem dX8_advance_202 : decode cX8_advance 202 = .ok (.isub, 1) := by decide +kernel
theorem dX8_advance_203 : decode cX8_advance 203 = .ok (.iconst 1, 1) := by decide +kernel
theorem dX8_advance_204 : decode cX8_advance 204 = .ok (.iadd, 1) := by decide +kernel
theorem dX8_advance_205 : decode cX8_advance 205 = .ok (.i2l, 1) := by decide +kernel
theorem dX8_advance_206 : decode cX8_advance 206 = .ok (.ladd, 1) := by decide +kernel
theorem dX8_advance_207 : decode cX8_advance 207 = .ok (.goto 4, 3) := by decide +kernel
theorem dX8_advance_210 : decode cX8_advance 210 = .ok (.lconst 0, 1) := by decide +kernel
theorem dX8_advance_211 : decode cX8_advance 211 = .ok (.putfield 31, 3) := by decide +kernel
theorem dX8_advance_214 : decode cX8_advance 214 = .ok (.goto 40, 3) := by decide +kernel
theorem dX8_advance_217 : decode cX8_advance 217 = .ok (.aload_n 0, 1) := by decide +kernel
theorem dX8_advance_218 : decode cX8_advance 218 = .ok (.getfield 22, 3) := by decide +kernel
theorem dX8_advance_221 : decode cX8_advance 221 = .ok (.aload_n 0, 1) := by decide +kernel
theorem dX8_advance_222 : decode cX8_advance 222 = .ok (.getfield 28, 3) := by decide +kernel
theorem dX8_advance_225 : decode cX8_advance 225 = .ok (.isub, 1) := by decide +kernel
theorem dX8_advance_226 : decode cX8_advance 226 = .ok (.iconst 4, 1) := by decide +kernel
theorem dX8_advance_227 : decode cX8_advance 227 = .ok (.if_icmp .ge 27, 3) := by decide +kernel
theorem dX8_advance_230 : decode cX8_advance 230 = .ok (.aload_n 0, 1) := by decide +kernel
theorem dX8_advance_231 : decode cX8_advance 231 = .ok (.aload_n 0, 1) := by decide +kernel
theorem dX8_advance_232 : decode cX8_advance 232 = .ok (.getfield 35, 3) := by decide +kernel
theorem dX8_advance_235 : decode cX8_advance 235 = .ok (.bipush 10, 2) := by decide +kernel
theorem dX8_advance_237 : decode cX8_advance 237 = .ok (.imul, 1) := by decide +kernel
theorem dX8_advance_238 : decode cX8_advance 238 = .ok (.aload_n 0, 1) := by decide +kernel
theorem dX8_advance_239 : decode cX8_advance 239 = .ok (.getfield 9, 3) := by decide +kernel
theorem dX8_advance_242 : decode cX8_advance 242 = .ok (.aload_n 0, 1) := by decide +kernel
theorem dX8_advance_243 : decode cX8_advance 243 = .ok (.getfield 22, 3) := by decide +kernel
theorem dX8_advance_246 : decode cX8_advance 246 = .ok (.baload, 1) := by decide +kernel
theorem dX8_advance_247 : decode cX8_advance 247 = .ok (.bipush 48, 2) := by decide +kernel
theorem dX8_advance_249 : decode cX8_advance 249 = .ok (.isub, 1) := by decide +kernel
theorem dX8_advance_250 : decode cX8_advance 250 = .ok (.iadd, 1) := by decide +kernel
theorem dX8_advance_251 : decode cX8_advance 251 = .ok (.putfield 35, 3) := by decide +kernel
theorem dX8_advance_254 : decode cX8_advance 254 = .ok (.aload_n 0, 1) := by decide +kernel
theorem dX8_advance_255 : decode cX8_advance 255 = .ok (.dup, 1) := by decide +kernel
theorem dX8_advance_256 : decode cX8_advance 256 = .ok (.getfield 22, 3) := by decide +kernel
theorem dX8_advance_259 : decode cX8_advance 259 = .ok (.iconst 1, 1) := by decide +kernel
theorem dX8_advance_260 : decode cX8_advance 260 = .ok (.iadd, 1) := by decide +kernel
theorem dX8_advance_261 : decode cX8_advance 261 = .ok (.putfield 22, 3) := by decide +kernel
theorem dX8_advance_264 : decode cX8_advance 264 = .ok (.goto (-131), 3) := by decide +kernel
theorem dX8_advance_267 : decode cX8_advance 267 = .ok (.aload_n 0, 1) := by decide +kernel
theorem dX8_advance_268 : decode cX8_advance 268 = .ok (.getfield 25, 3) := by decide +kernel
theorem dX8_advance_271 : decode cX8_advance 271 = .ok (.iconst 2, 1) := by decide +kernel
theorem dX8_advance_272 : decode cX8_advance 272 = .ok (.if_icmp .ne 21, 3) := by decide +kernel
theorem dX8_advance_275 : decode cX8_advance 275 = .ok (.aload_n 0, 1) := by decide +kernel
theorem dX8_advance_276 : decode cX8_advance 276 = .ok (.getfield 22, 3) := by decide +kernel
theorem dX8_advance_279 : decode cX8_advance 279 = .ok (.aload_n 0, 1) := by decide +kernel
theorem dX8_advance_280 : decode cX8_advance 280 = .ok (.getfield 28, 3) := by decide +kernel
theorem dX8_advance_283 : decode cX8_advance 283 = .ok (.isub, 1) := by decide +kernel
theorem dX8_advance_284 : decode cX8_advance 284 = .ok (.iconst 4, 1) := by decide +kernel
theorem dX8_advance_285 : decode cX8_advance 285 = .ok (.if_icmp .le 8, 3) := by decide +kernel
theorem dX8_advance_288 : decode cX8_advance 288 = .ok (.aload_n 0, 1) := by decide +kernel
theorem dX8_advance_289 : decode cX8_advance 289 = .ok (.iconst 4, 1) := by decide +kernel
theorem dX8_advance_290 : decode cX8_advance 290 = .ok (.putfield 25, 3) := by decide +kernel
theorem dX8_advance_293 : decode cX8_advance 293 = .ok (.return_, 1) := by decide +kernel
theorem dX8_kindOfByte_0 : decode cX8_kindOfByte 0 = .ok (.iload_n 0, 1) := by decide +kernel
theorem dX8_kindOfByte_1 : decode cX8_kindOfByte 1 = .ok (.bipush 97, 2) := by decide +kernel
theorem dX8_kindOfByte_3 : decode cX8_kindOfByte 3 = .ok (.if_icmp .lt 11, 3) := by decide +kernel
theorem dX8_kindOfByte_6 : decode cX8_kindOfByte 6 = .ok (.iload_n 0, 1) := by decide +kernel
theorem dX8_kindOfByte_7 : decode cX8_kindOfByte 7 = .ok (.bipush 122, 2) := by decide +kernel
theorem dX8_kindOfByte_9 : decode cX8_kindOfByte 9 = .ok (.if_icmp .gt 5, 3) := by decide +kernel
theorem dX8_kindOfByte_12 : decode cX8_kindOfByte 12 = .ok (.iconst 1, 1) := by decide +kernel
theorem dX8_kindOfByte_13 : decode cX8_kindOfByte 13 = .ok (.ireturn, 1) := by decide +kernel
theorem dX8_kindOfByte_14 : decode cX8_kindOfByte 14 = .ok (.iload_n 0, 1) := by decide +kernel
theorem dX8_kindOfByte_15 : decode cX8_kindOfByte 15 = .ok (.bipush 48, 2) := by decide +kernel
theorem dX8_kindOfByte_17 : decode cX8_kindOfByte 17 = .ok (.if_icmp .lt 11, 3) := by decide +kernel
theorem dX8_kindOfByte_20 : decode cX8_kindOfByte 20 = .ok (.iload_n 0, 1) := by decide +kernel
theorem dX8_kindOfByte_21 : decode cX8_kindOfByte 21 = .ok (.bipush 57, 2) := by decide +kernel
theorem dX8_kindOfByte_23 : decode cX8_kindOfByte 23 = .ok (.if_icmp .gt 5, 3) := by decide +kernel
theorem dX8_kindOfByte_26 : decode cX8_kindOfByte 26 = .ok (.iconst 2, 1) := by decide +kernel
theorem dX8_kindOfByte_27 : decode cX8_kindOfByte 27 = .ok (.ireturn, 1) := by decide +kernel
theorem dX8_kindOfByte_28 : decode cX8_kindOfByte 28 = .ok (.iload_n 0, 1) := by decide +kernel
theorem dX8_kindOfByte_29 : decode cX8_kindOfByte 29 = .ok (.bipush 59, 2) := by decide +kernel
theorem dX8_kindOfByte_31 : decode cX8_kindOfByte 31 = .ok (.if_icmp .ne 7, 3) := by decide +kernel
theorem dX8_kindOfByte_34 : decode cX8_kindOfByte 34 = .ok (.iconst 3, 1) := by decide +kernel
theorem dX8_kindOfByte_35 : decode cX8_kindOfByte 35 = .ok (.goto 4, 3) := by decide +kernel
theorem dX8_kindOfByte_38 : decode cX8_kindOfByte 38 = .ok (.iconst 4, 1) := by decide +kernel
theorem dX8_kindOfByte_39 : decode cX8_kindOfByte 39 = .ok (.ireturn, 1) := by decide +kernel
theorem dX8_is_0 : decode cX8_is 0 = .ok (.aload_n 1, 1) := by decide +kernel
theorem dX8_is_1 : decode cX8_is 1 = .ok (.invokevirtual 56, 3) := by decide +kernel
theorem dX8_is_4 : decode cX8_is 4 = .ok (.istore_n 2, 1) := by decide +kernel
theorem dX8_is_5 : decode cX8_is 5 = .ok (.aload_n 0, 1) := by decide +kernel
theorem dX8_is_6 : decode cX8_is 6 = .ok (.getfield 25, 3) := by decide +kernel
theorem dX8_is_9 : decode cX8_is 9 = .ok (.iconst 1, 1) := by decide +kernel
theorem dX8_is_10 : decode cX8_is 10 = .ok (.if_icmp .ne 16, 3) := by decide +kernel
theorem dX8_is_13 : decode cX8_is 13 = .ok (.iload_n 2, 1) := by decide +kernel
theorem dX8_is_14 : decode cX8_is 14 = .ok (.aload_n 0, 1) := by decide +kernel
theorem dX8_is_15 : decode cX8_is 15 = .ok (.getfield 22, 3) := by decide +kernel
theorem dX8_is_18 : decode cX8_is 18 = .ok (.aload_n 0, 1) := by decide +kernel
theorem dX8_is_19 : decode cX8_is 19 = .ok (.getfield 28, 3) := by decide +kernel
theorem dX8_is_22 : decode cX8_is 22 = .ok (.isub, 1) := by decide +kernel
theorem dX8_is_23 : decode cX8_is 23 = .ok (.if_icmp .eq 5, 3) := by decide +kernel
theorem dX8_is_26 : decode cX8_is 26 = .ok (.iconst 0, 1) := by decide +kernel
theorem dX8_is_27 : decode cX8_is 27 = .ok (.ireturn, 1) := by decide +kernel
theorem dX8_is_28 : decode cX8_is 28 = .ok (.iconst 0, 1) := by decide +kernel
theorem dX8_is_29 : decode cX8_is 29 = .ok (.istore_n 3, 1) := by decide +kernel
theorem dX8_is_30 : decode cX8_is 30 = .ok (.iload_n 3, 1) := by decide +kernel
theorem dX8_is_31 : decode cX8_is 31 = .ok (.iload_n 2, 1) := by decide +kernel
theorem dX8_is_32 : decode cX8_is 32 = .ok (.if_icmp .ge 30, 3) := by decide +kernel
theorem dX8_is_35 : decode cX8_is 35 = .ok (.aload_n 0, 1) := by decide +kernel
theorem dX8_is_36 : decode cX8_is 36 = .ok (.getfield 9, 3) := by decide +kernel
theorem dX8_is_39 : decode cX8_is 39 = .ok (.aload_n 0, 1) := by decide +kernel
theorem dX8_is_40 : decode cX8_is 40 = .ok (.getfield 28, 3) := by decide +kernel
theorem dX8_is_43 : decode cX8_is 43 = .ok (.iload_n 3, 1) := by decide +kernel
theorem dX8_is_44 : decode cX8_is 44 = .ok (.iadd, 1) := by decide +kernel
theorem dX8_is_45 : decode cX8_is 45 = .ok (.baload, 1) := by decide +kernel
theorem dX8_is_46 : decode cX8_is 46 = .ok (.aload_n 1, 1) := by decide +kernel
theorem dX8_is_47 : decode cX8_is 47 = .ok (.iload_n 3, 1) := by decide +kernel
theorem dX8_is_48 : decode cX8_is 48 = .ok (.invokevirtual 62, 3) := by decide +kernel
theorem dX8_is_51 : decode cX8_is 51 = .ok (.if_icmp .eq 5, 3) := by decide +kernel
theorem dX8_is_54 : decode cX8_is 54 = .ok (.iconst 0, 1) := by decide +kernel
theorem dX8_is_55 : decode cX8_is 55 = .ok (.ireturn, 1) := by decide +kernel
theorem dX8_is_56 : decode cX8_is 56 = .ok (.iinc 3 1, 3) := by decide +kernel
theorem dX8_is_59 : decode cX8_is 59 = .ok (.goto (-29), 3) := by decide +kernel
theorem dX8_is_62 : decode cX8_is 62 = .ok (.iconst 1, 1) := by decide +kernel
theorem dX8_is_63 : decode cX8_is 63 = .ok (.ireturn, 1) := by decide +kernel
theorem dX8_fail_0 : decode cX8_fail 0 = .ok (.aload_n 0, 1) := by decide +kernel
theorem dX8_fail_1 : decode cX8_fail 1 = .ok (.iload_n 1, 1) := by decide +kernel
theorem dX8_fail_2 : decode cX8_fail 2 = .ok (.putfield 41, 3) := by decide +kernel
theorem dX8_fail_5 : decode cX8_fail 5 = .ok (.aload_n 0, 1) := by decide +kernel
theorem dX8_fail_6 : decode cX8_fail 6 = .ok (.aload_n 0, 1) := by decide +kernel
theorem dX8_fail_7 : decode cX8_fail 7 = .ok (.getfield 28, 3) := by decide +kernel
theorem dX8_fail_10 : decode cX8_fail 10 = .ok (.putfield 44, 3) := by decide +kernel
theorem dX8_fail_13 : decode cX8_fail 13 = .ok (.iconst 0, 1) := by decide +kernel
theorem dX8_fail_14 : decode cX8_fail 14 = .ok (.ireturn, 1) := by decide +kernel
theorem dX8_failHere_0 : decode cX8_failHere 0 = .ok (.aload_n 0, 1) := by decide +kernel
theorem dX8_failHere_1 : decode cX8_failHere 1 = .ok (.aload_n 0, 1) := by decide +kernel
theorem dX8_failHere_2 : decode cX8_failHere 2 = .ok (.getfield 25, 3) := by decide +kernel
theorem dX8_failHere_5 : decode cX8_failHere 5 = .ok (.iconst 4, 1) := by decide +kernel
theorem dX8_failHere_6 : decode cX8_failHere 6 = .ok (.if_icmp .ne 7, 3) := by decide +kernel
theorem dX8_failHere_9 : decode cX8_failHere 9 = .ok (.iconst 1, 1) := by decide +kernel
theorem dX8_failHere_10 : decode cX8_failHere 10 = .ok (.goto 4, 3) := by decide +kernel
theorem dX8_failHere_13 : decode cX8_failHere 13 = .ok (.iconst 2, 1) := by decide +kernel
theorem dX8_failHere_14 : decode cX8_failHere 14 = .ok (.putfield 41, 3) := by decide +kernel
theorem dX8_failHere_17 : decode cX8_failHere 17 = .ok (.aload_n 0, 1) := by decide +kernel
theorem dX8_failHere_18 : decode cX8_failHere 18 = .ok (.aload_n 0, 1) := by decide +kernel
theorem dX8_failHere_19 : decode cX8_failHere 19 = .ok (.getfield 28, 3) := by decide +kernel
theorem dX8_failHere_22 : decode cX8_failHere 22 = .ok (.putfield 44, 3) := by decide +kernel
theorem dX8_failHere_25 : decode cX8_failHere 25 = .ok (.iconst 0, 1) := by decide +kernel
theorem dX8_failHere_26 : decode cX8_failHere 26 = .ok (.ireturn, 1) := by decide +kernel
theorem dX8_takeWord_0 : decode cX8_takeWord 0 = .ok (.aload_n 0, 1) := by decide +kernel
theorem dX8_takeWord_1 : decode cX8_takeWord 1 = .ok (.aload_n 1, 1) := by decide +kernel
theorem dX8_takeWord_2 : decode cX8_takeWord 2 = .ok (.invokevirtual 66, 3) := by decide +kernel
theorem dX8_takeWord_5 : decode cX8_takeWord 5 = .ok (.ifCond .ne 8, 3) := by decide +kernel
theorem dX8_takeWord_8 : decode cX8_takeWord 8 = .ok (.aload_n 0, 1) := by decide +kernel
theorem dX8_takeWord_9 : decode cX8_takeWord 9 = .ok (.invokevirtual 70, 3) := by decide +kernel
theorem dX8_takeWord_12 : decode cX8_takeWord 12 = .ok (.ireturn, 1) := by decide +kernel
theorem dX8_takeWord_13 : decode cX8_takeWord 13 = .ok (.aload_n 0, 1) := by decide +kernel
theorem dX8_takeWord_14 : decode cX8_takeWord 14 = .ok (.invokevirtual 47, 3) := by decide +kernel
theorem dX8_takeWord_17 : decode cX8_takeWord 17 = .ok (.iconst 1, 1) := by decide +kernel
theorem dX8_takeWord_18 : decode cX8_takeWord 18 = .ok (.ireturn, 1) := by decide +kernel
theorem dX8_takeSign_0 : decode cX8_takeSign 0 = .ok (.aload_n 0, 1) := by decide +kernel
theorem dX8_takeSign_1 : decode cX8_takeSign 1 = .ok (.getfield 25, 3) := by decide +kernel
theorem dX8_takeSign_4 : decode cX8_takeSign 4 = .ok (.iconst 3, 1) := by decide +kernel
theorem dX8_takeSign_5 : decode cX8_takeSign 5 = .ok (.if_icmp .eq 8, 3) := by decide +kernel
theorem dX8_takeSign_8 : decode cX8_takeSign 8 = .ok (.aload_n 0, 1) := by decide +kernel
theorem dX8_takeSign_9 : decode cX8_takeSign 9 = .ok (.invokevirtual 70, 3) := by decide +kernel
theorem dX8_takeSign_12 : decode cX8_takeSign 12 = .ok (.ireturn, 1) := by decide +kernel
theorem dX8_takeSign_13 : decode cX8_takeSign 13 = .ok (.aload_n 0, 1) := by decide +kernel
theorem dX8_takeSign_14 : decode cX8_takeSign 14 = .ok (.invokevirtual 47, 3) := by decide +kernel
theorem dX8_takeSign_17 : decode cX8_takeSign 17 = .ok (.iconst 1, 1) := by decide +kernel
theorem dX8_takeSign_18 : decode cX8_takeSign 18 = .ok (.ireturn, 1) := by decide +kernel
theorem dX8_isNumber_0 : decode cX8_isNumber 0 = .ok (.aload_n 0, 1) := by decide +kernel
theorem dX8_isNumber_1 : decode cX8_isNumber 1 = .ok (.getfield 25, 3) := by decide +kernel
theorem dX8_isNumber_4 : decode cX8_isNumber 4 = .ok (.iconst 2, 1) := by decide +kernel
theorem dX8_isNumber_5 : decode cX8_isNumber 5 = .ok (.if_icmp .eq 8, 3) := by decide +kernel
theorem dX8_isNumber_8 : decode cX8_isNumber 8 = .ok (.aload_n 0, 1) := by decide +kernel
theorem dX8_isNumber_9 : decode cX8_isNumber 9 = .ok (.invokevirtual 70, 3) := by decide +kernel
theorem dX8_isNumber_12 : decode cX8_isNumber 12 = .ok (.ireturn, 1) := by decide +kernel
theorem dX8_isNumber_13 : decode cX8_isNumber 13 = .ok (.aload_n 0, 1) := by decide +kernel
theorem dX8_isNumber_14 : decode cX8_isNumber 14 = .ok (.getfield 35, 3) := by decide +kernel
theorem dX8_isNumber_17 : decode cX8_isNumber 17 = .ok (.iload_n 1, 1) := by decide +kernel
theorem dX8_isNumber_18 : decode cX8_isNumber 18 = .ok (.if_icmp .lt 11, 3) := by decide +kernel
theorem dX8_isNumber_21 : decode cX8_isNumber 21 = .ok (.aload_n 0, 1) := by decide +kernel
theorem dX8_isNumber_22 : decode cX8_isNumber 22 = .ok (.getfield 35, 3) := by decide +kernel
theorem dX8_isNumber_25 : decode cX8_isNumber 25 = .ok (.iload_n 2, 1) := by decide +kernel
theorem dX8_isNumber_26 : decode cX8_isNumber 26 = .ok (.if_icmp .le 11, 3) := by decide +kernel
theorem dX8_isNumber_29 : decode cX8_isNumber 29 = .ok (.aload_n 0, 1) := by decide +kernel
theorem dX8_isNumber_30 : decode cX8_isNumber 30 = .ok (.iconst 4, 1) := by decide +kernel
theorem dX8_isNumber_31 : decode cX8_isNumber 31 = .ok (.invokevirtual 74, 3) := by decide +kernel
theorem dX8_isNumber_34 : decode cX8_isNumber 34 = .ok (.ifCond .eq 7, 3) := by decide +kernel
theorem dX8_isNumber_37 : decode cX8_isNumber 37 = .ok (.iconst 1, 1) := by decide +kernel
theorem dX8_isNumber_38 : decode cX8_isNumber 38 = .ok (.goto 4, 3) := by decide +kernel
theorem dX8_isNumber_41 : decode cX8_isNumber 41 = .ok (.iconst 0, 1) := by decide +kernel
theorem dX8_isNumber_42 : decode cX8_isNumber 42 = .ok (.ireturn, 1) := by decide +kernel
theorem dX8_takeNumber_0 : decode cX8_takeNumber 0 = .ok (.aload_n 0, 1) := by decide +kernel
theorem dX8_takeNumber_1 : decode cX8_takeNumber 1 = .ok (.iload_n 1, 1) := by decide +kernel
theorem dX8_takeNumber_2 : decode cX8_takeNumber 2 = .ok (.iload_n 2, 1) := by decide +kernel
theorem dX8_takeNumber_3 : decode cX8_takeNumber 3 = .ok (.invokevirtual 78, 3) := by decide +kernel
theorem dX8_takeNumber_6 : decode cX8_takeNumber 6 = .ok (.ifCond .ne 5, 3) := by decide +kernel
theorem dX8_takeNumber_9 : decode cX8_takeNumber 9 = .ok (.iconst 0, 1) := by decide +kernel
theorem dX8_takeNumber_10 : decode cX8_takeNumber 10 = .ok (.ireturn, 1) := by decide +kernel
theorem dX8_takeNumber_11 : decode cX8_takeNumber 11 = .ok (.aload_n 0, 1) := by decide +kernel
theorem dX8_takeNumber_12 : decode cX8_takeNumber 12 = .ok (.aload_n 0, 1) := by decide +kernel
theorem dX8_takeNumber_13 : decode cX8_takeNumber 13 = .ok (.getfield 35, 3) := by decide +kernel
theorem dX8_takeNumber_16 : decode cX8_takeNumber 16 = .ok (.putfield 38, 3) := by decide +kernel
theorem dX8_takeNumber_19 : decode cX8_takeNumber 19 = .ok (.aload_n 0, 1) := by decide +kernel
theorem dX8_takeNumber_20 : decode cX8_takeNumber 20 = .ok (.invokevirtual 47, 3) := by decide +kernel
theorem dX8_takeNumber_23 : decode cX8_takeNumber 23 = .ok (.iconst 1, 1) := by decide +kernel
theorem dX8_takeNumber_24 : decode cX8_takeNumber 24 = .ok (.ireturn, 1) := by decide +kernel
theorem dX8_takePair_0 : decode cX8_takePair 0 = .ok (.aload_n 0, 1) := by decide +kernel
theorem dX8_takePair_1 : decode cX8_takePair 1 = .ok (.aload_n 1, 1) := by decide +kernel
theorem dX8_takePair_2 : decode cX8_takePair 2 = .ok (.invokevirtual 82, 3) := by decide +kernel
theorem dX8_takePair_5 : decode cX8_takePair 5 = .ok (.ifCond .eq 16, 3) := by decide +kernel
theorem dX8_takePair_8 : decode cX8_takePair 8 = .ok (.aload_n 0, 1) := by decide +kernel
theorem dX8_takePair_9 : decode cX8_takePair 9 = .ok (.iload_n 2, 1) := by decide +kernel
theorem dX8_takePair_10 : decode cX8_takePair 10 = .ok (.iload_n 3, 1) := by decide +kernel
theorem dX8_takePair_11 : decode cX8_takePair 11 = .ok (.invokevirtual 85, 3) := by decide +kernel
theorem dX8_takePair_14 : decode cX8_takePair 14 = .ok (.ifCond .eq 7, 3) := by decide +kernel
theorem dX8_takePair_17 : decode cX8_takePair 17 = .ok (.iconst 1, 1) := by decide +kernel
theorem dX8_takePair_18 : decode cX8_takePair 18 = .ok (.goto 4, 3) := by decide +kernel
theorem dX8_takePair_21 : decode cX8_takePair 21 = .ok (.iconst 0, 1) := by decide +kernel
theorem dX8_takePair_22 : decode cX8_takePair 22 = .ok (.ireturn, 1) := by decide +kernel
theorem dX8_isName_0 : decode cX8_isName 0 = .ok (.aload_n 0, 1) := by decide +kernel
theorem dX8_isName_1 : decode cX8_isName 1 = .ok (.getfield 25, 3) := by decide +kernel
theorem dX8_isName_4 : decode cX8_isName 4 = .ok (.iconst 1, 1) := by decide +kernel
theorem dX8_isName_5 : decode cX8_isName 5 = .ok (.if_icmp .ne 19, 3) := by decide +kernel
theorem dX8_isName_8 : decode cX8_isName 8 = .ok (.aload_n 0, 1) := by decide +kernel
theorem dX8_isName_9 : decode cX8_isName 9 = .ok (.getfield 31, 3) := by decide +kernel
theorem dX8_isName_12 : decode cX8_isName 12 = .ok (.lconst 0, 1) := by decide +kernel
theorem dX8_isName_13 : decode cX8_isName 13 = .ok (.lcmp, 1) := by decide +kernel
theorem dX8_isName_14 : decode cX8_isName 14 = .ok (.ifCond .eq 10, 3) := by decide +kernel
theorem dX8_isName_17 : decode cX8_isName 17 = .ok (.aload_n 0, 1) := by decide +kernel
theorem dX8_isName_18 : decode cX8_isName 18 = .ok (.invokevirtual 88, 3) := by decide +kernel
theorem dX8_isName_21 : decode cX8_isName 21 = .ok (.ifCond .eq 10, 3) := by decide +kernel
theorem dX8_isName_24 : decode cX8_isName 24 = .ok (.aload_n 0, 1) := by decide +kernel
theorem dX8_isName_25 : decode cX8_isName 25 = .ok (.invokevirtual 70, 3) := by decide +kernel
theorem dX8_isName_28 : decode cX8_isName 28 = .ok (.ifCond .eq 7, 3) := by decide +kernel
theorem dX8_isName_31 : decode cX8_isName 31 = .ok (.iconst 1, 1) := by decide +kernel
theorem dX8_isName_32 : decode cX8_isName 32 = .ok (.goto 4, 3) := by decide +kernel
theorem dX8_isName_35 : decode cX8_isName 35 = .ok (.iconst 0, 1) := by decide +kernel
theorem dX8_isName_36 : decode cX8_isName 36 = .ok (.ireturn, 1) := by decide +kernel
theorem dX8_isReserved_0 : decode cX8_isReserved 0 = .ok (.lconst 0, 1) := by decide +kernel
theorem dX8_isReserved_1 : decode cX8_isReserved 1 = .ok (.lstore_n 1, 1) := by decide +kernel
theorem dX8_isReserved_2 : decode cX8_isReserved 2 = .ok (.iconst 0, 1) := by decide +kernel
theorem dX8_isReserved_3 : decode cX8_isReserved 3 = .ok (.istore_n 3, 1) := by decide +kernel
theorem dX8_isReserved_4 : decode cX8_isReserved 4 = .ok (.iload_n 3, 1) := by decide +kernel
theorem dX8_isReserved_5 : decode cX8_isReserved 5 = .ok (.ldc 91, 2) := by decide +kernel
theorem dX8_isReserved_7 : decode cX8_isReserved 7 = .ok (.invokevirtual 56, 3) := by decide +kernel
theorem dX8_isReserved_10 : decode cX8_isReserved 10 = .ok (.if_icmp .ge 55, 3) := by decide +kernel
theorem dX8_isReserved_13 : decode cX8_isReserved 13 = .ok (.ldc 91, 2) := by decide +kernel
theorem dX8_isReserved_15 : decode cX8_isReserved 15 = .ok (.iload_n 3, 1) := by decide +kernel
theorem dX8_isReserved_16 : decode cX8_isReserved 16 = .ok (.invokevirtual 62, 3) := by decide +kernel
theorem dX8_isReserved_19 : decode cX8_isReserved 19 = .ok (.istore 4, 2) := by decide +kernel
theorem dX8_isReserved_21 : decode cX8_isReserved 21 = .ok (.iload 4, 2) := by decide +kernel
theorem dX8_isReserved_23 : decode cX8_isReserved 23 = .ok (.bipush 32, 2) := by decide +kernel
theorem dX8_isReserved_25 : decode cX8_isReserved 25 = .ok (.if_icmp .eq 21, 3) := by decide +kernel
theorem dX8_isReserved_28 : decode cX8_isReserved 28 = .ok (.lload_n 1, 1) := by decide +kernel
theorem dX8_isReserved_29 : decode cX8_isReserved 29 = .ok (.ldc2_w 54, 3) := by decide +kernel
theorem dX8_isReserved_32 : decode cX8_isReserved 32 = .ok (.lmul, 1) := by decide +kernel
theorem dX8_isReserved_33 : decode cX8_isReserved 33 = .ok (.iload 4, 2) := by decide +kernel
theorem dX8_isReserved_35 : decode cX8_isReserved 35 = .ok (.bipush 97, 2) := by decide +kernel
theorem dX8_isReserved_37 : decode cX8_isReserved 37 = .ok (.isub, 1) := by decide +kernel
theorem dX8_isReserved_38 : decode cX8_isReserved 38 = .ok (.iconst 1, 1) := by decide +kernel
theorem dX8_isReserved_39 : decode cX8_isReserved 39 = .ok (.iadd, 1) := by decide +kernel
theorem dX8_isReserved_40 : decode cX8_isReserved 40 = .ok (.i2l, 1) := by decide +kernel
theorem dX8_isReserved_41 : decode cX8_isReserved 41 = .ok (.ladd, 1) := by decide +kernel
theorem dX8_isReserved_42 : decode cX8_isReserved 42 = .ok (.lstore_n 1, 1) := by decide +kernel
theorem dX8_isReserved_43 : decode cX8_isReserved 43 = .ok (.goto 16, 3) := by decide +kernel
theorem dX8_isReserved_46 : decode cX8_isReserved 46 = .ok (.lload_n 1, 1) := by decide +kernel
theorem dX8_isReserved_47 : decode cX8_isReserved 47 = .ok (.aload_n 0, 1) := by decide +kernel
theorem dX8_isReserved_48 : decode cX8_isReserved 48 = .ok (.getfield 31, 3) := by decide +kernel
theorem dX8_isReserved_51 : decode cX8_isReserved 51 = .ok (.lcmp, 1) := by decide +kernel
theorem dX8_isReserved_52 : decode cX8_isReserved 52 = .ok (.ifCond .ne 5, 3) := by decide +kernel
theorem dX8_isReserved_55 : decode cX8_isReserved 55 = .ok (.iconst 1, 1) := by decide +kernel
theorem dX8_isReserved_56 : decode cX8_isReserved 56 = .ok (.ireturn, 1) := by decide +kernel
theorem dX8_isReserved_57 : decode cX8_isReserved 57 = .ok (.lconst 0, 1) := by decide +kernel
theorem dX8_isReserved_58 : decode cX8_isReserved 58 = .ok (.lstore_n 1, 1) := by decide +kernel
theorem dX8_isReserved_59 : decode cX8_isReserved 59 = .ok (.iinc 3 1, 3) := by decide +kernel
theorem dX8_isReserved_62 : decode cX8_isReserved 62 = .ok (.goto (-58), 3) := by decide +kernel
theorem dX8_isReserved_65 : decode cX8_isReserved 65 = .ok (.iconst 0, 1) := by decide +kernel
theorem dX8_isReserved_66 : decode cX8_isReserved 66 = .ok (.ireturn, 1) := by decide +kernel
theorem dX9_init_0 : decode cX9_init 0 = .ok (.aload_n 0, 1) := by decide +kernel
theorem dX9_init_1 : decode cX9_init 1 = .ok (.invokespecial 3, 3) := by decide +kernel
theorem dX9_init_4 : decode cX9_init 4 = .ok (.aload_n 0, 1) := by decide +kernel
theorem dX9_init_5 : decode cX9_init 5 = .ok (.bipush 32, 2) := by decide +kernel
theorem dX9_init_7 : decode cX9_init 7 = .ok (.newarray .long, 2) := by decide +kernel
theorem dX9_init_9 : decode cX9_init 9 = .ok (.putfield 9, 3) := by decide +kernel
theorem dX9_init_12 : decode cX9_init 12 = .ok (.return_, 1) := by decide +kernel
theorem dX9_think_0 : decode cX9_think 0 = .ok (.aload_n 0, 1) := by decide +kernel
theorem dX9_think_1 : decode cX9_think 1 = .ok (.getfield 9, 3) := by decide +kernel
theorem dX9_think_4 : decode cX9_think 4 = .ok (.lconst 0, 1) := by decide +kernel
theorem dX9_think_5 : decode cX9_think 5 = .ok (.invokestatic 15, 3) := by decide +kernel
theorem dX9_think_8 : decode cX9_think 8 = .ok (.iconst 0, 1) := by decide +kernel
theorem dX9_think_9 : decode cX9_think 9 = .ok (.istore_n 3, 1) := by decide +kernel
theorem dX9_think_10 : decode cX9_think 10 = .ok (.iload_n 3, 1) := by decide +kernel
theorem dX9_think_11 : decode cX9_think 11 = .ok (.aload_n 1, 1) := by decide +kernel
theorem dX9_think_12 : decode cX9_think 12 = .ok (.invokevirtual 21, 3) := by decide +kernel
theorem dX9_think_15 : decode cX9_think 15 = .ok (.if_icmp .ge 87, 3) := by decide +kernel
theorem dX9_think_18 : decode cX9_think 18 = .ok (.aload_n 0, 1) := by decide +kernel
theorem dX9_think_19 : decode cX9_think 19 = .ok (.getfield 9, 3) := by decide +kernel
theorem dX9_think_22 : decode cX9_think 22 = .ok (.iload_n 3, 1) := by decide +kernel
theorem dX9_think_23 : decode cX9_think 23 = .ok (.lconst 1, 1) := by decide +kernel
theorem dX9_think_24 : decode cX9_think 24 = .ok (.lastore, 1) := by decide +kernel
theorem dX9_think_25 : decode cX9_think 25 = .ok (.iconst 0, 1) := by decide +kernel
theorem dX9_think_26 : decode cX9_think 26 = .ok (.istore 4, 2) := by decide +kernel
theorem dX9_think_28 : decode cX9_think 28 = .ok (.iload 4, 2) := by decide +kernel
theorem dX9_think_30 : decode cX9_think 30 = .ok (.aload_n 1, 1) := by decide +kernel
theorem dX9_think_31 : decode cX9_think 31 = .ok (.getfield 27, 3) := by decide +kernel
theorem dX9_think_34 : decode cX9_think 34 = .ok (.if_icmp .ge 62, 3) := by decide +kernel
theorem dX9_think_37 : decode cX9_think 37 = .ok (.iload_n 3, 1) := by decide +kernel
theorem dX9_think_38 : decode cX9_think 38 = .ok (.iload 4, 2) := by decide +kernel
theorem dX9_think_40 : decode cX9_think 40 = .ok (.ishr, 1) := by decide +kernel
theorem dX9_think_41 : decode cX9_think 41 = .ok (.iconst 1, 1) := by decide +kernel
theorem dX9_think_42 : decode cX9_think 42 = .ok (.iand, 1) := by decide +kernel
theorem dX9_think_43 : decode cX9_think 43 = .ok (.iconst 1, 1) := by decide +kernel
theorem dX9_think_44 : decode cX9_think 44 = .ok (.if_icmp .ne 7, 3) := by decide +kernel
theorem dX9_think_47 : decode cX9_think 47 = .ok (.iconst 1, 1) := by decide +kernel
theorem dX9_think_48 : decode cX9_think 48 = .ok (.goto 4, 3) := by decide +kernel
theorem dX9_think_51 : decode cX9_think 51 = .ok (.iconst 0, 1) := by decide +kernel
theorem dX9_think_52 : decode cX9_think 52 = .ok (.istore 5, 2) := by decide +kernel
theorem dX9_think_54 : decode cX9_think 54 = .ok (.aload_n 0, 1) := by decide +kernel
theorem dX9_think_55 : decode cX9_think 55 = .ok (.getfield 9, 3) := by decide +kernel
theorem dX9_think_58 : decode cX9_think 58 = .ok (.iload_n 3, 1) := by decide +kernel
theorem dX9_think_59 : decode cX9_think 59 = .ok (.dup2, 1) := by decide +kernel
theorem dX9_think_60 : decode cX9_think 60 = .ok (.laload, 1) := by decide +kernel
theorem dX9_think_61 : decode cX9_think 61 = .ok (.iload 5, 2) := by decide +kernel
theorem dX9_think_63 : decode cX9_think 63 = .ok (.ifCond .eq 14, 3) := by decide +kernel
theorem dX9_think_66 : decode cX9_think 66 = .ok (.aload_n 1, 1) := by decide +kernel
theorem dX9_think_67 : decode cX9_think 67 = .ok (.getfield 31, 3) := by decide +kernel
theorem dX9_think_70 : decode cX9_think 70 = .ok (.iload 4, 2) := by decide +kernel
theorem dX9_think_72 : decode cX9_think 72 = .ok (.iaload, 1) := by decide +kernel
theorem dX9_think_73 : decode cX9_think 73 = .ok (.i2l, 1) := by decide +kernel
theorem dX9_think_74 : decode cX9_think 74 = .ok (.goto 14, 3) := by decide +kernel
theorem dX9_think_77 : decode cX9_think 77 = .ok (.bipush 16, 2) := by decide +kernel
theorem dX9_think_79 : decode cX9_think 79 = .ok (.aload_n 1, 1) := by decide +kernel
theorem dX9_think_80 : decode cX9_think 80 = .ok (.getfield 31, 3) := by decide +kernel
theorem dX9_think_83 : decode cX9_think 83 = .ok (.iload 4, 2) := by decide +kernel
theorem dX9_think_85 : decode cX9_think 85 = .ok (.iaload, 1) := by decide +kernel
theorem dX9_think_86 : decode cX9_think 86 = .ok (.isub, 1) := by decide +kernel
theorem dX9_think_87 : decode cX9_think 87 = .ok (.i2l, 1) := by decide +kernel
theorem dX9_think_88 : decode cX9_think 88 = .ok (.lmul, 1) := by decide +kernel
theorem dX9_think_89 : decode cX9_think 89 = .ok (.lastore, 1) := by decide +kernel
theorem dX9_think_90 : decode cX9_think 90 = .ok (.iinc 4 1, 3) := by decide +kernel
theorem dX9_think_93 : decode cX9_think 93 = .ok (.goto (-65), 3) := by decide +kernel
theorem dX9_think_96 : decode cX9_think 96 = .ok (.iinc 3 1, 3) := by decide +kernel
theorem dX9_think_99 : decode cX9_think 99 = .ok (.goto (-89), 3) := by decide +kernel
theorem dX9_think_102 : decode cX9_think 102 = .ok (.aload_n 0, 1) := by decide +kernel
theorem dX9_think_103 : decode cX9_think 103 = .ok (.aload_n 2, 1) := by decide +kernel
theorem dX9_think_104 : decode cX9_think 104 = .ok (.invokevirtual 35, 3) := by decide +kernel
theorem dX9_think_107 : decode cX9_think 107 = .ok (.pop, 1) := by decide +kernel
theorem dX9_think_108 : decode cX9_think 108 = .ok (.return_, 1) := by decide +kernel
theorem dX9_passDay_0 : decode cX9_passDay 0 = .ok (.aload_n 2, 1) := by decide +kernel
theorem dX9_passDay_1 : decode cX9_passDay 1 = .ok (.aload_n 0, 1) := by decide +kernel
theorem dX9_passDay_2 : decode cX9_passDay 2 = .ok (.getfield 9, 3) := by decide +kernel
theorem dX9_passDay_5 : decode cX9_passDay 5 = .ok (.invokestatic 39, 3) := by decide +kernel
theorem dX9_passDay_8 : decode cX9_passDay 8 = .ok (.aload_n 1, 1) := by decide +kernel
theorem dX9_passDay_9 : decode cX9_passDay 9 = .ok (.invokevirtual 21, 3) := by decide +kernel
theorem dX9_passDay_12 : decode cX9_passDay 12 = .ok (.istore 5, 2) := by decide +kernel
theorem dX9_passDay_14 : decode cX9_passDay 14 = .ok (.iconst 0, 1) := by decide +kernel
theorem dX9_passDay_15 : decode cX9_passDay 15 = .ok (.istore 6, 2) := by decide +kernel
theorem dX9_passDay_17 : decode cX9_passDay 17 = .ok (.iload 6, 2) := by decide +kernel
theorem dX9_passDay_19 : decode cX9_passDay 19 = .ok (.aload_n 1, 1) := by decide +kernel
theorem dX9_passDay_20 : decode cX9_passDay 20 = .ok (.getfield 27, 3) := by decide +kernel
theorem dX9_passDay_23 : decode cX9_passDay 23 = .ok (.if_icmp .ge 145, 3) := by decide +kernel
theorem dX9_passDay_26 : decode cX9_passDay 26 = .ok (.aload_n 1, 1) := by decide +kernel
theorem dX9_passDay_27 : decode cX9_passDay 27 = .ok (.getfield 43, 3) := by decide +kernel
theorem dX9_passDay_30 : decode cX9_passDay 30 = .ok (.iload 6, 2) := by decide +kernel
theorem dX9_passDay_32 : decode cX9_passDay 32 = .ok (.iaload, 1) := by decide +kernel
theorem dX9_passDay_33 : decode cX9_passDay 33 = .ok (.istore 7, 2) := by decide +kernel
theorem dX9_passDay_35 : decode cX9_passDay 35 = .ok (.iload 6, 2) := by decide +kernel
theorem dX9_passDay_37 : decode cX9_passDay 37 = .ok (.iload_n 3, 1) := by decide +kernel
theorem dX9_passDay_38 : decode cX9_passDay 38 = .ok (.if_icmp .ne 15, 3) := by decide +kernel
theorem dX9_passDay_41 : decode cX9_passDay 41 = .ok (.bipush 16, 2) := by decide +kernel
theorem dX9_passDay_43 : decode cX9_passDay 43 = .ok (.iload 7, 2) := by decide +kernel
theorem dX9_passDay_45 : decode cX9_passDay 45 = .ok (.iload 4, 2) := by decide +kernel
theorem dX9_passDay_47 : decode cX9_passDay 47 = .ok (.iadd, 1) := by decide +kernel
theorem dX9_passDay_48 : decode cX9_passDay 48 = .ok (.invokestatic 46, 3) := by decide +kernel
theorem dX9_passDay_51 : decode cX9_passDay 51 = .ok (.istore 7, 2) := by decide +kernel
theorem dX9_passDay_53 : decode cX9_passDay 53 = .ok (.aload_n 1, 1) := by decide +kernel
theorem dX9_passDay_54 : decode cX9_passDay 54 = .ok (.getfield 52, 3) := by decide +kernel
theorem dX9_passDay_57 : decode cX9_passDay 57 = .ok (.iload 6, 2) := by decide +kernel
theorem dX9_passDay_59 : decode cX9_passDay 59 = .ok (.iaload, 1) := by decide +kernel
theorem dX9_passDay_60 : decode cX9_passDay 60 = .ok (.istore 8, 2) := by decide +kernel
theorem dX9_passDay_62 : decode cX9_passDay 62 = .ok (.iconst 1, 1) := by decide +kernel
theorem dX9_passDay_63 : decode cX9_passDay 63 = .ok (.iload 6, 2) := by decide +kernel
theorem dX9_passDay_65 : decode cX9_passDay 65 = .ok (.ishl, 1) := by decide +kernel
theorem dX9_passDay_66 : decode cX9_passDay 66 = .ok (.istore 9, 2) := by decide +kernel
theorem dX9_passDay_68 : decode cX9_passDay 68 = .ok (.iconst 0, 1) := by decide +kernel
theorem dX9_passDay_69 : decode cX9_passDay 69 = .ok (.istore 10, 2) := by decide +kernel
theorem dX9_passDay_71 : decode cX9_passDay 71 = .ok (.iload 10, 2) := by decide +kernel
theorem dX9_passDay_73 : decode cX9_passDay 73 = .ok (.iload 5, 2) := by decide +kernel
theorem dX9_passDay_75 : decode cX9_passDay 75 = .ok (.if_icmp .ge 87, 3) := by decide +kernel
theorem dX9_passDay_78 : decode cX9_passDay 78 = .ok (.iload 10, 2) := by decide +kernel
theorem dX9_passDay_80 : decode cX9_passDay 80 = .ok (.iload 9, 2) := by decide +kernel
theorem dX9_passDay_82 : decode cX9_passDay 82 = .ok (.iand, 1) := by decide +kernel
theorem dX9_passDay_83 : decode cX9_passDay 83 = .ok (.ifCond .ne 73, 3) := by decide +kernel
theorem dX9_passDay_86 : decode cX9_passDay 86 = .ok (.aload_n 0, 1) := by decide +kernel
theorem dX9_passDay_87 : decode cX9_passDay 87 = .ok (.getfield 9, 3) := by decide +kernel
theorem dX9_passDay_90 : decode cX9_passDay 90 = .ok (.iload 10, 2) := by decide +kernel
theorem dX9_passDay_92 : decode cX9_passDay 92 = .ok (.laload, 1) := by decide +kernel
theorem dX9_passDay_93 : decode cX9_passDay 93 = .ok (.lstore 11, 2) := by decide +kernel
theorem dX9_passDay_95 : decode cX9_passDay 95 = .ok (.aload_n 0, 1) := by decide +kernel
theorem dX9_passDay_96 : decode cX9_passDay 96 = .ok (.getfield 9, 3) := by decide +kernel
theorem dX9_passDay_99 : decode cX9_passDay 99 = .ok (.iload 10, 2) := by decide +kernel
theorem dX9_passDay_101 : decode cX9_passDay 101 = .ok (.iload 9, 2) := by decide +kernel
theorem dX9_passDay_103 : decode cX9_passDay 103 = .ok (.ior, 1) := by decide +kernel
theorem dX9_passDay_104 : decode cX9_passDay 104 = .ok (.laload, 1) := by decide +kernel
theorem dX9_passDay_105 : decode cX9_passDay 105 = .ok (.lstore 13, 2) := by decide +kernel
theorem dX9_passDay_107 : decode cX9_passDay 107 = .ok (.aload_n 0, 1) := by decide +kernel
theorem dX9_passDay_108 : decode cX9_passDay 108 = .ok (.getfield 9, 3) := by decide +kernel
theorem dX9_passDay_111 : decode cX9_passDay 111 = .ok (.iload 10, 2) := by decide +kernel
theorem dX9_passDay_113 : decode cX9_passDay 113 = .ok (.lload 11, 2) := by decide +kernel
theorem dX9_passDay_115 : decode cX9_passDay 115 = .ok (.bipush 16, 2) := by decide +kernel
theorem dX9_passDay_117 : decode cX9_passDay 117 = .ok (.iload 8, 2) := by decide +kernel
theorem dX9_passDay_119 : decode cX9_passDay 119 = .ok (.isub, 1) := by decide +kernel
theorem dX9_passDay_120 : decode cX9_passDay 120 = .ok (.i2l, 1) := by decide +kernel
theorem dX9_passDay_121 : decode cX9_passDay 121 = .ok (.lmul, 1) := by decide +kernel
theorem dX9_passDay_122 : decode cX9_passDay 122 = .ok (.lload 13, 2) := by decide +kernel
theorem dX9_passDay_124 : decode cX9_passDay 124 = .ok (.iload 7, 2) := by decide +kernel
theorem dX9_passDay_126 : decode cX9_passDay 126 = .ok (.i2l, 1) := by decide +kernel
theorem dX9_passDay_127 : decode cX9_passDay 127 = .ok (.lmul, 1) := by decide +kernel
theorem dX9_passDay_128 : decode cX9_passDay 128 = .ok (.ladd, 1) := by decide +kernel
theorem dX9_passDay_129 : decode cX9_passDay 129 = .ok (.lastore, 1) := by decide +kernel
theorem dX9_passDay_130 : decode cX9_passDay 130 = .ok (.aload_n 0, 1) := by decide +kernel
theorem dX9_passDay_131 : decode cX9_passDay 131 = .ok (.getfield 9, 3) := by decide +kernel
theorem dX9_passDay_134 : decode cX9_passDay 134 = .ok (.iload 10, 2) := by decide +kernel
theorem dX9_passDay_136 : decode cX9_passDay 136 = .ok (.iload 9, 2) := by decide +kernel
theorem dX9_passDay_138 : decode cX9_passDay 138 = .ok (.ior, 1) := by decide +kernel
theorem dX9_passDay_139 : decode cX9_passDay 139 = .ok (.lload 11, 2) := by decide +kernel
theorem dX9_passDay_141 : decode cX9_passDay 141 = .ok (.iload 8, 2) := by decide +kernel
theorem dX9_passDay_143 : decode cX9_passDay 143 = .ok (.i2l, 1) := by decide +kernel
theorem dX9_passDay_144 : decode cX9_passDay 144 = .ok (.lmul, 1) := by decide +kernel
theorem dX9_passDay_145 : decode cX9_passDay 145 = .ok (.lload 13, 2) := by decide +kernel
theorem dX9_passDay_147 : decode cX9_passDay 147 = .ok (.bipush 16, 2) := by decide +kernel
theorem dX9_passDay_149 : decode cX9_passDay 149 = .ok (.iload 7, 2) := by decide +kernel
theorem dX9_passDay_151 : decode cX9_passDay 151 = .ok (.isub, 1) := by decide +kernel
theorem dX9_passDay_152 : decode cX9_passDay 152 = .ok (.i2l, 1) := by decide +kernel
theorem dX9_passDay_153 : decode cX9_passDay 153 = .ok (.lmul, 1) := by decide +kernel
theorem dX9_passDay_154 : decode cX9_passDay 154 = .ok (.ladd, 1) := by decide +kernel
theorem dX9_passDay_155 : decode cX9_passDay 155 = .ok (.lastore, 1) := by decide +kernel
theorem dX9_passDay_156 : decode cX9_passDay 156 = .ok (.iinc 10 1, 3) := by decide +kernel
theorem dX9_passDay_159 : decode cX9_passDay 159 = .ok (.goto (-88), 3) := by decide +kernel
theorem dX9_passDay_162 : decode cX9_passDay 162 = .ok (.iinc 6 1, 3) := by decide +kernel
theorem dX9_passDay_165 : decode cX9_passDay 165 = .ok (.goto (-148), 3) := by decide +kernel
theorem dX9_passDay_168 : decode cX9_passDay 168 = .ok (.aload_n 0, 1) := by decide +kernel
theorem dX9_passDay_169 : decode cX9_passDay 169 = .ok (.aload_n 2, 1) := by decide +kernel
theorem dX9_passDay_170 : decode cX9_passDay 170 = .ok (.invokevirtual 35, 3) := by decide +kernel
theorem dX9_passDay_173 : decode cX9_passDay 173 = .ok (.pop, 1) := by decide +kernel
theorem dX9_passDay_174 : decode cX9_passDay 174 = .ok (.return_, 1) := by decide +kernel
theorem dX9_hearPole_0 : decode cX9_hearPole 0 = .ok (.aload_n 1, 1) := by decide +kernel
theorem dX9_hearPole_1 : decode cX9_hearPole 1 = .ok (.iload_n 3, 1) := by decide +kernel
theorem dX9_hearPole_2 : decode cX9_hearPole 2 = .ok (.invokevirtual 55, 3) := by decide +kernel
theorem dX9_hearPole_5 : decode cX9_hearPole 5 = .ok (.istore 6, 2) := by decide +kernel
theorem dX9_hearPole_7 : decode cX9_hearPole 7 = .ok (.iconst 0, 1) := by decide +kernel
theorem dX9_hearPole_8 : decode cX9_hearPole 8 = .ok (.istore 7, 2) := by decide +kernel
theorem dX9_hearPole_10 : decode cX9_hearPole 10 = .ok (.iload 7, 2) := by decide +kernel
theorem dX9_hearPole_12 : decode cX9_hearPole 12 = .ok (.bipush 32, 2) := by decide +kernel
theorem dX9_hearPole_14 : decode cX9_hearPole 14 = .ok (.if_icmp .ge 42, 3) := by decide +kernel
theorem dX9_hearPole_17 : decode cX9_hearPole 17 = .ok (.aload_n 1, 1) := by decide +kernel
theorem dX9_hearPole_18 : decode cX9_hearPole 18 = .ok (.iload 6, 2) := by decide +kernel
theorem dX9_hearPole_20 : decode cX9_hearPole 20 = .ok (.iload 4, 2) := by decide +kernel
theorem dX9_hearPole_22 : decode cX9_hearPole 22 = .ok (.iload 7, 2) := by decide +kernel
theorem dX9_hearPole_24 : decode cX9_hearPole 24 = .ok (.invokevirtual 59, 3) := by decide +kernel
theorem dX9_hearPole_27 : decode cX9_hearPole 27 = .ok (.istore 8, 2) := by decide +kernel
theorem dX9_hearPole_29 : decode cX9_hearPole 29 = .ok (.aload_n 0, 1) := by decide +kernel
theorem dX9_hearPole_30 : decode cX9_hearPole 30 = .ok (.getfield 9, 3) := by decide +kernel
theorem dX9_hearPole_33 : decode cX9_hearPole 33 = .ok (.iload 7, 2) := by decide +kernel
theorem dX9_hearPole_35 : decode cX9_hearPole 35 = .ok (.aload_n 2, 1) := by decide +kernel
theorem dX9_hearPole_36 : decode cX9_hearPole 36 = .ok (.iload 7, 2) := by decide +kernel
theorem dX9_hearPole_38 : decode cX9_hearPole 38 = .ok (.laload, 1) := by decide +kernel
theorem dX9_hearPole_39 : decode cX9_hearPole 39 = .ok (.aload_n 1, 1) := by decide +kernel
theorem dX9_hearPole_40 : decode cX9_hearPole 40 = .ok (.iload 5, 2) := by decide +kernel
theorem dX9_hearPole_42 : decode cX9_hearPole 42 = .ok (.iload 8, 2) := by decide +kernel
theorem dX9_hearPole_44 : decode cX9_hearPole 44 = .ok (.invokevirtual 63, 3) := by decide +kernel
theorem dX9_hearPole_47 : decode cX9_hearPole 47 = .ok (.i2l, 1) := by decide +kernel
theorem dX9_hearPole_48 : decode cX9_hearPole 48 = .ok (.lmul, 1) := by decide +kernel
theorem dX9_hearPole_49 : decode cX9_hearPole 49 = .ok (.lastore, 1) := by decide +kernel
theorem dX9_hearPole_50 : decode cX9_hearPole 50 = .ok (.iinc 7 1, 3) := by decide +kernel
theorem dX9_hearPole_53 : decode cX9_hearPole 53 = .ok (.goto (-43), 3) := by decide +kernel
theorem dX9_hearPole_56 : decode cX9_hearPole 56 = .ok (.aload_n 0, 1) := by decide +kernel
theorem dX9_hearPole_57 : decode cX9_hearPole 57 = .ok (.aload_n 2, 1) := by decide +kernel
theorem dX9_hearPole_58 : decode cX9_hearPole 58 = .ok (.invokevirtual 35, 3) := by decide +kernel
theorem dX9_hearPole_61 : decode cX9_hearPole 61 = .ok (.ireturn, 1) := by decide +kernel
theorem dX9_seeWater_0 : decode cX9_seeWater 0 = .ok (.aload_n 1, 1) := by decide +kernel
theorem dX9_seeWater_1 : decode cX9_seeWater 1 = .ok (.getfield 66, 3) := by decide +kernel
theorem dX9_seeWater_4 : decode cX9_seeWater 4 = .ok (.iload_n 3, 1) := by decide +kernel
theorem dX9_seeWater_5 : decode cX9_seeWater 5 = .ok (.iaload, 1) := by decide +kernel
theorem dX9_seeWater_6 : decode cX9_seeWater 6 = .ok (.istore 5, 2) := by decide +kernel
theorem dX9_seeWater_8 : decode cX9_seeWater 8 = .ok (.iconst 0, 1) := by decide +kernel
theorem dX9_seeWater_9 : decode cX9_seeWater 9 = .ok (.istore 6, 2) := by decide +kernel
theorem dX9_seeWater_11 : decode cX9_seeWater 11 = .ok (.iload 6, 2) := by decide +kernel
theorem dX9_seeWater_13 : decode cX9_seeWater 13 = .ok (.bipush 32, 2) := by decide +kernel
theorem dX9_seeWater_15 : decode cX9_seeWater 15 = .ok (.if_icmp .ge 67, 3) := by decide +kernel
theorem dX9_seeWater_18 : decode cX9_seeWater 18 = .ok (.iload 5, 2) := by decide +kernel
theorem dX9_seeWater_20 : decode cX9_seeWater 20 = .ok (.iconst (-1), 1) := by decide +kernel
theorem dX9_seeWater_21 : decode cX9_seeWater 21 = .ok (.if_icmp .eq 18, 3) := by decide +kernel
theorem dX9_seeWater_24 : decode cX9_seeWater 24 = .ok (.iload 6, 2) := by decide +kernel
theorem dX9_seeWater_26 : decode cX9_seeWater 26 = .ok (.iload 5, 2) := by decide +kernel
theorem dX9_seeWater_28 : decode cX9_seeWater 28 = .ok (.ishr, 1) := by decide +kernel
theorem dX9_seeWater_29 : decode cX9_seeWater 29 = .ok (.iconst 1, 1) := by decide +kernel
theorem dX9_seeWater_30 : decode cX9_seeWater 30 = .ok (.iand, 1) := by decide +kernel
theorem dX9_seeWater_31 : decode cX9_seeWater 31 = .ok (.iconst 1, 1) := by decide +kernel
theorem dX9_seeWater_32 : decode cX9_seeWater 32 = .ok (.if_icmp .ne 7, 3) := by decide +kernel
theorem dX9_seeWater_35 : decode cX9_seeWater 35 = .ok (.iconst 1, 1) := by decide +kernel
theorem dX9_seeWater_36 : decode cX9_seeWater 36 = .ok (.goto 4, 3) := by decide +kernel
theorem dX9_seeWater_39 : decode cX9_seeWater 39 = .ok (.iconst 0, 1) := by decide +kernel
theorem dX9_seeWater_40 : decode cX9_seeWater 40 = .ok (.istore 7, 2) := by decide +kernel
theorem dX9_seeWater_42 : decode cX9_seeWater 42 = .ok (.aload_n 0, 1) := by decide +kernel
theorem dX9_seeWater_43 : decode cX9_seeWater 43 = .ok (.getfield 9, 3) := by decide +kernel
theorem dX9_seeWater_46 : decode cX9_seeWater 46 = .ok (.iload 6, 2) := by decide +kernel
theorem dX9_seeWater_48 : decode cX9_seeWater 48 = .ok (.aload_n 2, 1) := by decide +kernel
theorem dX9_seeWater_49 : decode cX9_seeWater 49 = .ok (.iload 6, 2) := by decide +kernel
theorem dX9_seeWater_51 : decode cX9_seeWater 51 = .ok (.laload, 1) := by decide +kernel
theorem dX9_seeWater_52 : decode cX9_seeWater 52 = .ok (.iload 7, 2) := by decide +kernel
theorem dX9_seeWater_54 : decode cX9_seeWater 54 = .ok (.iload 4, 2) := by decide +kernel
theorem dX9_seeWater_56 : decode cX9_seeWater 56 = .ok (.if_icmp .ne 10, 3) := by decide +kernel
theorem dX9_seeWater_59 : decode cX9_seeWater 59 = .ok (.aload_n 1, 1) := by decide +kernel
theorem dX9_seeWater_60 : decode cX9_seeWater 60 = .ok (.getfield 69, 3) := by decide +kernel
theorem dX9_seeWater_63 : decode cX9_seeWater 63 = .ok (.goto 10, 3) := by decide +kernel
theorem dX9_seeWater_66 : decode cX9_seeWater 66 = .ok (.bipush 16, 2) := by decide +kernel
theorem dX9_seeWater_68 : decode cX9_seeWater 68 = .ok (.aload_n 1, 1) := by decide +kernel
theorem dX9_seeWater_69 : decode cX9_seeWater 69 = .ok (.getfield 69, 3) := by decide +kernel
theorem dX9_seeWater_72 : decode cX9_seeWater 72 = .ok (.isub, 1) := by decide +kernel
theorem dX9_seeWater_73 : decode cX9_seeWater 73 = .ok (.i2l, 1) := by decide +kernel
theorem dX9_seeWater_74 : decode cX9_seeWater 74 = .ok (.lmul, 1) := by decide +kernel
theorem dX9_seeWater_75 : decode cX9_seeWater 75 = .ok (.lastore, 1) := by decide +kernel
theorem dX9_seeWater_76 : decode cX9_seeWater 76 = .ok (.iinc 6 1, 3) := by decide +kernel
theorem dX9_seeWater_79 : decode cX9_seeWater 79 = .ok (.goto (-68), 3) := by decide +kernel
theorem dX9_seeWater_82 : decode cX9_seeWater 82 = .ok (.aload_n 0, 1) := by decide +kernel
theorem dX9_seeWater_83 : decode cX9_seeWater 83 = .ok (.aload_n 2, 1) := by decide +kernel
theorem dX9_seeWater_84 : decode cX9_seeWater 84 = .ok (.invokevirtual 35, 3) := by decide +kernel
theorem dX9_seeWater_87 : decode cX9_seeWater 87 = .ok (.ireturn, 1) := by decide +kernel
theorem dX9_shareOut_0 : decode cX9_shareOut 0 = .ok (.lconst 0, 1) := by decide +kernel
theorem dX9_shareOut_1 : decode cX9_shareOut 1 = .ok (.lstore_n 2, 1) := by decide +kernel
theorem dX9_shareOut_2 : decode cX9_shareOut 2 = .ok (.iconst 0, 1) := by decide +kernel
theorem dX9_shareOut_3 : decode cX9_shareOut 3 = .ok (.istore 4, 2) := by decide +kernel
theorem dX9_shareOut_5 : decode cX9_shareOut 5 = .ok (.iconst 0, 1) := by decide +kernel
theorem dX9_shareOut_6 : decode cX9_shareOut 6 = .ok (.istore 5, 2) := by decide +kernel
theorem dX9_shareOut_8 : decode cX9_shareOut 8 = .ok (.iload 5, 2) := by decide +kernel
theorem dX9_shareOut_10 : decode cX9_shareOut 10 = .ok (.bipush 32, 2) := by decide +kernel
theorem dX9_shareOut_12 : decode cX9_shareOut 12 = .ok (.if_icmp .ge 41, 3) := by decide +kernel
theorem dX9_shareOut_15 : decode cX9_shareOut 15 = .ok (.lload_n 2, 1) := by decide +kernel
theorem dX9_shareOut_16 : decode cX9_shareOut 16 = .ok (.aload_n 0, 1) := by decide +kernel
theorem dX9_shareOut_17 : decode cX9_shareOut 17 = .ok (.getfield 9, 3) := by decide +kernel
theorem dX9_shareOut_20 : decode cX9_shareOut 20 = .ok (.iload 5, 2) := by decide +kernel
theorem dX9_shareOut_22 : decode cX9_shareOut 22 = .ok (.laload, 1) := by decide +kernel
theorem dX9_shareOut_23 : decode cX9_shareOut 23 = .ok (.ladd, 1) := by decide +kernel
theorem dX9_shareOut_24 : decode cX9_shareOut 24 = .ok (.lstore_n 2, 1) := by decide +kernel
theorem dX9_shareOut_25 : decode cX9_shareOut 25 = .ok (.aload_n 0, 1) := by decide +kernel
theorem dX9_shareOut_26 : decode cX9_shareOut 26 = .ok (.getfield 9, 3) := by decide +kernel
theorem dX9_shareOut_29 : decode cX9_shareOut 29 = .ok (.iload 5, 2) := by decide +kernel
theorem dX9_shareOut_31 : decode cX9_shareOut 31 = .ok (.laload, 1) := by decide +kernel
theorem dX9_shareOut_32 : decode cX9_shareOut 32 = .ok (.aload_n 0, 1) := by decide +kernel
theorem dX9_shareOut_33 : decode cX9_shareOut 33 = .ok (.getfield 9, 3) := by decide +kernel
theorem dX9_shareOut_36 : decode cX9_shareOut 36 = .ok (.iload 4, 2) := by decide +kernel
theorem dX9_shareOut_38 : decode cX9_shareOut 38 = .ok (.laload, 1) := by decide +kernel
theorem dX9_shareOut_39 : decode cX9_shareOut 39 = .ok (.lcmp, 1) := by decide +kernel
theorem dX9_shareOut_40 : decode cX9_shareOut 40 = .ok (.ifCond .le 7, 3) := by decide +kernel
theorem dX9_shareOut_43 : decode cX9_shareOut 43 = .ok (.iload 5, 2) := by decide +kernel
theorem dX9_shareOut_45 : decode cX9_shareOut 45 = .ok (.istore 4, 2) := by decide +kernel
theorem dX9_shareOut_47 : decode cX9_shareOut 47 = .ok (.iinc 5 1, 3) := by decide +kernel
theorem dX9_shareOut_50 : decode cX9_shareOut 50 = .ok (.goto (-42), 3) := by decide +kernel
theorem dX9_shareOut_53 : decode cX9_shareOut 53 = .ok (.lload_n 2, 1) := by decide +kernel
theorem dX9_shareOut_54 : decode cX9_shareOut 54 = .ok (.lconst 0, 1) := by decide +kernel
theorem dX9_shareOut_55 : decode cX9_shareOut 55 = .ok (.lcmp, 1) := by decide +kernel
theorem dX9_shareOut_56 : decode cX9_shareOut 56 = .ok (.ifCond .gt 5, 3) := by decide +kernel
theorem dX9_shareOut_59 : decode cX9_shareOut 59 = .ok (.iconst 0, 1) := by decide +kernel
theorem dX9_shareOut_60 : decode cX9_shareOut 60 = .ok (.ireturn, 1) := by decide +kernel
theorem dX9_shareOut_61 : decode cX9_shareOut 61 = .ok (.ldc2_w 72, 3) := by decide +kernel
theorem dX9_shareOut_64 : decode cX9_shareOut 64 = .ok (.lstore 5, 2) := by decide +kernel
theorem dX9_shareOut_66 : decode cX9_shareOut 66 = .ok (.iconst 0, 1) := by decide +kernel
theorem dX9_shareOut_67 : decode cX9_shareOut 67 = .ok (.istore 7, 2) := by decide +kernel
theorem dX9_shareOut_69 : decode cX9_shareOut 69 = .ok (.iload 7, 2) := by decide +kernel
theorem dX9_shareOut_71 : decode cX9_shareOut 71 = .ok (.bipush 32, 2) := by decide +kernel
theorem dX9_shareOut_73 : decode cX9_shareOut 73 = .ok (.if_icmp .ge 35, 3) := by decide +kernel
theorem dX9_shareOut_76 : decode cX9_shareOut 76 = .ok (.aload_n 1, 1) := by decide +kernel
theorem dX9_shareOut_77 : decode cX9_shareOut 77 = .ok (.iload 7, 2) := by decide +kernel
theorem dX9_shareOut_79 : decode cX9_shareOut 79 = .ok (.aload_n 0, 1) := by decide +kernel
theorem dX9_shareOut_80 : decode cX9_shareOut 80 = .ok (.getfield 9, 3) := by decide +kernel
theorem dX9_shareOut_83 : decode cX9_shareOut 83 = .ok (.iload 7, 2) := by decide +kernel
theorem dX9_shareOut_85 : decode cX9_shareOut 85 = .ok (.laload, 1) := by decide +kernel
theorem dX9_shareOut_86 : decode cX9_shareOut 86 = .ok (.ldc2_w 72, 3) := by decide +kernel
theorem dX9_shareOut_89 : decode cX9_shareOut 89 = .ok (.lmul, 1) := by decide +kernel
theorem dX9_shareOut_90 : decode cX9_shareOut 90 = .ok (.lload_n 2, 1) := by decide +kernel
theorem dX9_shareOut_91 : decode cX9_shareOut 91 = .ok (.ldiv, 1) := by decide +kernel
theorem dX9_shareOut_92 : decode cX9_shareOut 92 = .ok (.lastore, 1) := by decide +kernel
theorem dX9_shareOut_93 : decode cX9_shareOut 93 = .ok (.lload 5, 2) := by decide +kernel
theorem dX9_shareOut_95 : decode cX9_shareOut 95 = .ok (.aload_n 1, 1) := by decide +kernel
theorem dX9_shareOut_96 : decode cX9_shareOut 96 = .ok (.iload 7, 2) := by decide +kernel
theorem dX9_shareOut_98 : decode cX9_shareOut 98 = .ok (.laload, 1) := by decide +kernel
theorem dX9_shareOut_99 : decode cX9_shareOut 99 = .ok (.lsub, 1) := by decide +kernel
theorem dX9_shareOut_100 : decode cX9_shareOut 100 = .ok (.lstore 5, 2) := by decide +kernel
theorem dX9_shareOut_102 : decode cX9_shareOut 102 = .ok (.iinc 7 1, 3) := by decide +kernel
theorem dX9_shareOut_105 : decode cX9_shareOut 105 = .ok (.goto (-36), 3) := by decide +kernel
theorem dX9_shareOut_108 : decode cX9_shareOut 108 = .ok (.aload_n 1, 1) := by decide +kernel
theorem dX9_shareOut_109 : decode cX9_shareOut 109 = .ok (.iload 4, 2) := by decide +kernel
theorem dX9_shareOut_111 : decode cX9_shareOut 111 = .ok (.dup2, 1) := by decide +kernel
theorem dX9_shareOut_112 : decode cX9_shareOut 112 = .ok (.laload, 1) := by decide +kernel
theorem dX9_shareOut_113 : decode cX9_shareOut 113 = .ok (.lload 5, 2) := by decide +kernel
theorem dX9_shareOut_115 : decode cX9_shareOut 115 = .ok (.ladd, 1) := by decide +kernel
theorem dX9_shareOut_116 : decode cX9_shareOut 116 = .ok (.lastore, 1) := by decide +kernel
theorem dX9_shareOut_117 : decode cX9_shareOut 117 = .ok (.iconst 1, 1) := by decide +kernel
theorem dX9_shareOut_118 : decode cX9_shareOut 118 = .ok (.ireturn, 1) := by decide +kernel
theorem dX9_partsWith_0 : decode cX9_partsWith 0 = .ok (.lconst 0, 1) := by decide +kernel
theorem dX9_partsWith_1 : decode cX9_partsWith 1 = .ok (.lstore_n 3, 1) := by decide +kernel
theorem dX9_partsWith_2 : decode cX9_partsWith 2 = .ok (.iconst 0, 1) := by decide +kernel
theorem dX9_partsWith_3 : decode cX9_partsWith 3 = .ok (.istore 5, 2) := by decide +kernel
theorem dX9_partsWith_5 : decode cX9_partsWith 5 = .ok (.iload 5, 2) := by decide +kernel
theorem dX9_partsWith_7 : decode cX9_partsWith 7 = .ok (.bipush 32, 2) := by decide +kernel
theorem dX9_partsWith_9 : decode cX9_partsWith 9 = .ok (.if_icmp .ge 26, 3) := by decide +kernel
theorem dX9_partsWith_12 : decode cX9_partsWith 12 = .ok (.iload 5, 2) := by decide +kernel
theorem dX9_partsWith_14 : decode cX9_partsWith 14 = .ok (.iload_n 2, 1) := by decide +kernel
theorem dX9_partsWith_15 : decode cX9_partsWith 15 = .ok (.ishr, 1) := by decide +kernel
theorem dX9_partsWith_16 : decode cX9_partsWith 16 = .ok (.iconst 1, 1) := by decide +kernel
theorem dX9_partsWith_17 : decode cX9_partsWith 17 = .ok (.iand, 1) := by decide +kernel
theorem dX9_partsWith_18 : decode cX9_partsWith 18 = .ok (.iconst 1, 1) := by decide +kernel
theorem dX9_partsWith_19 : decode cX9_partsWith 19 = .ok (.if_icmp .ne 10, 3) := by decide +kernel
theorem dX9_partsWith_22 : decode cX9_partsWith 22 = .ok (.lload_n 3, 1) := by decide +kernel
theorem dX9_partsWith_23 : decode cX9_partsWith 23 = .ok (.aload_n 1, 1) := by decide +kernel
theorem dX9_partsWith_24 : decode cX9_partsWith 24 = .ok (.iload 5, 2) := by decide +kernel
theorem dX9_partsWith_26 : decode cX9_partsWith 26 = .ok (.laload, 1) := by decide +kernel
theorem dX9_partsWith_27 : decode cX9_partsWith 27 = .ok (.ladd, 1) := by decide +kernel
theorem dX9_partsWith_28 : decode cX9_partsWith 28 = .ok (.lstore_n 3, 1) := by decide +kernel
theorem dX9_partsWith_29 : decode cX9_partsWith 29 = .ok (.iinc 5 1, 3) := by decide +kernel
theorem dX9_partsWith_32 : decode cX9_partsWith 32 = .ok (.goto (-27), 3) := by decide +kernel
theorem dX9_partsWith_35 : decode cX9_partsWith 35 = .ok (.lload_n 3, 1) := by decide +kernel
theorem dX9_partsWith_36 : decode cX9_partsWith 36 = .ok (.lreturn, 1) := by decide +kernel
theorem dX9_partsWithout_0 : decode cX9_partsWithout 0 = .ok (.lconst 0, 1) := by decide +kernel
theorem dX9_partsWithout_1 : decode cX9_partsWithout 1 = .ok (.lstore_n 3, 1) := by decide +kernel
theorem dX9_partsWithout_2 : decode cX9_partsWithout 2 = .ok (.iconst 0, 1) := by decide +kernel
theorem dX9_partsWithout_3 : decode cX9_partsWithout 3 = .ok (.istore 5, 2) := by decide +kernel
theorem dX9_partsWithout_5 : decode cX9_partsWithout 5 = .ok (.iload 5, 2) := by decide +kernel
theorem dX9_partsWithout_7 : decode cX9_partsWithout 7 = .ok (.bipush 32, 2) := by decide +kernel
theorem dX9_partsWithout_9 : decode cX9_partsWithout 9 = .ok (.if_icmp .ge 23, 3) := by decide +kernel
theorem dX9_partsWithout_12 : decode cX9_partsWithout 12 = .ok (.iload 5, 2) := by decide +kernel
theorem dX9_partsWithout_14 : decode cX9_partsWithout 14 = .ok (.iload_n 2, 1) := by decide +kernel
theorem dX9_partsWithout_15 : decode cX9_partsWithout 15 = .ok (.iand, 1) := by decide +kernel
theorem dX9_partsWithout_16 : decode cX9_partsWithout 16 = .ok (.ifCond .ne 10, 3) := by decide +kernel
theorem dX9_partsWithout_19 : decode cX9_partsWithout 19 = .ok (.lload_n 3, 1) := by decide +kernel
theorem dX9_partsWithout_20 : decode cX9_partsWithout 20 = .ok (.aload_n 1, 1) := by decide +kernel
theorem dX9_partsWithout_21 : decode cX9_partsWithout 21 = .ok (.iload 5, 2) := by decide +kernel
theorem dX9_partsWithout_23 : decode cX9_partsWithout 23 = .ok (.laload, 1) := by decide +kernel
theorem dX9_partsWithout_24 : decode cX9_partsWithout 24 = .ok (.ladd, 1) := by decide +kernel
theorem dX9_partsWithout_25 : decode cX9_partsWithout 25 = .ok (.lstore_n 3, 1) := by decide +kernel
theorem dX9_partsWithout_26 : decode cX9_partsWithout 26 = .ok (.iinc 5 1, 3) := by decide +kernel
theorem dX9_partsWithout_29 : decode cX9_partsWithout 29 = .ok (.goto (-24), 3) := by decide +kernel
theorem dX9_partsWithout_32 : decode cX9_partsWithout 32 = .ok (.lload_n 3, 1) := by decide +kernel
theorem dX9_partsWithout_33 : decode cX9_partsWithout 33 = .ok (.lreturn, 1) := by decide +kernel
theorem dX10_init_0 : decode cX10_init 0 = .ok (.aload_n 0, 1) := by decide +kernel
theorem dX10_init_1 : decode cX10_init 1 = .ok (.invokespecial 3, 3) := by decide +kernel
theorem dX10_init_4 : decode cX10_init 4 = .ok (.aload_n 0, 1) := by decide +kernel
theorem dX10_init_5 : decode cX10_init 5 = .ok (.bipush 60, 2) := by decide +kernel
theorem dX10_init_7 : decode cX10_init 7 = .ok (.newarray .long, 2) := by decide +kernel
theorem dX10_init_9 : decode cX10_init 9 = .ok (.putfield 9, 3) := by decide +kernel
theorem dX10_init_12 : decode cX10_init 12 = .ok (.aload_n 0, 1) := by decide +kernel
theorem dX10_init_13 : decode cX10_init 13 = .ok (.iconst (-1), 1) := by decide +kernel
theorem dX10_init_14 : decode cX10_init 14 = .ok (.putfield 15, 3) := by decide +kernel
theorem dX10_init_17 : decode cX10_init 17 = .ok (.aload_n 0, 1) := by decide +kernel
theorem dX10_init_18 : decode cX10_init 18 = .ok (.iconst 0, 1) := by decide +kernel
theorem dX10_init_19 : decode cX10_init 19 = .ok (.putfield 19, 3) := by decide +kernel
theorem dX10_init_22 : decode cX10_init 22 = .ok (.return_, 1) := by decide +kernel
theorem dX10_isMissing_0 : decode cX10_isMissing 0 = .ok (.aload_n 0, 1) := by decide +kernel
theorem dX10_isMissing_1 : decode cX10_isMissing 1 = .ok (.getfield 15, 3) := by decide +kernel
theorem dX10_isMissing_4 : decode cX10_isMissing 4 = .ok (.iconst (-1), 1) := by decide +kernel
theorem dX10_isMissing_5 : decode cX10_isMissing 5 = .ok (.if_icmp .ne 7, 3) := by decide +kernel
theorem dX10_isMissing_8 : decode cX10_isMissing 8 = .ok (.iconst 1, 1) := by decide +kernel
theorem dX10_isMissing_9 : decode cX10_isMissing 9 = .ok (.goto 4, 3) := by decide +kernel
theorem dX10_isMissing_12 : decode cX10_isMissing 12 = .ok (.iconst 0, 1) := by decide +kernel
theorem dX10_isMissing_13 : decode cX10_isMissing 13 = .ok (.ireturn, 1) := by decide +kernel
theorem dX10_lay_0 : decode cX10_lay 0 = .ok (.aload_n 0, 1) := by decide +kernel
theorem dX10_lay_1 : decode cX10_lay 1 = .ok (.iload_n 1, 1) := by decide +kernel
theorem dX10_lay_2 : decode cX10_lay 2 = .ok (.putfield 15, 3) := by decide +kernel
theorem dX10_lay_5 : decode cX10_lay 5 = .ok (.aload_n 0, 1) := by decide +kernel
theorem dX10_lay_6 : decode cX10_lay 6 = .ok (.iload_n 2, 1) := by decide +kernel
theorem dX10_lay_7 : decode cX10_lay 7 = .ok (.putfield 19, 3) := by decide +kernel
theorem dX10_lay_10 : decode cX10_lay 10 = .ok (.aload_n 0, 1) := by decide +kernel
theorem dX10_lay_11 : decode cX10_lay 11 = .ok (.getfield 9, 3) := by decide +kernel
theorem dX10_lay_14 : decode cX10_lay 14 = .ok (.lconst 0, 1) := by decide +kernel
theorem dX10_lay_15 : decode cX10_lay 15 = .ok (.invokestatic 22, 3) := by decide +kernel
theorem dX10_lay_18 : decode cX10_lay 18 = .ok (.return_, 1) := by decide +kernel
theorem dX10_holds_0 : decode cX10_holds 0 = .ok (.iload_n 1, 1) := by decide +kernel
theorem dX10_holds_1 : decode cX10_holds 1 = .ok (.aload_n 0, 1) := by decide +kernel
theorem dX10_holds_2 : decode cX10_holds 2 = .ok (.getfield 19, 3) := by decide +kernel
theorem dX10_holds_5 : decode cX10_holds 5 = .ok (.if_icmp .gt 17, 3) := by decide +kernel
theorem dX10_holds_8 : decode cX10_holds 8 = .ok (.iload_n 2, 1) := by decide +kernel
theorem dX10_holds_9 : decode cX10_holds 9 = .ok (.aload_n 0, 1) := by decide +kernel
theorem dX10_holds_10 : decode cX10_holds 10 = .ok (.getfield 19, 3) := by decide +kernel
theorem dX10_holds_13 : decode cX10_holds 13 = .ok (.iload_n 1, 1) := by decide +kernel
theorem dX10_holds_14 : decode cX10_holds 14 = .ok (.isub, 1) := by decide +kernel
theorem dX10_holds_15 : decode cX10_holds 15 = .ok (.if_icmp .gt 7, 3) := by decide +kernel
theorem dX10_holds_18 : decode cX10_holds 18 = .ok (.iconst 1, 1) := by decide +kernel
theorem dX10_holds_19 : decode cX10_holds 19 = .ok (.goto 4, 3) := by decide +kernel
theorem dX10_holds_22 : decode cX10_holds 22 = .ok (.iconst 0, 1) := by decide +kernel
theorem dX10_holds_23 : decode cX10_holds 23 = .ok (.ireturn, 1) := by decide +kernel
theorem dX10_cut_0 : decode cX10_cut 0 = .ok (.aload_n 0, 1) := by decide +kernel
theorem dX10_cut_1 : decode cX10_cut 1 = .ok (.getfield 15, 3) := by decide +kernel
theorem dX10_cut_4 : decode cX10_cut 4 = .ok (.tableswitch 42 0 2 #[28, 33, 38], 28) := by decide +kernel
theorem dX10_cut_32 : decode cX10_cut 32 = .ok (.lload_n 1, 1) := by decide +kernel
theorem dX10_cut_33 : decode cX10_cut 33 = .ok (.l2i, 1) := by decide +kernel
theorem dX10_cut_34 : decode cX10_cut 34 = .ok (.i2b, 1) := by decide +kernel
theorem dX10_cut_35 : decode cX10_cut 35 = .ok (.i2l, 1) := by decide +kernel
theorem dX10_cut_36 : decode cX10_cut 36 = .ok (.lreturn, 1) := by decide +kernel
theorem dX10_cut_37 : decode cX10_cut 37 = .ok (.lload_n 1, 1) := by decide +kernel
theorem dX10_cut_38 : decode cX10_cut 38 = .ok (.l2i, 1) := by decide +kernel
theorem dX10_cut_39 : decode cX10_cut 39 = .ok (.i2s, 1) := by decide +kernel
theorem dX10_cut_40 : decode cX10_cut 40 = .ok (.i2l, 1) := by decide +kernel
theorem dX10_cut_41 : decode cX10_cut 41 = .ok (.lreturn, 1) := by decide +kernel
theorem dX10_cut_42 : decode cX10_cut 42 = .ok (.lload_n 1, 1) := by decide +kernel
theorem dX10_cut_43 : decode cX10_cut 43 = .ok (.l2i, 1) := by decide +kernel
theorem dX10_cut_44 : decode cX10_cut 44 = .ok (.i2l, 1) := by decide +kernel
theorem dX10_cut_45 : decode cX10_cut 45 = .ok (.lreturn, 1) := by decide +kernel
theorem dX10_cut_46 : decode cX10_cut 46 = .ok (.lload_n 1, 1) := by decide +kernel
theorem dX10_cut_47 : decode cX10_cut 47 = .ok (.lreturn, 1) := by decide +kernel
theorem dX11_init_0 : decode cX11_init 0 = .ok (.aload_n 0, 1) := by decide +kernel
theorem dX11_init_1 : decode cX11_init 1 = .ok (.invokespecial 1, 3) := by decide +kernel
theorem dX11_init_4 : decode cX11_init 4 = .ok (.aload_n 0, 1) := by decide +kernel
theorem dX11_init_5 : decode cX11_init 5 = .ok (.iconst 4, 1) := by decide +kernel
theorem dX11_init_6 : decode cX11_init 6 = .ok (.anewarray 9, 3) := by decide +kernel
theorem dX11_init_9 : decode cX11_init 9 = .ok (.putfield 11, 3) := by decide +kernel
theorem dX11_init_12 : decode cX11_init 12 = .ok (.aload_n 0, 1) := by decide +kernel
theorem dX11_init_13 : decode cX11_init 13 = .ok (.new 15, 3) := by decide +kernel
theorem dX11_init_16 : decode cX11_init 16 = .ok (.dup, 1) := by decide +kernel
theorem dX11_init_17 : decode cX11_init 17 = .ok (.invokespecial 17, 3) := by decide +kernel
theorem dX11_init_20 : decode cX11_init 20 = .ok (.putfield 18, 3) := by decide +kernel
theorem dX11_init_23 : decode cX11_init 23 = .ok (.aload_n 0, 1) := by decide +kernel
theorem dX11_init_24 : decode cX11_init 24 = .ok (.iconst 3, 1) := by decide +kernel
theorem dX11_init_25 : decode cX11_init 25 = .ok (.anewarray 15, 3) := by decide +kernel
theorem dX11_init_28 : decode cX11_init 28 = .ok (.putfield 22, 3) := by decide +kernel
theorem dX11_init_31 : decode cX11_init 31 = .ok (.aload_n 0, 1) := by decide +kernel
theorem dX11_init_32 : decode cX11_init 32 = .ok (.new 26, 3) := by decide +kernel
theorem dX11_init_35 : decode cX11_init 35 = .ok (.dup, 1) := by decide +kernel
theorem dX11_init_36 : decode cX11_init 36 = .ok (.invokespecial 28, 3) := by decide +kernel
theorem dX11_init_39 : decode cX11_init 39 = .ok (.putfield 29, 3) := by decide +kernel
theorem dX11_init_42 : decode cX11_init 42 = .ok (.aload_n 0, 1) := by decide +kernel
theorem dX11_init_43 : decode cX11_init 43 = .ok (.new 33, 3) := by decide +kernel
theorem dX11_init_46 : decode cX11_init 46 = .ok (.dup, 1) := by decide +kernel
theorem dX11_init_47 : decode cX11_init 47 = .ok (.invokespecial 35, 3) := by decide +kernel
theorem dX11_init_50 : decode cX11_init 50 = .ok (.putfield 36, 3) := by decide +kernel
theorem dX11_init_53 : decode cX11_init 53 = .ok (.aload_n 0, 1) := by decide +kernel
theorem dX11_init_54 : decode cX11_init 54 = .ok (.new 40, 3) := by decide +kernel
theorem dX11_init_57 : decode cX11_init 57 = .ok (.dup, 1) := by decide +kernel
theorem dX11_init_58 : decode cX11_init 58 = .ok (.invokespecial 42, 3) := by decide +kernel
theorem dX11_init_61 : decode cX11_init 61 = .ok (.putfield 43, 3) := by decide +kernel
theorem dX11_init_64 : decode cX11_init 64 = .ok (.aload_n 0, 1) := by decide +kernel
theorem dX11_init_65 : decode cX11_init 65 = .ok (.new 47, 3) := by decide +kernel
theorem dX11_init_68 : decode cX11_init 68 = .ok (.dup, 1) := by decide +kernel
theorem dX11_init_69 : decode cX11_init 69 = .ok (.aload_n 0, 1) := by decide +kernel
theorem dX11_init_70 : decode cX11_init 70 = .ok (.getfield 43, 3) := by decide +kernel
theorem dX11_init_73 : decode cX11_init 73 = .ok (.aload_n 0, 1) := by decide +kernel
theorem dX11_init_74 : decode cX11_init 74 = .ok (.getfield 29, 3) := by decide +kernel
theorem dX11_init_77 : decode cX11_init 77 = .ok (.invokespecial 49, 3) := by decide +kernel
theorem dX11_init_80 : decode cX11_init 80 = .ok (.putfield 52, 3) := by decide +kernel
theorem dX11_init_83 : decode cX11_init 83 = .ok (.aload_n 0, 1) := by decide +kernel
theorem dX11_init_84 : decode cX11_init 84 = .ok (.new 56, 3) := by decide +kernel
theorem dX11_init_87 : decode cX11_init 87 = .ok (.dup, 1) := by decide +kernel
theorem dX11_init_88 : decode cX11_init 88 = .ok (.aload_n 0, 1) := by decide +kernel
theorem dX11_init_89 : decode cX11_init 89 = .ok (.getfield 43, 3) := by decide +kernel
theorem dX11_init_92 : decode cX11_init 92 = .ok (.aload_n 0, 1) := by decide +kernel
theorem dX11_init_93 : decode cX11_init 93 = .ok (.getfield 36, 3) := by decide +kernel
theorem dX11_init_96 : decode cX11_init 96 = .ok (.aload_n 0, 1) := by decide +kernel
theorem dX11_init_97 : decode cX11_init 97 = .ok (.getfield 18, 3) := by decide +kernel
theorem dX11_init_100 : decode cX11_init 100 = .ok (.getfield 58, 3) := by decide +kernel
theorem dX11_init_103 : decode cX11_init 103 = .ok (.invokespecial 61, 3) := by decide +kernel
theorem dX11_init_106 : decode cX11_init 106 = .ok (.putfield 64, 3) := by decide +kernel
theorem dX11_init_109 : decode cX11_init 109 = .ok (.aload_n 0, 1) := by decide +kernel
theorem dX11_init_110 : decode cX11_init 110 = .ok (.new 68, 3) := by decide +kernel
theorem dX11_init_113 : decode cX11_init 113 = .ok (.dup, 1) := by decide +kernel
theorem dX11_init_114 : decode cX11_init 114 = .ok (.invokespecial 70, 3) := by decide +kernel
theorem dX11_init_117 : decode cX11_init 117 = .ok (.putfield 71, 3) := by decide +kernel
theorem dX11_init_120 : decode cX11_init 120 = .ok (.aload_n 0, 1) := by decide +kernel
theorem dX11_init_121 : decode cX11_init 121 = .ok (.new 75, 3) := by decide +kernel
theorem dX11_init_124 : decode cX11_init 124 = .ok (.dup, 1) := by decide +kernel
theorem dX11_init_125 : decode cX11_init 125 = .ok (.aload_n 0, 1) := by decide +kernel
theorem dX11_init_126 : decode cX11_init 126 = .ok (.getfield 18, 3) := by decide +kernel
theorem dX11_init_129 : decode cX11_init 129 = .ok (.getfield 58, 3) := by decide +kernel
theorem dX11_init_132 : decode cX11_init 132 = .ok (.invokespecial 77, 3) := by decide +kernel
theorem dX11_init_135 : decode cX11_init 135 = .ok (.putfield 80, 3) := by decide +kernel
theorem dX11_init_138 : decode cX11_init 138 = .ok (.aload_n 0, 1) := by decide +kernel
theorem dX11_init_139 : decode cX11_init 139 = .ok (.new 84, 3) := by decide +kernel
theorem dX11_init_142 : decode cX11_init 142 = .ok (.dup, 1) := by decide +kernel
theorem dX11_init_143 : decode cX11_init 143 = .ok (.aload_n 0, 1) := by decide +kernel
theorem dX11_init_144 : decode cX11_init 144 = .ok (.getfield 80, 3) := by decide +kernel
theorem dX11_init_147 : decode cX11_init 147 = .ok (.aload_n 0, 1) := by decide +kernel
theorem dX11_init_148 : decode cX11_init 148 = .ok (.getfield 18, 3) := by decide +kernel
theorem dX11_init_151 : decode cX11_init 151 = .ok (.getfield 58, 3) := by decide +kernel
theorem dX11_init_154 : decode cX11_init 154 = .ok (.invokespecial 86, 3) := by decide +kernel
theorem dX11_init_157 : decode cX11_init 157 = .ok (.putfield 89, 3) := by decide +kernel
theorem dX11_init_160 : decode cX11_init 160 = .ok (.aload_n 0, 1) := by decide +kernel
theorem dX11_init_161 : decode cX11_init 161 = .ok (.new 93, 3) := by decide +kernel
theorem dX11_init_164 : decode cX11_init 164 = .ok (.dup, 1) := by decide +kernel
theorem dX11_init_165 : decode cX11_init 165 = .ok (.aload_n 0, 1) := by decide +kernel
theorem dX11_init_166 : decode cX11_init 166 = .ok (.getfield 71, 3) := by decide +kernel
theorem dX11_init_169 : decode cX11_init 169 = .ok (.aload_n 0, 1) := by decide +kernel
theorem dX11_init_170 : decode cX11_init 170 = .ok (.getfield 80, 3) := by decide +kernel
theorem dX11_init_173 : decode cX11_init 173 = .ok (.aload_n 0, 1) := by decide +kernel
theorem dX11_init_174 : decode cX11_init 174 = .ok (.getfield 18, 3) := by decide +kernel
theorem dX11_init_177 : decode cX11_init 177 = .ok (.invokespecial 95, 3) := by decide +kernel
theorem dX11_init_180 : decode cX11_init 180 = .ok (.putfield 98, 3) := by decide +kernel
theorem dX11_init_183 : decode cX11_init 183 = .ok (.aload_n 0, 1) := by decide +kernel
theorem dX11_init_184 : decode cX11_init 184 = .ok (.bipush 32, 2) := by decide +kernel
theorem dX11_init_186 : decode cX11_init 186 = .ok (.newarray .long, 2) := by decide +kernel
theorem dX11_init_188 : decode cX11_init 188 = .ok (.putfield 102, 3) := by decide +kernel
theorem dX11_init_191 : decode cX11_init 191 = .ok (.aload_n 0, 1) := by decide +kernel
theorem dX11_init_192 : decode cX11_init 192 = .ok (.bipush 7, 2) := by decide +kernel
theorem dX11_init_194 : decode cX11_init 194 = .ok (.newarray .int, 2) := by decide +kernel
theorem dX11_init_196 : decode cX11_init 196 = .ok (.putfield 106, 3) := by decide +kernel
theorem dX11_init_199 : decode cX11_init 199 = .ok (.aload_n 0, 1) := by decide +kernel
theorem dX11_init_200 : decode cX11_init 200 = .ok (.iconst 0, 1) := by decide +kernel
theorem dX11_init_201 : decode cX11_init 201 = .ok (.putfield 110, 3) := by decide +kernel
theorem dX11_init_204 : decode cX11_init 204 = .ok (.aload_n 0, 1) := by decide +kernel
theorem dX11_init_205 : decode cX11_init 205 = .ok (.iconst 0, 1) := by decide +kernel
theorem dX11_init_206 : decode cX11_init 206 = .ok (.putfield 114, 3) := by decide +kernel
theorem dX11_init_209 : decode cX11_init 209 = .ok (.aload_n 0, 1) := by decide +kernel
theorem dX11_init_210 : decode cX11_init 210 = .ok (.iconst 0, 1) := by decide +kernel
theorem dX11_init_211 : decode cX11_init 211 = .ok (.putfield 118, 3) := by decide +kernel
theorem dX11_init_214 : decode cX11_init 214 = .ok (.aload_n 0, 1) := by decide +kernel
theorem dX11_init_215 : decode cX11_init 215 = .ok (.lconst 0, 1) := by decide +kernel
theorem dX11_init_216 : decode cX11_init 216 = .ok (.putfield 121, 3) := by decide +kernel
theorem dX11_init_219 : decode cX11_init 219 = .ok (.aload_n 0, 1) := by decide +kernel
theorem dX11_init_220 : decode cX11_init 220 = .ok (.lconst 1, 1) := by decide +kernel
theorem dX11_init_221 : decode cX11_init 221 = .ok (.putfield 125, 3) := by decide +kernel
theorem dX11_init_224 : decode cX11_init 224 = .ok (.iconst 0, 1) := by decide +kernel
theorem dX11_init_225 : decode cX11_init 225 = .ok (.istore_n 1, 1) := by decide +kernel
theorem dX11_init_226 : decode cX11_init 226 = .ok (.iload_n 1, 1) := by decide +kernel
theorem dX11_init_227 : decode cX11_init 227 = .ok (.iconst 4, 1) := by decide +kernel
theorem dX11_init_228 : decode cX11_init 228 = .ok (.if_icmp .ge 22, 3) := by decide +kernel
theorem dX11_init_231 : decode cX11_init 231 = .ok (.aload_n 0, 1) := by decide +kernel
theorem dX11_init_232 : decode cX11_init 232 = .ok (.getfield 11, 3) := by decide +kernel
theorem dX11_init_235 : decode cX11_init 235 = .ok (.iload_n 1, 1) := by decide +kernel
theorem dX11_init_236 : decode cX11_init 236 = .ok (.new 9, 3) := by decide +kernel
theorem dX11_init_239 : decode cX11_init 239 = .ok (.dup, 1) := by decide +kernel
theorem dX11_init_240 : decode cX11_init 240 = .ok (.invokespecial 128, 3) := by decide +kernel
theorem dX11_init_243 : decode cX11_init 243 = .ok (.aastore, 1) := by decide +kernel
theorem dX11_init_244 : decode cX11_init 244 = .ok (.iinc 1 1, 3) := by decide +kernel
theorem dX11_init_247 : decode cX11_init 247 = .ok (.goto (-21), 3) := by decide +kernel
theorem dX11_init_250 : decode cX11_init 250 = .ok (.iconst 0, 1) := by decide +kernel
theorem dX11_init_251 : decode cX11_init 251 = .ok (.istore_n 1, 1) := by decide +kernel
theorem dX11_init_252 : decode cX11_init 252 = .ok (.iload_n 1, 1) := by decide +kernel
theorem dX11_init_253 : decode cX11_init 253 = .ok (.iconst 3, 1) := by decide +kernel
theorem dX11_init_254 : decode cX11_init 254 = .ok (.if_icmp .ge 22, 3) := by decide +kernel
theorem dX11_init_257 : decode cX11_init 257 = .ok (.aload_n 0, 1) := by decide +kernel
theorem dX11_init_258 : decode cX11_init 258 = .ok (.getfield 22, 3) := by decide +kernel
theorem dX11_init_261 : decode cX11_init 261 = .ok (.iload_n 1, 1) := by decide +kernel
theorem dX11_init_262 : decode cX11_init 262 = .ok (.new 15, 3) := by decide +kernel
theorem dX11_init_265 : decode cX11_init 265 = .ok (.dup, 1) := by decide +kernel
theorem dX11_init_266 : decode cX11_init 266 = .ok (.invokespecial 17, 3) := by decide +kernel
theorem dX11_init_269 : decode cX11_init 269 = .ok (.aastore, 1) := by decide +kernel
theorem dX11_init_270 : decode cX11_init 270 = .ok (.iinc 1 1, 3) := by decide +kernel
theorem dX11_init_273 : decode cX11_init 273 = .ok (.goto (-21), 3) := by decide +kernel
theorem dX11_init_276 : decode cX11_init 276 = .ok (.aload_n 0, 1) := by decide +kernel
theorem dX11_init_277 : decode cX11_init 277 = .ok (.getfield 71, 3) := by decide +kernel
theorem dX11_init_280 : decode cX11_init 280 = .ok (.aload_n 0, 1) := by decide +kernel
theorem dX11_init_281 : decode cX11_init 281 = .ok (.getfield 18, 3) := by decide +kernel
theorem dX11_init_284 : decode cX11_init 284 = .ok (.getfield 58, 3) := by decide +kernel
theorem dX11_init_287 : decode cX11_init 287 = .ok (.aload_n 0, 1) := by decide +kernel
theorem dX11_init_288 : decode cX11_init 288 = .ok (.getfield 18, 3) := by decide +kernel
theorem dX11_init_291 : decode cX11_init 291 = .ok (.getfield 129, 3) := by decide +kernel
theorem dX11_init_294 : decode cX11_init 294 = .ok (.invokevirtual 132, 3) := by decide +kernel
theorem dX11_init_297 : decode cX11_init 297 = .ok (.return_, 1) := by decide +kernel
theorem dX11_status_0 : decode cX11_status 0 = .ok (.aload_n 0, 1) := by decide +kernel
theorem dX11_status_1 : decode cX11_status 1 = .ok (.getfield 118, 3) := by decide +kernel
theorem dX11_status_4 : decode cX11_status 4 = .ok (.ireturn, 1) := by decide +kernel
theorem dX11_top_0 : decode cX11_top 0 = .ok (.aload_n 0, 1) := by decide +kernel
theorem dX11_top_1 : decode cX11_top 1 = .ok (.getfield 121, 3) := by decide +kernel
theorem dX11_top_4 : decode cX11_top 4 = .ok (.lreturn, 1) := by decide +kernel
theorem dX11_bottom_0 : decode cX11_bottom 0 = .ok (.aload_n 0, 1) := by decide +kernel
theorem dX11_bottom_1 : decode cX11_bottom 1 = .ok (.getfield 125, 3) := by decide +kernel
theorem dX11_bottom_4 : decode cX11_bottom 4 = .ok (.lreturn, 1) := by decide +kernel
theorem dX11_tray_0 : decode cX11_tray 0 = .ok (.iload_n 1, 1) := by decide +kernel
theorem dX11_tray_1 : decode cX11_tray 1 = .ok (.invokestatic 136, 3) := by decide +kernel
theorem dX11_tray_4 : decode cX11_tray 4 = .ok (.ifCond .eq 22, 3) := by decide +kernel
theorem dX11_tray_7 : decode cX11_tray 7 = .ok (.iload_n 2, 1) := by decide +kernel
theorem dX11_tray_8 : decode cX11_tray 8 = .ok (.ifCond .lt 18, 3) := by decide +kernel
theorem dX11_tray_11 : decode cX11_tray 11 = .ok (.iload_n 2, 1) := by decide +kernel
theorem dX11_tray_12 : decode cX11_tray 12 = .ok (.iconst 3, 1) := by decide +kernel
theorem dX11_tray_13 : decode cX11_tray 13 = .ok (.if_icmp .gt 13, 3) := by decide +kernel
theorem dX11_tray_16 : decode cX11_tray 16 = .ok (.iload_n 3, 1) := by decide +kernel
theorem dX11_tray_17 : decode cX11_tray 17 = .ok (.ifCond .lt 9, 3) := by decide +kernel
theorem dX11_tray_20 : decode cX11_tray 20 = .ok (.iload_n 3, 1) := by decide +kernel
theorem dX11_tray_21 : decode cX11_tray 21 = .ok (.bipush 60, 2) := by decide +kernel
theorem dX11_tray_23 : decode cX11_tray 23 = .ok (.if_icmp .le 9, 3) := by decide +kernel
theorem dX11_tray_26 : decode cX11_tray 26 = .ok (.aload_n 0, 1) := by decide +kernel
theorem dX11_tray_27 : decode cX11_tray 27 = .ok (.iconst 1, 1) := by decide +kernel
theorem dX11_tray_28 : decode cX11_tray 28 = .ok (.invokevirtual 140, 3) := by decide +kernel
theorem dX11_tray_31 : decode cX11_tray 31 = .ok (.ireturn, 1) := by decide +kernel
theorem dX11_tray_32 : decode cX11_tray 32 = .ok (.aload_n 0, 1) := by decide +kernel
theorem dX11_tray_33 : decode cX11_tray 33 = .ok (.getfield 11, 3) := by decide +kernel
theorem dX11_tray_36 : decode cX11_tray 36 = .ok (.iload_n 1, 1) := by decide +kernel
theorem dX11_tray_37 : decode cX11_tray 37 = .ok (.aaload, 1) := by decide +kernel
theorem dX11_tray_38 : decode cX11_tray 38 = .ok (.iload_n 2, 1) := by decide +kernel
theorem dX11_tray_39 : decode cX11_tray 39 = .ok (.iload_n 3, 1) := by decide +kernel
theorem dX11_tray_40 : decode cX11_tray 40 = .ok (.invokevirtual 143, 3) := by decide +kernel
theorem dX11_tray_43 : decode cX11_tray 43 = .ok (.aload_n 0, 1) := by decide +kernel
theorem dX11_tray_44 : decode cX11_tray 44 = .ok (.invokevirtual 147, 3) := by decide +kernel
theorem dX11_tray_47 : decode cX11_tray 47 = .ok (.ireturn, 1) := by decide +kernel
theorem dX11_write_0 : decode cX11_write 0 = .ok (.aload_n 0, 1) := by decide +kernel
theorem dX11_write_1 : decode cX11_write 1 = .ok (.iload_n 1, 1) := by decide +kernel
theorem dX11_write_2 : decode cX11_write 2 = .ok (.iload_n 2, 1) := by decide +kernel
theorem dX11_write_3 : decode cX11_write 3 = .ok (.invokevirtual 151, 3) := by decide +kernel
theorem dX11_write_6 : decode cX11_write 6 = .ok (.istore 5, 2) := by decide +kernel
theorem dX11_write_8 : decode cX11_write 8 = .ok (.iload 5, 2) := by decide +kernel
theorem dX11_write_10 : decode cX11_write 10 = .ok (.ifCond .eq 10, 3) := by decide +kernel
theorem dX11_write_13 : decode cX11_write 13 = .ok (.aload_n 0, 1) := by decide +kernel
theorem dX11_write_14 : decode cX11_write 14 = .ok (.iload 5, 2) := by decide +kernel
theorem dX11_write_16 : decode cX11_write 16 = .ok (.invokevirtual 140, 3) := by decide +kernel
theorem dX11_write_19 : decode cX11_write 19 = .ok (.ireturn, 1) := by decide +kernel
theorem dX11_write_20 : decode cX11_write 20 = .ok (.aload_n 0, 1) := by decide +kernel
theorem dX11_write_21 : decode cX11_write 21 = .ok (.getfield 11, 3) := by decide +kernel
theorem dX11_write_24 : decode cX11_write 24 = .ok (.iload_n 1, 1) := by decide +kernel
theorem dX11_write_25 : decode cX11_write 25 = .ok (.aaload, 1) := by decide +kernel
theorem dX11_write_26 : decode cX11_write 26 = .ok (.astore 6, 2) := by decide +kernel
theorem dX11_write_28 : decode cX11_write 28 = .ok (.aload 6, 2) := by decide +kernel
theorem dX11_write_30 : decode cX11_write 30 = .ok (.getfield 155, 3) := by decide +kernel
theorem dX11_write_33 : decode cX11_write 33 = .ok (.iload_n 2, 1) := by decide +kernel
theorem dX11_write_34 : decode cX11_write 34 = .ok (.aload 6, 2) := by decide +kernel
theorem dX11_write_36 : decode cX11_write 36 = .ok (.lload_n 3, 1) := by decide +kernel
theorem dX11_write_37 : decode cX11_write 37 = .ok (.invokevirtual 158, 3) := by decide +kernel
theorem dX11_write_40 : decode cX11_write 40 = .ok (.lastore, 1) := by decide +kernel
theorem dX11_write_41 : decode cX11_write 41 = .ok (.aload_n 0, 1) := by decide +kernel
theorem dX11_write_42 : decode cX11_write 42 = .ok (.invokevirtual 147, 3) := by decide +kernel
theorem dX11_write_45 : decode cX11_write 45 = .ok (.ireturn, 1) := by decide +kernel
theorem dX11_read_0 : decode cX11_read 0 = .ok (.aload_n 0, 1) := by decide +kernel
theorem dX11_read_1 : decode cX11_read 1 = .ok (.iload_n 1, 1) := by decide +kernel
theorem dX11_read_2 : decode cX11_read 2 = .ok (.iload_n 2, 1) := by decide +kernel
theorem dX11_read_3 : decode cX11_read 3 = .ok (.invokevirtual 151, 3) := by decide +kernel
theorem dX11_read_6 : decode cX11_read 6 = .ok (.istore_n 3, 1) := by decide +kernel
theorem dX11_read_7 : decode cX11_read 7 = .ok (.iload_n 3, 1) := by decide +kernel
theorem dX11_read_8 : decode cX11_read 8 = .ok (.ifCond .eq 10, 3) := by decide +kernel
theorem dX11_read_11 : decode cX11_read 11 = .ok (.aload_n 0, 1) := by decide +kernel
theorem dX11_read_12 : decode cX11_read 12 = .ok (.iload_n 3, 1) := by decide +kernel
theorem dX11_read_13 : decode cX11_read 13 = .ok (.invokevirtual 162, 3) := by decide +kernel
theorem dX11_read_16 : decode cX11_read 16 = .ok (.i2l, 1) := by decide +kernel
theorem dX11_read_17 : decode cX11_read 17 = .ok (.lreturn, 1) := by decide +kernel
theorem dX11_read_18 : decode cX11_read 18 = .ok (.aload_n 0, 1) := by decide +kernel
theorem dX11_read_19 : decode cX11_read 19 = .ok (.iconst 0, 1) := by decide +kernel
theorem dX11_read_20 : decode cX11_read 20 = .ok (.putfield 118, 3) := by decide +kernel
theorem dX11_read_23 : decode cX11_read 23 = .ok (.aload_n 0, 1) := by decide +kernel
theorem dX11_read_24 : decode cX11_read 24 = .ok (.getfield 11, 3) := by decide +kernel
theorem dX11_read_27 : decode cX11_read 27 = .ok (.iload_n 1, 1) := by decide +kernel
theorem dX11_read_28 : decode cX11_read 28 = .ok (.aaload, 1) := by decide +kernel
theorem dX11_read_29 : decode cX11_read 29 = .ok (.getfield 155, 3) := by decide +kernel
theorem dX11_read_32 : decode cX11_read 32 = .ok (.iload_n 2, 1) := by decide +kernel
theorem dX11_read_33 : decode cX11_read 33 = .ok (.laload, 1) := by decide +kernel
theorem dX11_read_34 : decode cX11_read 34 = .ok (.lreturn, 1) := by decide +kernel
theorem dX11_pour_0 : decode cX11_pour 0 = .ok (.iload_n 1, 1) := by decide +kernel
theorem dX11_pour_1 : decode cX11_pour 1 = .ok (.invokestatic 136, 3) := by decide +kernel
theorem dX11_pour_4 : decode cX11_pour 4 = .ok (.ifCond .eq 24, 3) := by decide +kernel
theorem dX11_pour_7 : decode cX11_pour 7 = .ok (.iload_n 3, 1) := by decide +kernel
theorem dX11_pour_8 : decode cX11_pour 8 = .ok (.invokestatic 136, 3) := by decide +kernel
theorem dX11_pour_11 : decode cX11_pour 11 = .ok (.ifCond .eq 17, 3) := by decide +kernel
theorem dX11_pour_14 : decode cX11_pour 14 = .ok (.iload_n 2, 1) := by decide +kernel
theorem dX11_pour_15 : decode cX11_pour 15 = .ok (.ifCond .lt 13, 3) := by decide +kernel
theorem dX11_pour_18 : decode cX11_pour 18 = .ok (.iload 4, 2) := by decide +kernel
theorem dX11_pour_20 : decode cX11_pour 20 = .ok (.ifCond .lt 8, 3) := by decide +kernel
theorem dX11_pour_23 : decode cX11_pour 23 = .ok (.iload 5, 2) := by decide +kernel
theorem dX11_pour_25 : decode cX11_pour 25 = .ok (.ifCond .ge 9, 3) := by decide +kernel
theorem dX11_pour_28 : decode cX11_pour 28 = .ok (.aload_n 0, 1) := by decide +kernel
theorem dX11_pour_29 : decode cX11_pour 29 = .ok (.iconst 1, 1) := by decide +kernel
theorem dX11_pour_30 : decode cX11_pour 30 = .ok (.invokevirtual 140, 3) := by decide +kernel
theorem dX11_pour_33 : decode cX11_pour 33 = .ok (.ireturn, 1) := by decide +kernel
theorem dX11_pour_34 : decode cX11_pour 34 = .ok (.aload_n 0, 1) := by decide +kernel
theorem dX11_pour_35 : decode cX11_pour 35 = .ok (.getfield 11, 3) := by decide +kernel
theorem dX11_pour_38 : decode cX11_pour 38 = .ok (.iload_n 1, 1) := by decide +kernel
theorem dX11_pour_39 : decode cX11_pour 39 = .ok (.aaload, 1) := by decide +kernel
theorem dX11_pour_40 : decode cX11_pour 40 = .ok (.astore 6, 2) := by decide +kernel
theorem dX11_pour_42 : decode cX11_pour 42 = .ok (.aload_n 0, 1) := by decide +kernel
theorem dX11_pour_43 : decode cX11_pour 43 = .ok (.getfield 11, 3) := by decide +kernel
theorem dX11_pour_46 : decode cX11_pour 46 = .ok (.iload_n 3, 1) := by decide +kernel
theorem dX11_pour_47 : decode cX11_pour 47 = .ok (.aaload, 1) := by decide +kernel
theorem dX11_pour_48 : decode cX11_pour 48 = .ok (.astore 7, 2) := by decide +kernel
theorem dX11_pour_50 : decode cX11_pour 50 = .ok (.aload 6, 2) := by decide +kernel
theorem dX11_pour_52 : decode cX11_pour 52 = .ok (.invokevirtual 166, 3) := by decide +kernel
theorem dX11_pour_55 : decode cX11_pour 55 = .ok (.ifCond .ne 11, 3) := by decide +kernel
theorem dX11_pour_58 : decode cX11_pour 58 = .ok (.aload 7, 2) := by decide +kernel
theorem dX11_pour_60 : decode cX11_pour 60 = .ok (.invokevirtual 166, 3) := by decide +kernel
theorem dX11_pour_63 : decode cX11_pour 63 = .ok (.ifCond .eq 9, 3) := by decide +kernel
theorem dX11_pour_66 : decode cX11_pour 66 = .ok (.aload_n 0, 1) := by decide +kernel
theorem dX11_pour_67 : decode cX11_pour 67 = .ok (.iconst 2, 1) := by decide +kernel
theorem dX11_pour_68 : decode cX11_pour 68 = .ok (.invokevirtual 140, 3) := by decide +kernel
theorem dX11_pour_71 : decode cX11_pour 71 = .ok (.ireturn, 1) := by decide +kernel
theorem dX11_pour_72 : decode cX11_pour 72 = .ok (.aload 6, 2) := by decide +kernel
theorem dX11_pour_74 : decode cX11_pour 74 = .ok (.getfield 169, 3) := by decide +kernel
theorem dX11_pour_77 : decode cX11_pour 77 = .ok (.aload 7, 2) := by decide +kernel
theorem dX11_pour_79 : decode cX11_pour 79 = .ok (.getfield 169, 3) := by decide +kernel
theorem dX11_pour_82 : decode cX11_pour 82 = .ok (.if_icmp .eq 10, 3) := by decide +kernel
theorem dX11_pour_85 : decode cX11_pour 85 = .ok (.aload_n 0, 1) := by decide +kernel
theorem dX11_pour_86 : decode cX11_pour 86 = .ok (.bipush 8, 2) := by decide +kernel
theorem dX11_pour_88 : decode cX11_pour 88 = .ok (.invokevirtual 140, 3) := by decide +kernel
theorem dX11_pour_91 : decode cX11_pour 91 = .ok (.ireturn, 1) := by decide +kernel
theorem dX11_pour_92 : decode cX11_pour 92 = .ok (.aload 6, 2) := by decide +kernel
theorem dX11_pour_94 : decode cX11_pour 94 = .ok (.iload_n 2, 1) := by decide +kernel
theorem dX11_pour_95 : decode cX11_pour 95 = .ok (.iload 5, 2) := by decide +kernel
theorem dX11_pour_97 : decode cX11_pour 97 = .ok (.invokevirtual 172, 3) := by decide +kernel
theorem dX11_pour_100 : decode cX11_pour 100 = .ok (.ifCond .eq 15, 3) := by decide +kernel
theorem dX11_pour_103 : decode cX11_pour 103 = .ok (.aload 7, 2) := by decide +kernel
theorem dX11_pour_105 : decode cX11_pour 105 = .ok (.iload 4, 2) := by decide +kernel
theorem dX11_pour_107 : decode cX11_pour 107 = .ok (.iload 5, 2) := by decide +kernel
theorem dX11_pour_109 : decode cX11_pour 109 = .ok (.invokevirtual 172, 3) := by decide +kernel
theorem dX11_pour_112 : decode cX11_pour 112 = .ok (.ifCond .ne 9, 3) := by decide +kernel
theorem dX11_pour_115 : decode cX11_pour 115 = .ok (.aload_n 0, 1) := by decide +kernel
theorem dX11_pour_116 : decode cX11_pour 116 = .ok (.iconst 3, 1) := by decide +kernel
theorem dX11_pour_117 : decode cX11_pour 117 = .ok (.invokevirtual 140, 3) := by decide +kernel
theorem dX11_pour_120 : decode cX11_pour 120 = .ok (.ireturn, 1) := by decide +kernel
theorem dX11_pour_121 : decode cX11_pour 121 = .ok (.aload 6, 2) := by decide +kernel
theorem dX11_pour_123 : decode cX11_pour 123 = .ok (.getfield 155, 3) := by decide +kernel
theorem dX11_pour_126 : decode cX11_pour 126 = .ok (.iload_n 2, 1) := by decide +kernel
theorem dX11_pour_127 : decode cX11_pour 127 = .ok (.aload 7, 2) := by decide +kernel
theorem dX11_pour_129 : decode cX11_pour 129 = .ok (.getfield 155, 3) := by decide +kernel
theorem dX11_pour_132 : decode cX11_pour 132 = .ok (.iload 4, 2) := by decide +kernel
theorem dX11_pour_134 : decode cX11_pour 134 = .ok (.iload 5, 2) := by decide +kernel
theorem dX11_pour_136 : decode cX11_pour 136 = .ok (.invokestatic 176, 3) := by decide +kernel
theorem dX11_pour_139 : decode cX11_pour 139 = .ok (.aload_n 0, 1) := by decide +kernel
theorem dX11_pour_140 : decode cX11_pour 140 = .ok (.invokevirtual 147, 3) := by decide +kernel
theorem dX11_pour_143 : decode cX11_pour 143 = .ok (.ireturn, 1) := by decide +kernel
theorem dX11_feed_0 : decode cX11_feed 0 = .ok (.aload_n 0, 1) := by decide +kernel
theorem dX11_feed_1 : decode cX11_feed 1 = .ok (.getfield 43, 3) := by decide +kernel
theorem dX11_feed_4 : decode cX11_feed 4 = .ok (.getfield 182, 3) := by decide +kernel
theorem dX11_feed_7 : decode cX11_feed 7 = .ok (.bipush 20, 2) := by decide +kernel
theorem dX11_feed_9 : decode cX11_feed 9 = .ok (.iadd, 1) := by decide +kernel
theorem dX11_feed_10 : decode cX11_feed 10 = .ok (.sipush 900, 3) := by decide +kernel
theorem dX11_feed_13 : decode cX11_feed 13 = .ok (.if_icmp .le 5, 3) := by decide +kernel
theorem dX11_feed_16 : decode cX11_feed 16 = .ok (.iconst (-1), 1) := by decide +kernel
theorem dX11_feed_17 : decode cX11_feed 17 = .ok (.ireturn, 1) := by decide +kernel
theorem dX11_feed_18 : decode cX11_feed 18 = .ok (.aload_n 0, 1) := by decide +kernel
