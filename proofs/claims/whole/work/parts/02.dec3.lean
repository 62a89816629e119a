theorem dX12_off_12 : decode cX12_off 12 = .ok (.if_icmp .le 9, 3) := by decide +kernel
theorem dX12_off_15 : decode cX12_off 15 = .ok (.aload_n 0, 1) := by decide +kernel
theorem dX12_off_16 : decode cX12_off 16 = .ok (.iconst 1, 1) := by decide +kernel
theorem dX12_off_17 : decode cX12_off 17 = .ok (.invokevirtual 98, 3) := by decide +kernel
theorem dX12_off_20 : decode cX12_off 20 = .ok (.ireturn, 1) := by decide +kernel
theorem dX12_off_21 : decode cX12_off 21 = .ok (.aload_n 0, 1) := by decide +kernel
theorem dX12_off_22 : decode cX12_off 22 = .ok (.getfield 7, 3) := by decide +kernel
theorem dX12_off_25 : decode cX12_off 25 = .ok (.iconst 4, 1) := by decide +kernel
theorem dX12_off_26 : decode cX12_off 26 = .ok (.iload_n 1, 1) := by decide +kernel
theorem dX12_off_27 : decode cX12_off 27 = .ok (.iastore, 1) := by decide +kernel
theorem dX12_off_28 : decode cX12_off 28 = .ok (.aload_n 0, 1) := by decide +kernel
theorem dX12_off_29 : decode cX12_off 29 = .ok (.iconst 0, 1) := by decide +kernel
theorem dX12_off_30 : decode cX12_off 30 = .ok (.invokevirtual 98, 3) := by decide +kernel
theorem dX12_off_33 : decode cX12_off 33 = .ok (.ireturn, 1) := by decide +kernel
theorem dX12_forget_0 : decode cX12_forget 0 = .ok (.aload_n 0, 1) := by decide +kernel
theorem dX12_forget_1 : decode cX12_forget 1 = .ok (.getfield 7, 3) := by decide +kernel
theorem dX12_forget_4 : decode cX12_forget 4 = .ok (.iconst 3, 1) := by decide +kernel
theorem dX12_forget_5 : decode cX12_forget 5 = .ok (.iconst 0, 1) := by decide +kernel
theorem dX12_forget_6 : decode cX12_forget 6 = .ok (.iastore, 1) := by decide +kernel
theorem dX12_forget_7 : decode cX12_forget 7 = .ok (.aload_n 0, 1) := by decide +kernel
theorem dX12_forget_8 : decode cX12_forget 8 = .ok (.getfield 7, 3) := by decide +kernel
theorem dX12_forget_11 : decode cX12_forget 11 = .ok (.iconst 4, 1) := by decide +kernel
theorem dX12_forget_12 : decode cX12_forget 12 = .ok (.iconst 0, 1) := by decide +kernel
theorem dX12_forget_13 : decode cX12_forget 13 = .ok (.iastore, 1) := by decide +kernel
theorem dX12_forget_14 : decode cX12_forget 14 = .ok (.aload_n 0, 1) := by decide +kernel
theorem dX12_forget_15 : decode cX12_forget 15 = .ok (.invokevirtual 237, 3) := by decide +kernel
theorem dX12_forget_18 : decode cX12_forget 18 = .ok (.aload_n 0, 1) := by decide +kernel
theorem dX12_forget_19 : decode cX12_forget 19 = .ok (.iconst 0, 1) := by decide +kernel
theorem dX12_forget_20 : decode cX12_forget 20 = .ok (.invokevirtual 98, 3) := by decide +kernel
theorem dX12_forget_23 : decode cX12_forget 23 = .ok (.ireturn, 1) := by decide +kernel
theorem dX12_leads_0 : decode cX12_leads 0 = .ok (.iload_n 1, 1) := by decide +kernel
theorem dX12_leads_1 : decode cX12_leads 1 = .ok (.aload_n 0, 1) := by decide +kernel
theorem dX12_leads_2 : decode cX12_leads 2 = .ok (.getfield 7, 3) := by decide +kernel
theorem dX12_leads_5 : decode cX12_leads 5 = .ok (.iconst 0, 1) := by decide +kernel
theorem dX12_leads_6 : decode cX12_leads 6 = .ok (.iaload, 1) := by decide +kernel
theorem dX12_leads_7 : decode cX12_leads 7 = .ok (.irem, 1) := by decide +kernel
theorem dX12_leads_8 : decode cX12_leads 8 = .ok (.iload_n 2, 1) := by decide +kernel
theorem dX12_leads_9 : decode cX12_leads 9 = .ok (.ifCond .eq 14, 3) := by decide +kernel
theorem dX12_leads_12 : decode cX12_leads 12 = .ok (.iload_n 2, 1) := by decide +kernel
theorem dX12_leads_13 : decode cX12_leads 13 = .ok (.iconst 1, 1) := by decide +kernel
theorem dX12_leads_14 : decode cX12_leads 14 = .ok (.if_icmp .eq 9, 3) := by decide +kernel
theorem dX12_leads_17 : decode cX12_leads 17 = .ok (.iload_n 2, 1) := by decide +kernel
theorem dX12_leads_18 : decode cX12_leads 18 = .ok (.bipush 7, 2) := by decide +kernel
theorem dX12_leads_20 : decode cX12_leads 20 = .ok (.if_icmp .ne 7, 3) := by decide +kernel
theorem dX12_leads_23 : decode cX12_leads 23 = .ok (.iconst 1, 1) := by decide +kernel
theorem dX12_leads_24 : decode cX12_leads 24 = .ok (.goto 18, 3) := by decide +kernel
theorem dX12_leads_27 : decode cX12_leads 27 = .ok (.iload_n 2, 1) := by decide +kernel
theorem dX12_leads_28 : decode cX12_leads 28 = .ok (.iconst 3, 1) := by decide +kernel
theorem dX12_leads_29 : decode cX12_leads 29 = .ok (.if_icmp .lt 12, 3) := by decide +kernel
theorem dX12_leads_32 : decode cX12_leads 32 = .ok (.iload_n 2, 1) := by decide +kernel
theorem dX12_leads_33 : decode cX12_leads 33 = .ok (.iconst 5, 1) := by decide +kernel
theorem dX12_leads_34 : decode cX12_leads 34 = .ok (.if_icmp .gt 7, 3) := by decide +kernel
theorem dX12_leads_37 : decode cX12_leads 37 = .ok (.iconst (-1), 1) := by decide +kernel
theorem dX12_leads_38 : decode cX12_leads 38 = .ok (.goto 4, 3) := by decide +kernel
theorem dX12_leads_41 : decode cX12_leads 41 = .ok (.iconst 0, 1) := by decide +kernel
theorem dX12_leads_42 : decode cX12_leads 42 = .ok (.iadd, 1) := by decide +kernel
theorem dX12_leads_43 : decode cX12_leads 43 = .ok (.istore_n 3, 1) := by decide +kernel
theorem dX12_leads_44 : decode cX12_leads 44 = .ok (.iload_n 1, 1) := by decide +kernel
theorem dX12_leads_45 : decode cX12_leads 45 = .ok (.aload_n 0, 1) := by decide +kernel
theorem dX12_leads_46 : decode cX12_leads 46 = .ok (.getfield 7, 3) := by decide +kernel
theorem dX12_leads_49 : decode cX12_leads 49 = .ok (.iconst 0, 1) := by decide +kernel
theorem dX12_leads_50 : decode cX12_leads 50 = .ok (.iaload, 1) := by decide +kernel
theorem dX12_leads_51 : decode cX12_leads 51 = .ok (.idiv, 1) := by decide +kernel
theorem dX12_leads_52 : decode cX12_leads 52 = .ok (.iload_n 2, 1) := by decide +kernel
theorem dX12_leads_53 : decode cX12_leads 53 = .ok (.iconst 1, 1) := by decide +kernel
theorem dX12_leads_54 : decode cX12_leads 54 = .ok (.if_icmp .lt 12, 3) := by decide +kernel
theorem dX12_leads_57 : decode cX12_leads 57 = .ok (.iload_n 2, 1) := by decide +kernel
theorem dX12_leads_58 : decode cX12_leads 58 = .ok (.iconst 3, 1) := by decide +kernel
theorem dX12_leads_59 : decode cX12_leads 59 = .ok (.if_icmp .gt 7, 3) := by decide +kernel
theorem dX12_leads_62 : decode cX12_leads 62 = .ok (.iconst 1, 1) := by decide +kernel
theorem dX12_leads_63 : decode cX12_leads 63 = .ok (.goto 13, 3) := by decide +kernel
theorem dX12_leads_66 : decode cX12_leads 66 = .ok (.iload_n 2, 1) := by decide +kernel
theorem dX12_leads_67 : decode cX12_leads 67 = .ok (.iconst 5, 1) := by decide +kernel
theorem dX12_leads_68 : decode cX12_leads 68 = .ok (.if_icmp .lt 7, 3) := by decide +kernel
theorem dX12_leads_71 : decode cX12_leads 71 = .ok (.iconst (-1), 1) := by decide +kernel
theorem dX12_leads_72 : decode cX12_leads 72 = .ok (.goto 4, 3) := by decide +kernel
theorem dX12_leads_75 : decode cX12_leads 75 = .ok (.iconst 0, 1) := by decide +kernel
theorem dX12_leads_76 : decode cX12_leads 76 = .ok (.iadd, 1) := by decide +kernel
theorem dX12_leads_77 : decode cX12_leads 77 = .ok (.istore 4, 2) := by decide +kernel
theorem dX12_leads_79 : decode cX12_leads 79 = .ok (.iload_n 3, 1) := by decide +kernel
theorem dX12_leads_80 : decode cX12_leads 80 = .ok (.ifCond .lt 29, 3) := by decide +kernel
theorem dX12_leads_83 : decode cX12_leads 83 = .ok (.iload 4, 2) := by decide +kernel
theorem dX12_leads_85 : decode cX12_leads 85 = .ok (.ifCond .lt 24, 3) := by decide +kernel
theorem dX12_leads_88 : decode cX12_leads 88 = .ok (.iload_n 3, 1) := by decide +kernel
theorem dX12_leads_89 : decode cX12_leads 89 = .ok (.aload_n 0, 1) := by decide +kernel
theorem dX12_leads_90 : decode cX12_leads 90 = .ok (.getfield 7, 3) := by decide +kernel
theorem dX12_leads_93 : decode cX12_leads 93 = .ok (.iconst 0, 1) := by decide +kernel
theorem dX12_leads_94 : decode cX12_leads 94 = .ok (.iaload, 1) := by decide +kernel
theorem dX12_leads_95 : decode cX12_leads 95 = .ok (.if_icmp .ge 14, 3) := by decide +kernel
theorem dX12_leads_98 : decode cX12_leads 98 = .ok (.iload 4, 2) := by decide +kernel
theorem dX12_leads_100 : decode cX12_leads 100 = .ok (.aload_n 0, 1) := by decide +kernel
theorem dX12_leads_101 : decode cX12_leads 101 = .ok (.getfield 7, 3) := by decide +kernel
theorem dX12_leads_104 : decode cX12_leads 104 = .ok (.iconst 1, 1) := by decide +kernel
theorem dX12_leads_105 : decode cX12_leads 105 = .ok (.iaload, 1) := by decide +kernel
theorem dX12_leads_106 : decode cX12_leads 106 = .ok (.if_icmp .lt 7, 3) := by decide +kernel
theorem dX12_leads_109 : decode cX12_leads 109 = .ok (.iconst (-1), 1) := by decide +kernel
theorem dX12_leads_110 : decode cX12_leads 110 = .ok (.goto 14, 3) := by decide +kernel
theorem dX12_leads_113 : decode cX12_leads 113 = .ok (.aload_n 0, 1) := by decide +kernel
theorem dX12_leads_114 : decode cX12_leads 114 = .ok (.getfield 7, 3) := by decide +kernel
theorem dX12_leads_117 : decode cX12_leads 117 = .ok (.iconst 0, 1) := by decide +kernel
theorem dX12_leads_118 : decode cX12_leads 118 = .ok (.iaload, 1) := by decide +kernel
theorem dX12_leads_119 : decode cX12_leads 119 = .ok (.iload 4, 2) := by decide +kernel
theorem dX12_leads_121 : decode cX12_leads 121 = .ok (.imul, 1) := by decide +kernel
theorem dX12_leads_122 : decode cX12_leads 122 = .ok (.iload_n 3, 1) := by decide +kernel
theorem dX12_leads_123 : decode cX12_leads 123 = .ok (.iadd, 1) := by decide +kernel
theorem dX12_leads_124 : decode cX12_leads 124 = .ok (.ireturn, 1) := by decide +kernel
theorem dX12_headingTo_0 : decode cX12_headingTo 0 = .ok (.iconst 0, 1) := by decide +kernel
theorem dX12_headingTo_1 : decode cX12_headingTo 1 = .ok (.istore_n 3, 1) := by decide +kernel
theorem dX12_headingTo_2 : decode cX12_headingTo 2 = .ok (.iload_n 3, 1) := by decide +kernel
theorem dX12_headingTo_3 : decode cX12_headingTo 3 = .ok (.bipush 8, 2) := by decide +kernel
theorem dX12_headingTo_5 : decode cX12_headingTo 5 = .ok (.if_icmp .ge 21, 3) := by decide +kernel
theorem dX12_headingTo_8 : decode cX12_headingTo 8 = .ok (.aload_n 0, 1) := by decide +kernel
theorem dX12_headingTo_9 : decode cX12_headingTo 9 = .ok (.iload_n 1, 1) := by decide +kernel
theorem dX12_headingTo_10 : decode cX12_headingTo 10 = .ok (.iload_n 3, 1) := by decide +kernel
theorem dX12_headingTo_11 : decode cX12_headingTo 11 = .ok (.invokevirtual 333, 3) := by decide +kernel
theorem dX12_headingTo_14 : decode cX12_headingTo 14 = .ok (.iload_n 2, 1) := by decide +kernel
theorem dX12_headingTo_15 : decode cX12_headingTo 15 = .ok (.if_icmp .ne 5, 3) := by decide +kernel
theorem dX12_headingTo_18 : decode cX12_headingTo 18 = .ok (.iload_n 3, 1) := by decide +kernel
theorem dX12_headingTo_19 : decode cX12_headingTo 19 = .ok (.ireturn, 1) := by decide +kernel
theorem dX12_headingTo_20 : decode cX12_headingTo 20 = .ok (.iinc 3 1, 3) := by decide +kernel
theorem dX12_headingTo_23 : decode cX12_headingTo 23 = .ok (.goto (-21), 3) := by decide +kernel
theorem dX12_headingTo_26 : decode cX12_headingTo 26 = .ok (.iconst (-1), 1) := by decide +kernel
theorem dX12_headingTo_27 : decode cX12_headingTo 27 = .ok (.ireturn, 1) := by decide +kernel
theorem dX12_stepMinutes_0 : decode cX12_stepMinutes 0 = .ok (.iload_n 1, 1) := by decide +kernel
theorem dX12_stepMinutes_1 : decode cX12_stepMinutes 1 = .ok (.iload_n 2, 1) := by decide +kernel
theorem dX12_stepMinutes_2 : decode cX12_stepMinutes 2 = .ok (.isub, 1) := by decide +kernel
theorem dX12_stepMinutes_3 : decode cX12_stepMinutes 3 = .ok (.invokestatic 336, 3) := by decide +kernel
theorem dX12_stepMinutes_6 : decode cX12_stepMinutes 6 = .ok (.istore_n 3, 1) := by decide +kernel
theorem dX12_stepMinutes_7 : decode cX12_stepMinutes 7 = .ok (.iload_n 2, 1) := by decide +kernel
theorem dX12_stepMinutes_8 : decode cX12_stepMinutes 8 = .ok (.iconst 2, 1) := by decide +kernel
theorem dX12_stepMinutes_9 : decode cX12_stepMinutes 9 = .ok (.irem, 1) := by decide +kernel
theorem dX12_stepMinutes_10 : decode cX12_stepMinutes 10 = .ok (.ifCond .ne 13, 3) := by decide +kernel
theorem dX12_stepMinutes_13 : decode cX12_stepMinutes 13 = .ok (.aload_n 0, 1) := by decide +kernel
theorem dX12_stepMinutes_14 : decode cX12_stepMinutes 14 = .ok (.getfield 7, 3) := by decide +kernel
theorem dX12_stepMinutes_17 : decode cX12_stepMinutes 17 = .ok (.bipush 7, 2) := by decide +kernel
theorem dX12_stepMinutes_19 : decode cX12_stepMinutes 19 = .ok (.iaload, 1) := by decide +kernel
theorem dX12_stepMinutes_20 : decode cX12_stepMinutes 20 = .ok (.goto 10, 3) := by decide +kernel
theorem dX12_stepMinutes_23 : decode cX12_stepMinutes 23 = .ok (.aload_n 0, 1) := by decide +kernel
theorem dX12_stepMinutes_24 : decode cX12_stepMinutes 24 = .ok (.getfield 7, 3) := by decide +kernel
theorem dX12_stepMinutes_27 : decode cX12_stepMinutes 27 = .ok (.bipush 8, 2) := by decide +kernel
theorem dX12_stepMinutes_29 : decode cX12_stepMinutes 29 = .ok (.iaload, 1) := by decide +kernel
theorem dX12_stepMinutes_30 : decode cX12_stepMinutes 30 = .ok (.iload_n 1, 1) := by decide +kernel
theorem dX12_stepMinutes_31 : decode cX12_stepMinutes 31 = .ok (.bipush 8, 2) := by decide +kernel
theorem dX12_stepMinutes_33 : decode cX12_stepMinutes 33 = .ok (.if_icmp .ne 7, 3) := by decide +kernel
theorem dX12_stepMinutes_36 : decode cX12_stepMinutes 36 = .ok (.iconst 0, 1) := by decide +kernel
theorem dX12_stepMinutes_37 : decode cX12_stepMinutes 37 = .ok (.goto 19, 3) := by decide +kernel
theorem dX12_stepMinutes_40 : decode cX12_stepMinutes 40 = .ok (.aload_n 0, 1) := by decide +kernel
theorem dX12_stepMinutes_41 : decode cX12_stepMinutes 41 = .ok (.getfield 7, 3) := by decide +kernel
theorem dX12_stepMinutes_44 : decode cX12_stepMinutes 44 = .ok (.bipush 9, 2) := by decide +kernel
theorem dX12_stepMinutes_46 : decode cX12_stepMinutes 46 = .ok (.iaload, 1) := by decide +kernel
theorem dX12_stepMinutes_47 : decode cX12_stepMinutes 47 = .ok (.iload_n 3, 1) := by decide +kernel
theorem dX12_stepMinutes_48 : decode cX12_stepMinutes 48 = .ok (.bipush 8, 2) := by decide +kernel
theorem dX12_stepMinutes_50 : decode cX12_stepMinutes 50 = .ok (.iload_n 3, 1) := by decide +kernel
theorem dX12_stepMinutes_51 : decode cX12_stepMinutes 51 = .ok (.isub, 1) := by decide +kernel
theorem dX12_stepMinutes_52 : decode cX12_stepMinutes 52 = .ok (.invokestatic 147, 3) := by decide +kernel
theorem dX12_stepMinutes_55 : decode cX12_stepMinutes 55 = .ok (.imul, 1) := by decide +kernel
theorem dX12_stepMinutes_56 : decode cX12_stepMinutes 56 = .ok (.iadd, 1) := by decide +kernel
theorem dX12_stepMinutes_57 : decode cX12_stepMinutes 57 = .ok (.ireturn, 1) := by decide +kernel
theorem dX12_wrongWay_0 : decode cX12_wrongWay 0 = .ok (.iload_n 1, 1) := by decide +kernel
theorem dX12_wrongWay_1 : decode cX12_wrongWay 1 = .ok (.invokestatic 102, 3) := by decide +kernel
theorem dX12_wrongWay_4 : decode cX12_wrongWay 4 = .ok (.ifCond .eq 14, 3) := by decide +kernel
theorem dX12_wrongWay_7 : decode cX12_wrongWay 7 = .ok (.iload_n 2, 1) := by decide +kernel
theorem dX12_wrongWay_8 : decode cX12_wrongWay 8 = .ok (.iconst 1, 1) := by decide +kernel
theorem dX12_wrongWay_9 : decode cX12_wrongWay 9 = .ok (.if_icmp .lt 9, 3) := by decide +kernel
theorem dX12_wrongWay_12 : decode cX12_wrongWay 12 = .ok (.iload_n 2, 1) := by decide +kernel
theorem dX12_wrongWay_13 : decode cX12_wrongWay 13 = .ok (.bipush 40, 2) := by decide +kernel
theorem dX12_wrongWay_15 : decode cX12_wrongWay 15 = .ok (.if_icmp .le 5, 3) := by decide +kernel
theorem dX12_wrongWay_18 : decode cX12_wrongWay 18 = .ok (.iconst 1, 1) := by decide +kernel
theorem dX12_wrongWay_19 : decode cX12_wrongWay 19 = .ok (.ireturn, 1) := by decide +kernel
theorem dX12_wrongWay_20 : decode cX12_wrongWay 20 = .ok (.aload_n 0, 1) := by decide +kernel
theorem dX12_wrongWay_21 : decode cX12_wrongWay 21 = .ok (.getfield 24, 3) := by decide +kernel
theorem dX12_wrongWay_24 : decode cX12_wrongWay 24 = .ok (.iload_n 1, 1) := by decide +kernel
theorem dX12_wrongWay_25 : decode cX12_wrongWay 25 = .ok (.iaload, 1) := by decide +kernel
theorem dX12_wrongWay_26 : decode cX12_wrongWay 26 = .ok (.iconst (-1), 1) := by decide +kernel
theorem dX12_wrongWay_27 : decode cX12_wrongWay 27 = .ok (.if_icmp .ne 5, 3) := by decide +kernel
theorem dX12_wrongWay_30 : decode cX12_wrongWay 30 = .ok (.iconst 2, 1) := by decide +kernel
theorem dX12_wrongWay_31 : decode cX12_wrongWay 31 = .ok (.ireturn, 1) := by decide +kernel
theorem dX12_wrongWay_32 : decode cX12_wrongWay 32 = .ok (.aload_n 0, 1) := by decide +kernel
theorem dX12_wrongWay_33 : decode cX12_wrongWay 33 = .ok (.getfield 24, 3) := by decide +kernel
theorem dX12_wrongWay_36 : decode cX12_wrongWay 36 = .ok (.iload_n 1, 1) := by decide +kernel
theorem dX12_wrongWay_37 : decode cX12_wrongWay 37 = .ok (.iaload, 1) := by decide +kernel
theorem dX12_wrongWay_38 : decode cX12_wrongWay 38 = .ok (.iload_n 2, 1) := by decide +kernel
theorem dX12_wrongWay_39 : decode cX12_wrongWay 39 = .ok (.if_icmp .ge 5, 3) := by decide +kernel
theorem dX12_wrongWay_42 : decode cX12_wrongWay 42 = .ok (.iconst 3, 1) := by decide +kernel
theorem dX12_wrongWay_43 : decode cX12_wrongWay 43 = .ok (.ireturn, 1) := by decide +kernel
theorem dX12_wrongWay_44 : decode cX12_wrongWay 44 = .ok (.bipush 60, 2) := by decide +kernel
theorem dX12_wrongWay_46 : decode cX12_wrongWay 46 = .ok (.iload_n 1, 1) := by decide +kernel
theorem dX12_wrongWay_47 : decode cX12_wrongWay 47 = .ok (.imul, 1) := by decide +kernel
theorem dX12_wrongWay_48 : decode cX12_wrongWay 48 = .ok (.istore_n 3, 1) := by decide +kernel
theorem dX12_wrongWay_49 : decode cX12_wrongWay 49 = .ok (.iconst 0, 1) := by decide +kernel
theorem dX12_wrongWay_50 : decode cX12_wrongWay 50 = .ok (.istore 4, 2) := by decide +kernel
theorem dX12_wrongWay_52 : decode cX12_wrongWay 52 = .ok (.iload 4, 2) := by decide +kernel
theorem dX12_wrongWay_54 : decode cX12_wrongWay 54 = .ok (.iload_n 2, 1) := by decide +kernel
theorem dX12_wrongWay_55 : decode cX12_wrongWay 55 = .ok (.if_icmp .ge 64, 3) := by decide +kernel
theorem dX12_wrongWay_58 : decode cX12_wrongWay 58 = .ok (.aload_n 0, 1) := by decide +kernel
theorem dX12_wrongWay_59 : decode cX12_wrongWay 59 = .ok (.aload_n 0, 1) := by decide +kernel
theorem dX12_wrongWay_60 : decode cX12_wrongWay 60 = .ok (.getfield 27, 3) := by decide +kernel
theorem dX12_wrongWay_63 : decode cX12_wrongWay 63 = .ok (.iload_n 3, 1) := by decide +kernel
theorem dX12_wrongWay_64 : decode cX12_wrongWay 64 = .ok (.iload 4, 2) := by decide +kernel
theorem dX12_wrongWay_66 : decode cX12_wrongWay 66 = .ok (.iadd, 1) := by decide +kernel
theorem dX12_wrongWay_67 : decode cX12_wrongWay 67 = .ok (.laload, 1) := by decide +kernel
theorem dX12_wrongWay_68 : decode cX12_wrongWay 68 = .ok (.invokevirtual 275, 3) := by decide +kernel
theorem dX12_wrongWay_71 : decode cX12_wrongWay 71 = .ok (.ifCond .ne 5, 3) := by decide +kernel
theorem dX12_wrongWay_74 : decode cX12_wrongWay 74 = .ok (.iconst 5, 1) := by decide +kernel
theorem dX12_wrongWay_75 : decode cX12_wrongWay 75 = .ok (.ireturn, 1) := by decide +kernel
theorem dX12_wrongWay_76 : decode cX12_wrongWay 76 = .ok (.iload 4, 2) := by decide +kernel
theorem dX12_wrongWay_78 : decode cX12_wrongWay 78 = .ok (.ifCond .le 35, 3) := by decide +kernel
theorem dX12_wrongWay_81 : decode cX12_wrongWay 81 = .ok (.aload_n 0, 1) := by decide +kernel
theorem dX12_wrongWay_82 : decode cX12_wrongWay 82 = .ok (.aload_n 0, 1) := by decide +kernel
theorem dX12_wrongWay_83 : decode cX12_wrongWay 83 = .ok (.getfield 27, 3) := by decide +kernel
theorem dX12_wrongWay_86 : decode cX12_wrongWay 86 = .ok (.iload_n 3, 1) := by decide +kernel
theorem dX12_wrongWay_87 : decode cX12_wrongWay 87 = .ok (.iload 4, 2) := by decide +kernel
theorem dX12_wrongWay_89 : decode cX12_wrongWay 89 = .ok (.iadd, 1) := by decide +kernel
theorem dX12_wrongWay_90 : decode cX12_wrongWay 90 = .ok (.iconst 1, 1) := by decide +kernel
theorem dX12_wrongWay_91 : decode cX12_wrongWay 91 = .ok (.isub, 1) := by decide +kernel
theorem dX12_wrongWay_92 : decode cX12_wrongWay 92 = .ok (.laload, 1) := by decide +kernel
theorem dX12_wrongWay_93 : decode cX12_wrongWay 93 = .ok (.l2i, 1) := by decide +kernel
theorem dX12_wrongWay_94 : decode cX12_wrongWay 94 = .ok (.aload_n 0, 1) := by decide +kernel
theorem dX12_wrongWay_95 : decode cX12_wrongWay 95 = .ok (.getfield 27, 3) := by decide +kernel
theorem dX12_wrongWay_98 : decode cX12_wrongWay 98 = .ok (.iload_n 3, 1) := by decide +kernel
theorem dX12_wrongWay_99 : decode cX12_wrongWay 99 = .ok (.iload 4, 2) := by decide +kernel
theorem dX12_wrongWay_101 : decode cX12_wrongWay 101 = .ok (.iadd, 1) := by decide +kernel
theorem dX12_wrongWay_102 : decode cX12_wrongWay 102 = .ok (.laload, 1) := by decide +kernel
theorem dX12_wrongWay_103 : decode cX12_wrongWay 103 = .ok (.l2i, 1) := by decide +kernel
theorem dX12_wrongWay_104 : decode cX12_wrongWay 104 = .ok (.invokevirtual 339, 3) := by decide +kernel
theorem dX12_wrongWay_107 : decode cX12_wrongWay 107 = .ok (.iconst (-1), 1) := by decide +kernel
theorem dX12_wrongWay_108 : decode cX12_wrongWay 108 = .ok (.if_icmp .ne 5, 3) := by decide +kernel
theorem dX12_wrongWay_111 : decode cX12_wrongWay 111 = .ok (.iconst 5, 1) := by decide +kernel
theorem dX12_wrongWay_112 : decode cX12_wrongWay 112 = .ok (.ireturn, 1) := by decide +kernel
theorem dX12_wrongWay_113 : decode cX12_wrongWay 113 = .ok (.iinc 4 1, 3) := by decide +kernel
theorem dX12_wrongWay_116 : decode cX12_wrongWay 116 = .ok (.goto (-64), 3) := by decide +kernel
theorem dX12_wrongWay_119 : decode cX12_wrongWay 119 = .ok (.iconst 0, 1) := by decide +kernel
theorem dX12_wrongWay_120 : decode cX12_wrongWay 120 = .ok (.ireturn, 1) := by decide +kernel
theorem dX12_minutes_0 : decode cX12_minutes 0 = .ok (.aload_n 0, 1) := by decide +kernel
theorem dX12_minutes_1 : decode cX12_minutes 1 = .ok (.iload_n 1, 1) := by decide +kernel
theorem dX12_minutes_2 : decode cX12_minutes 2 = .ok (.iload_n 2, 1) := by decide +kernel
theorem dX12_minutes_3 : decode cX12_minutes 3 = .ok (.invokevirtual 342, 3) := by decide +kernel
theorem dX12_minutes_6 : decode cX12_minutes 6 = .ok (.istore_n 3, 1) := by decide +kernel
theorem dX12_minutes_7 : decode cX12_minutes 7 = .ok (.iload_n 3, 1) := by decide +kernel
theorem dX12_minutes_8 : decode cX12_minutes 8 = .ok (.ifCond .le 9, 3) := by decide +kernel
theorem dX12_minutes_11 : decode cX12_minutes 11 = .ok (.aload_n 0, 1) := by decide +kernel
theorem dX12_minutes_12 : decode cX12_minutes 12 = .ok (.iload_n 3, 1) := by decide +kernel
theorem dX12_minutes_13 : decode cX12_minutes 13 = .ok (.invokevirtual 185, 3) := by decide +kernel
theorem dX12_minutes_16 : decode cX12_minutes 16 = .ok (.ireturn, 1) := by decide +kernel
theorem dX12_minutes_17 : decode cX12_minutes 17 = .ok (.bipush 60, 2) := by decide +kernel
theorem dX12_minutes_19 : decode cX12_minutes 19 = .ok (.iload_n 1, 1) := by decide +kernel
theorem dX12_minutes_20 : decode cX12_minutes 20 = .ok (.imul, 1) := by decide +kernel
theorem dX12_minutes_21 : decode cX12_minutes 21 = .ok (.istore 4, 2) := by decide +kernel
theorem dX12_minutes_23 : decode cX12_minutes 23 = .ok (.iconst 0, 1) := by decide +kernel
theorem dX12_minutes_24 : decode cX12_minutes 24 = .ok (.istore 5, 2) := by decide +kernel
theorem dX12_minutes_26 : decode cX12_minutes 26 = .ok (.bipush 8, 2) := by decide +kernel
theorem dX12_minutes_28 : decode cX12_minutes 28 = .ok (.istore 6, 2) := by decide +kernel
theorem dX12_minutes_30 : decode cX12_minutes 30 = .ok (.iconst 1, 1) := by decide +kernel
theorem dX12_minutes_31 : decode cX12_minutes 31 = .ok (.istore 7, 2) := by decide +kernel
theorem dX12_minutes_33 : decode cX12_minutes 33 = .ok (.iload 7, 2) := by decide +kernel
theorem dX12_minutes_35 : decode cX12_minutes 35 = .ok (.iload_n 2, 1) := by decide +kernel
theorem dX12_minutes_36 : decode cX12_minutes 36 = .ok (.if_icmp .ge 56, 3) := by decide +kernel
theorem dX12_minutes_39 : decode cX12_minutes 39 = .ok (.aload_n 0, 1) := by decide +kernel
theorem dX12_minutes_40 : decode cX12_minutes 40 = .ok (.aload_n 0, 1) := by decide +kernel
theorem dX12_minutes_41 : decode cX12_minutes 41 = .ok (.getfield 27, 3) := by decide +kernel
theorem dX12_minutes_44 : decode cX12_minutes 44 = .ok (.iload 4, 2) := by decide +kernel
theorem dX12_minutes_46 : decode cX12_minutes 46 = .ok (.iload 7, 2) := by decide +kernel
theorem dX12_minutes_48 : decode cX12_minutes 48 = .ok (.iadd, 1) := by decide +kernel
theorem dX12_minutes_49 : decode cX12_minutes 49 = .ok (.iconst 1, 1) := by decide +kernel
theorem dX12_minutes_50 : decode cX12_minutes 50 = .ok (.isub, 1) := by decide +kernel
theorem dX12_minutes_51 : decode cX12_minutes 51 = .ok (.laload, 1) := by decide +kernel
theorem dX12_minutes_52 : decode cX12_minutes 52 = .ok (.l2i, 1) := by decide +kernel
theorem dX12_minutes_53 : decode cX12_minutes 53 = .ok (.aload_n 0, 1) := by decide +kernel
theorem dX12_minutes_54 : decode cX12_minutes 54 = .ok (.getfield 27, 3) := by decide +kernel
theorem dX12_minutes_57 : decode cX12_minutes 57 = .ok (.iload 4, 2) := by decide +kernel
theorem dX12_minutes_59 : decode cX12_minutes 59 = .ok (.iload 7, 2) := by decide +kernel
theorem dX12_minutes_61 : decode cX12_minutes 61 = .ok (.iadd, 1) := by decide +kernel
theorem dX12_minutes_62 : decode cX12_minutes 62 = .ok (.laload, 1) := by decide +kernel
theorem dX12_minutes_63 : decode cX12_minutes 63 = .ok (.l2i, 1) := by decide +kernel
theorem dX12_minutes_64 : decode cX12_minutes 64 = .ok (.invokevirtual 339, 3) := by decide +kernel
theorem dX12_minutes_67 : decode cX12_minutes 67 = .ok (.istore 8, 2) := by decide +kernel
theorem dX12_minutes_69 : decode cX12_minutes 69 = .ok (.iload 5, 2) := by decide +kernel
theorem dX12_minutes_71 : decode cX12_minutes 71 = .ok (.aload_n 0, 1) := by decide +kernel
theorem dX12_minutes_72 : decode cX12_minutes 72 = .ok (.iload 6, 2) := by decide +kernel
theorem dX12_minutes_74 : decode cX12_minutes 74 = .ok (.iload 8, 2) := by decide +kernel
theorem dX12_minutes_76 : decode cX12_minutes 76 = .ok (.invokevirtual 345, 3) := by decide +kernel
theorem dX12_minutes_79 : decode cX12_minutes 79 = .ok (.iadd, 1) := by decide +kernel
theorem dX12_minutes_80 : decode cX12_minutes 80 = .ok (.istore 5, 2) := by decide +kernel
theorem dX12_minutes_82 : decode cX12_minutes 82 = .ok (.iload 8, 2) := by decide +kernel
theorem dX12_minutes_84 : decode cX12_minutes 84 = .ok (.istore 6, 2) := by decide +kernel
theorem dX12_minutes_86 : decode cX12_minutes 86 = .ok (.iinc 7 1, 3) := by decide +kernel
theorem dX12_minutes_89 : decode cX12_minutes 89 = .ok (.goto (-56), 3) := by decide +kernel
theorem dX12_minutes_92 : decode cX12_minutes 92 = .ok (.aload_n 0, 1) := by decide +kernel
theorem dX12_minutes_93 : decode cX12_minutes 93 = .ok (.iload 5, 2) := by decide +kernel
theorem dX12_minutes_95 : decode cX12_minutes 95 = .ok (.invokevirtual 188, 3) := by decide +kernel
theorem dX12_minutes_98 : decode cX12_minutes 98 = .ok (.ireturn, 1) := by decide +kernel
theorem dX12_struckAt_0 : decode cX12_struckAt 0 = .ok (.iconst 0, 1) := by decide +kernel
theorem dX12_struckAt_1 : decode cX12_struckAt 1 = .ok (.istore 4, 2) := by decide +kernel
theorem dX12_struckAt_3 : decode cX12_struckAt 3 = .ok (.iload 4, 2) := by decide +kernel
theorem dX12_struckAt_5 : decode cX12_struckAt 5 = .ok (.iload_n 2, 1) := by decide +kernel
theorem dX12_struckAt_6 : decode cX12_struckAt 6 = .ok (.if_icmp .ge 33, 3) := by decide +kernel
theorem dX12_struckAt_9 : decode cX12_struckAt 9 = .ok (.aload_n 0, 1) := by decide +kernel
theorem dX12_struckAt_10 : decode cX12_struckAt 10 = .ok (.aload_n 0, 1) := by decide +kernel
theorem dX12_struckAt_11 : decode cX12_struckAt 11 = .ok (.getfield 27, 3) := by decide +kernel
theorem dX12_struckAt_14 : decode cX12_struckAt 14 = .ok (.bipush 60, 2) := by decide +kernel
theorem dX12_struckAt_16 : decode cX12_struckAt 16 = .ok (.iload_n 1, 1) := by decide +kernel
theorem dX12_struckAt_17 : decode cX12_struckAt 17 = .ok (.imul, 1) := by decide +kernel
theorem dX12_struckAt_18 : decode cX12_struckAt 18 = .ok (.iload 4, 2) := by decide +kernel
theorem dX12_struckAt_20 : decode cX12_struckAt 20 = .ok (.iadd, 1) := by decide +kernel
theorem dX12_struckAt_21 : decode cX12_struckAt 21 = .ok (.laload, 1) := by decide +kernel
theorem dX12_struckAt_22 : decode cX12_struckAt 22 = .ok (.l2i, 1) := by decide +kernel
theorem dX12_struckAt_23 : decode cX12_struckAt 23 = .ok (.iload_n 3, 1) := by decide +kernel
theorem dX12_struckAt_24 : decode cX12_struckAt 24 = .ok (.invokevirtual 294, 3) := by decide +kernel
theorem dX12_struckAt_27 : decode cX12_struckAt 27 = .ok (.ifCond .ne 6, 3) := by decide +kernel
theorem dX12_struckAt_30 : decode cX12_struckAt 30 = .ok (.iload 4, 2) := by decide +kernel
theorem dX12_struckAt_32 : decode cX12_struckAt 32 = .ok (.ireturn, 1) := by decide +kernel
theorem dX12_struckAt_33 : decode cX12_struckAt 33 = .ok (.iinc 4 1, 3) := by decide +kernel
theorem dX12_struckAt_36 : decode cX12_struckAt 36 = .ok (.goto (-33), 3) := by decide +kernel
theorem dX12_struckAt_39 : decode cX12_struckAt 39 = .ok (.iconst (-1), 1) := by decide +kernel
theorem dX12_struckAt_40 : decode cX12_struckAt 40 = .ok (.ireturn, 1) := by decide +kernel
theorem dX12_struck_0 : decode cX12_struck 0 = .ok (.aload_n 0, 1) := by decide +kernel
theorem dX12_struck_1 : decode cX12_struck 1 = .ok (.iload_n 3, 1) := by decide +kernel
theorem dX12_struck_2 : decode cX12_struck 2 = .ok (.invokevirtual 288, 3) := by decide +kernel
theorem dX12_struck_5 : decode cX12_struck 5 = .ok (.ifCond .ne 9, 3) := by decide +kernel
theorem dX12_struck_8 : decode cX12_struck 8 = .ok (.aload_n 0, 1) := by decide +kernel
theorem dX12_struck_9 : decode cX12_struck 9 = .ok (.iconst 1, 1) := by decide +kernel
theorem dX12_struck_10 : decode cX12_struck 10 = .ok (.invokevirtual 185, 3) := by decide +kernel
theorem dX12_struck_13 : decode cX12_struck 13 = .ok (.ireturn, 1) := by decide +kernel
theorem dX12_struck_14 : decode cX12_struck 14 = .ok (.aload_n 0, 1) := by decide +kernel
theorem dX12_struck_15 : decode cX12_struck 15 = .ok (.iload_n 1, 1) := by decide +kernel
theorem dX12_struck_16 : decode cX12_struck 16 = .ok (.iload_n 2, 1) := by decide +kernel
theorem dX12_struck_17 : decode cX12_struck 17 = .ok (.invokevirtual 342, 3) := by decide +kernel
theorem dX12_struck_20 : decode cX12_struck 20 = .ok (.istore 4, 2) := by decide +kernel
theorem dX12_struck_22 : decode cX12_struck 22 = .ok (.iload 4, 2) := by decide +kernel
theorem dX12_struck_24 : decode cX12_struck 24 = .ok (.ifCond .le 10, 3) := by decide +kernel
theorem dX12_struck_27 : decode cX12_struck 27 = .ok (.aload_n 0, 1) := by decide +kernel
theorem dX12_struck_28 : decode cX12_struck 28 = .ok (.iload 4, 2) := by decide +kernel
theorem dX12_struck_30 : decode cX12_struck 30 = .ok (.invokevirtual 185, 3) := by decide +kernel
theorem dX12_struck_33 : decode cX12_struck 33 = .ok (.ireturn, 1) := by decide +kernel
theorem dX12_struck_34 : decode cX12_struck 34 = .ok (.aload_n 0, 1) := by decide +kernel
theorem dX12_struck_35 : decode cX12_struck 35 = .ok (.iload_n 1, 1) := by decide +kernel
theorem dX12_struck_36 : decode cX12_struck 36 = .ok (.iload_n 2, 1) := by decide +kernel
theorem dX12_struck_37 : decode cX12_struck 37 = .ok (.iload_n 3, 1) := by decide +kernel
theorem dX12_struck_38 : decode cX12_struck 38 = .ok (.invokevirtual 348, 3) := by decide +kernel
theorem dX12_struck_41 : decode cX12_struck 41 = .ok (.istore 5, 2) := by decide +kernel
theorem dX12_struck_43 : decode cX12_struck 43 = .ok (.iload 5, 2) := by decide +kernel
theorem dX12_struck_45 : decode cX12_struck 45 = .ok (.iconst (-1), 1) := by decide +kernel
theorem dX12_struck_46 : decode cX12_struck 46 = .ok (.if_icmp .ne 12, 3) := by decide +kernel
theorem dX12_struck_49 : decode cX12_struck 49 = .ok (.aload_n 0, 1) := by decide +kernel
theorem dX12_struck_50 : decode cX12_struck 50 = .ok (.bipush 6, 2) := by decide +kernel
theorem dX12_struck_52 : decode cX12_struck 52 = .ok (.invokevirtual 185, 3) := by decide +kernel
theorem dX12_struck_55 : decode cX12_struck 55 = .ok (.goto 9, 3) := by decide +kernel
theorem dX12_struck_58 : decode cX12_struck 58 = .ok (.aload_n 0, 1) := by decide +kernel
theorem dX12_struck_59 : decode cX12_struck 59 = .ok (.iload 5, 2) := by decide +kernel
theorem dX12_struck_61 : decode cX12_struck 61 = .ok (.invokevirtual 188, 3) := by decide +kernel
theorem dX12_struck_64 : decode cX12_struck 64 = .ok (.ireturn, 1) := by decide +kernel
theorem dX12_sure_0 : decode cX12_sure 0 = .ok (.aload_n 0, 1) := by decide +kernel
theorem dX12_sure_1 : decode cX12_sure 1 = .ok (.iload_n 1, 1) := by decide +kernel
theorem dX12_sure_2 : decode cX12_sure 2 = .ok (.iload_n 2, 1) := by decide +kernel
theorem dX12_sure_3 : decode cX12_sure 3 = .ok (.invokevirtual 342, 3) := by decide +kernel
theorem dX12_sure_6 : decode cX12_sure 6 = .ok (.istore_n 3, 1) := by decide +kernel
theorem dX12_sure_7 : decode cX12_sure 7 = .ok (.iload_n 3, 1) := by decide +kernel
theorem dX12_sure_8 : decode cX12_sure 8 = .ok (.ifCond .le 9, 3) := by decide +kernel
theorem dX12_sure_11 : decode cX12_sure 11 = .ok (.aload_n 0, 1) := by decide +kernel
theorem dX12_sure_12 : decode cX12_sure 12 = .ok (.iload_n 3, 1) := by decide +kernel
theorem dX12_sure_13 : decode cX12_sure 13 = .ok (.invokevirtual 98, 3) := by decide +kernel
theorem dX12_sure_16 : decode cX12_sure 16 = .ok (.ireturn, 1) := by decide +kernel
theorem dX12_sure_17 : decode cX12_sure 17 = .ok (.lconst 0, 1) := by decide +kernel
theorem dX12_sure_18 : decode cX12_sure 18 = .ok (.lstore 4, 2) := by decide +kernel
theorem dX12_sure_20 : decode cX12_sure 20 = .ok (.iconst 0, 1) := by decide +kernel
theorem dX12_sure_21 : decode cX12_sure 21 = .ok (.istore 6, 2) := by decide +kernel
theorem dX12_sure_23 : decode cX12_sure 23 = .ok (.iload 6, 2) := by decide +kernel
theorem dX12_sure_25 : decode cX12_sure 25 = .ok (.aload_n 0, 1) := by decide +kernel
theorem dX12_sure_26 : decode cX12_sure 26 = .ok (.invokevirtual 263, 3) := by decide +kernel
theorem dX12_sure_29 : decode cX12_sure 29 = .ok (.if_icmp .ge 42, 3) := by decide +kernel
theorem dX12_sure_32 : decode cX12_sure 32 = .ok (.lload 4, 2) := by decide +kernel
theorem dX12_sure_34 : decode cX12_sure 34 = .ok (.aload_n 0, 1) := by decide +kernel
theorem dX12_sure_35 : decode cX12_sure 35 = .ok (.iload_n 1, 1) := by decide +kernel
theorem dX12_sure_36 : decode cX12_sure 36 = .ok (.iload_n 2, 1) := by decide +kernel
theorem dX12_sure_37 : decode cX12_sure 37 = .ok (.iload 6, 2) := by decide +kernel
theorem dX12_sure_39 : decode cX12_sure 39 = .ok (.invokevirtual 348, 3) := by decide +kernel
theorem dX12_sure_42 : decode cX12_sure 42 = .ok (.iconst (-1), 1) := by decide +kernel
theorem dX12_sure_43 : decode cX12_sure 43 = .ok (.if_icmp .ne 18, 3) := by decide +kernel
theorem dX12_sure_46 : decode cX12_sure 46 = .ok (.aload_n 0, 1) := by decide +kernel
theorem dX12_sure_47 : decode cX12_sure 47 = .ok (.getfield 7, 3) := by decide +kernel
theorem dX12_sure_50 : decode cX12_sure 50 = .ok (.sipush 168, 3) := by decide +kernel
theorem dX12_sure_53 : decode cX12_sure 53 = .ok (.iload 6, 2) := by decide +kernel
theorem dX12_sure_55 : decode cX12_sure 55 = .ok (.iadd, 1) := by decide +kernel
theorem dX12_sure_56 : decode cX12_sure 56 = .ok (.iaload, 1) := by decide +kernel
theorem dX12_sure_57 : decode cX12_sure 57 = .ok (.i2l, 1) := by decide +kernel
theorem dX12_sure_58 : decode cX12_sure 58 = .ok (.goto 4, 3) := by decide +kernel
theorem dX12_sure_61 : decode cX12_sure 61 = .ok (.lconst 0, 1) := by decide +kernel
theorem dX12_sure_62 : decode cX12_sure 62 = .ok (.ladd, 1) := by decide +kernel
theorem dX12_sure_63 : decode cX12_sure 63 = .ok (.lstore 4, 2) := by decide +kernel
theorem dX12_sure_65 : decode cX12_sure 65 = .ok (.iinc 6 1, 3) := by decide +kernel
theorem dX12_sure_68 : decode cX12_sure 68 = .ok (.goto (-45), 3) := by decide +kernel
theorem dX12_sure_71 : decode cX12_sure 71 = .ok (.aload_n 0, 1) := by decide +kernel
theorem dX12_sure_72 : decode cX12_sure 72 = .ok (.lload 4, 2) := by decide +kernel
theorem dX12_sure_74 : decode cX12_sure 74 = .ok (.ldc2_w 300, 3) := by decide +kernel
theorem dX12_sure_77 : decode cX12_sure 77 = .ok (.invokevirtual 312, 3) := by decide +kernel
theorem dX12_sure_80 : decode cX12_sure 80 = .ok (.ireturn, 1) := by decide +kernel
theorem dX12_reckons_0 : decode cX12_reckons 0 = .ok (.iconst 0, 1) := by decide +kernel
theorem dX12_reckons_1 : decode cX12_reckons 1 = .ok (.istore_n 3, 1) := by decide +kernel
theorem dX12_reckons_2 : decode cX12_reckons 2 = .ok (.iload_n 3, 1) := by decide +kernel
theorem dX12_reckons_3 : decode cX12_reckons 3 = .ok (.aload_n 0, 1) := by decide +kernel
theorem dX12_reckons_4 : decode cX12_reckons 4 = .ok (.invokevirtual 243, 3) := by decide +kernel
theorem dX12_reckons_7 : decode cX12_reckons 7 = .ok (.if_icmp .ge 105, 3) := by decide +kernel
theorem dX12_reckons_10 : decode cX12_reckons 10 = .ok (.aload_n 0, 1) := by decide +kernel
theorem dX12_reckons_11 : decode cX12_reckons 11 = .ok (.iload_n 3, 1) := by decide +kernel
theorem dX12_reckons_12 : decode cX12_reckons 12 = .ok (.invokevirtual 297, 3) := by decide +kernel
theorem dX12_reckons_15 : decode cX12_reckons 15 = .ok (.istore 4, 2) := by decide +kernel
theorem dX12_reckons_17 : decode cX12_reckons 17 = .ok (.aload_n 0, 1) := by decide +kernel
theorem dX12_reckons_18 : decode cX12_reckons 18 = .ok (.getfield 59, 3) := by decide +kernel
theorem dX12_reckons_21 : decode cX12_reckons 21 = .ok (.iload_n 3, 1) := by decide +kernel
theorem dX12_reckons_22 : decode cX12_reckons 22 = .ok (.iload 4, 2) := by decide +kernel
theorem dX12_reckons_24 : decode cX12_reckons 24 = .ok (.iconst 2, 1) := by decide +kernel
theorem dX12_reckons_25 : decode cX12_reckons 25 = .ok (.if_icmp .eq 26, 3) := by decide +kernel
theorem dX12_reckons_28 : decode cX12_reckons 28 = .ok (.iload 4, 2) := by decide +kernel
theorem dX12_reckons_30 : decode cX12_reckons 30 = .ok (.iconst 1, 1) := by decide +kernel
theorem dX12_reckons_31 : decode cX12_reckons 31 = .ok (.if_icmp .ne 24, 3) := by decide +kernel
theorem dX12_reckons_34 : decode cX12_reckons 34 = .ok (.iload_n 2, 1) := by decide +kernel
theorem dX12_reckons_35 : decode cX12_reckons 35 = .ok (.aload_n 0, 1) := by decide +kernel
theorem dX12_reckons_36 : decode cX12_reckons 36 = .ok (.getfield 7, 3) := by decide +kernel
theorem dX12_reckons_39 : decode cX12_reckons 39 = .ok (.bipush 108, 2) := by decide +kernel
theorem dX12_reckons_41 : decode cX12_reckons 41 = .ok (.iload_n 3, 1) := by decide +kernel
theorem dX12_reckons_42 : decode cX12_reckons 42 = .ok (.iadd, 1) := by decide +kernel
theorem dX12_reckons_43 : decode cX12_reckons 43 = .ok (.iaload, 1) := by decide +kernel
theorem dX12_reckons_44 : decode cX12_reckons 44 = .ok (.ishr, 1) := by decide +kernel
theorem dX12_reckons_45 : decode cX12_reckons 45 = .ok (.iconst 1, 1) := by decide +kernel
theorem dX12_reckons_46 : decode cX12_reckons 46 = .ok (.iand, 1) := by decide +kernel
theorem dX12_reckons_47 : decode cX12_reckons 47 = .ok (.iconst 1, 1) := by decide +kernel
theorem dX12_reckons_48 : decode cX12_reckons 48 = .ok (.if_icmp .ne 7, 3) := by decide +kernel
theorem dX12_reckons_51 : decode cX12_reckons 51 = .ok (.iconst 1, 1) := by decide +kernel
theorem dX12_reckons_52 : decode cX12_reckons 52 = .ok (.goto 4, 3) := by decide +kernel
theorem dX12_reckons_55 : decode cX12_reckons 55 = .ok (.iconst 0, 1) := by decide +kernel
theorem dX12_reckons_56 : decode cX12_reckons 56 = .ok (.bastore, 1) := by decide +kernel
theorem dX12_reckons_57 : decode cX12_reckons 57 = .ok (.iconst 0, 1) := by decide +kernel
theorem dX12_reckons_58 : decode cX12_reckons 58 = .ok (.istore 5, 2) := by decide +kernel
theorem dX12_reckons_60 : decode cX12_reckons 60 = .ok (.iload 5, 2) := by decide +kernel
theorem dX12_reckons_62 : decode cX12_reckons 62 = .ok (.bipush 9, 2) := by decide +kernel
theorem dX12_reckons_64 : decode cX12_reckons 64 = .ok (.if_icmp .ge 42, 3) := by decide +kernel
theorem dX12_reckons_67 : decode cX12_reckons 67 = .ok (.aload_n 0, 1) := by decide +kernel
theorem dX12_reckons_68 : decode cX12_reckons 68 = .ok (.getfield 56, 3) := by decide +kernel
theorem dX12_reckons_71 : decode cX12_reckons 71 = .ok (.bipush 9, 2) := by decide +kernel
theorem dX12_reckons_73 : decode cX12_reckons 73 = .ok (.iload_n 3, 1) := by decide +kernel
theorem dX12_reckons_74 : decode cX12_reckons 74 = .ok (.imul, 1) := by decide +kernel
theorem dX12_reckons_75 : decode cX12_reckons 75 = .ok (.iload 5, 2) := by decide +kernel
theorem dX12_reckons_77 : decode cX12_reckons 77 = .ok (.iadd, 1) := by decide +kernel
theorem dX12_reckons_78 : decode cX12_reckons 78 = .ok (.iload_n 3, 1) := by decide +kernel
theorem dX12_reckons_79 : decode cX12_reckons 79 = .ok (.iload_n 1, 1) := by decide +kernel
theorem dX12_reckons_80 : decode cX12_reckons 80 = .ok (.if_icmp .ne 16, 3) := by decide +kernel
theorem dX12_reckons_83 : decode cX12_reckons 83 = .ok (.aload_n 0, 1) := by decide +kernel
theorem dX12_reckons_84 : decode cX12_reckons 84 = .ok (.getfield 59, 3) := by decide +kernel
theorem dX12_reckons_87 : decode cX12_reckons 87 = .ok (.iload_n 3, 1) := by decide +kernel
theorem dX12_reckons_88 : decode cX12_reckons 88 = .ok (.baload, 1) := by decide +kernel
theorem dX12_reckons_89 : decode cX12_reckons 89 = .ok (.ifCond .eq 7, 3) := by decide +kernel
theorem dX12_reckons_92 : decode cX12_reckons 92 = .ok (.iconst 0, 1) := by decide +kernel
theorem dX12_reckons_93 : decode cX12_reckons 93 = .ok (.goto 6, 3) := by decide +kernel
theorem dX12_reckons_96 : decode cX12_reckons 96 = .ok (.ldc_w 352, 3) := by decide +kernel
theorem dX12_reckons_99 : decode cX12_reckons 99 = .ok (.iastore, 1) := by decide +kernel
theorem dX12_reckons_100 : decode cX12_reckons 100 = .ok (.iinc 5 1, 3) := by decide +kernel
theorem dX12_reckons_103 : decode cX12_reckons 103 = .ok (.goto (-43), 3) := by decide +kernel
theorem dX12_reckons_106 : decode cX12_reckons 106 = .ok (.iinc 3 1, 3) := by decide +kernel
theorem dX12_reckons_109 : decode cX12_reckons 109 = .ok (.goto (-107), 3) := by decide +kernel
theorem dX12_reckons_112 : decode cX12_reckons 112 = .ok (.iconst 1, 1) := by decide +kernel
theorem dX12_reckons_113 : decode cX12_reckons 113 = .ok (.istore_n 3, 1) := by decide +kernel
theorem dX12_reckons_114 : decode cX12_reckons 114 = .ok (.iload_n 3, 1) := by decide +kernel
theorem dX12_reckons_115 : decode cX12_reckons 115 = .ok (.ifCond .eq 46, 3) := by decide +kernel
theorem dX12_reckons_118 : decode cX12_reckons 118 = .ok (.iconst 0, 1) := by decide +kernel
theorem dX12_reckons_119 : decode cX12_reckons 119 = .ok (.istore_n 3, 1) := by decide +kernel
theorem dX12_reckons_120 : decode cX12_reckons 120 = .ok (.iconst 0, 1) := by decide +kernel
theorem dX12_reckons_121 : decode cX12_reckons 121 = .ok (.istore 4, 2) := by decide +kernel
theorem dX12_reckons_123 : decode cX12_reckons 123 = .ok (.iload 4, 2) := by decide +kernel
theorem dX12_reckons_125 : decode cX12_reckons 125 = .ok (.aload_n 0, 1) := by decide +kernel
theorem dX12_reckons_126 : decode cX12_reckons 126 = .ok (.invokevirtual 243, 3) := by decide +kernel
theorem dX12_reckons_129 : decode cX12_reckons 129 = .ok (.if_icmp .ge 29, 3) := by decide +kernel
theorem dX12_reckons_132 : decode cX12_reckons 132 = .ok (.aload_n 0, 1) := by decide +kernel
theorem dX12_reckons_133 : decode cX12_reckons 133 = .ok (.iload 4, 2) := by decide +kernel
theorem dX12_reckons_135 : decode cX12_reckons 135 = .ok (.iload_n 1, 1) := by decide +kernel
theorem dX12_reckons_136 : decode cX12_reckons 136 = .ok (.invokevirtual 353, 3) := by decide +kernel
theorem dX12_reckons_139 : decode cX12_reckons 139 = .ok (.ifCond .ne 7, 3) := by decide +kernel
theorem dX12_reckons_142 : decode cX12_reckons 142 = .ok (.iload_n 3, 1) := by decide +kernel
theorem dX12_reckons_143 : decode cX12_reckons 143 = .ok (.ifCond .eq 7, 3) := by decide +kernel
theorem dX12_reckons_146 : decode cX12_reckons 146 = .ok (.iconst 1, 1) := by decide +kernel
theorem dX12_reckons_147 : decode cX12_reckons 147 = .ok (.goto 4, 3) := by decide +kernel
theorem dX12_reckons_150 : decode cX12_reckons 150 = .ok (.iconst 0, 1) := by decide +kernel
theorem dX12_reckons_151 : decode cX12_reckons 151 = .ok (.istore_n 3, 1) := by decide +kernel
theorem dX12_reckons_152 : decode cX12_reckons 152 = .ok (.iinc 4 1, 3) := by decide +kernel
theorem dX12_reckons_155 : decode cX12_reckons 155 = .ok (.goto (-32), 3) := by decide +kernel
theorem dX12_reckons_158 : decode cX12_reckons 158 = .ok (.goto (-44), 3) := by decide +kernel
theorem dX12_reckons_161 : decode cX12_reckons 161 = .ok (.return_, 1) := by decide +kernel
theorem dX12_betters_0 : decode cX12_betters 0 = .ok (.iload_n 1, 1) := by decide +kernel
theorem dX12_betters_1 : decode cX12_betters 1 = .ok (.iload_n 2, 1) := by decide +kernel
theorem dX12_betters_2 : decode cX12_betters 2 = .ok (.if_icmp .eq 12, 3) := by decide +kernel
theorem dX12_betters_5 : decode cX12_betters 5 = .ok (.aload_n 0, 1) := by decide +kernel
theorem dX12_betters_6 : decode cX12_betters 6 = .ok (.getfield 59, 3) := by decide +kernel
theorem dX12_betters_9 : decode cX12_betters 9 = .ok (.iload_n 1, 1) := by decide +kernel
theorem dX12_betters_10 : decode cX12_betters 10 = .ok (.baload, 1) := by decide +kernel
theorem dX12_betters_11 : decode cX12_betters 11 = .ok (.ifCond .ne 5, 3) := by decide +kernel
theorem dX12_betters_14 : decode cX12_betters 14 = .ok (.iconst 0, 1) := by decide +kernel
theorem dX12_betters_15 : decode cX12_betters 15 = .ok (.ireturn, 1) := by decide +kernel
theorem dX12_betters_16 : decode cX12_betters 16 = .ok (.iconst 0, 1) := by decide +kernel
theorem dX12_betters_17 : decode cX12_betters 17 = .ok (.istore_n 3, 1) := by decide +kernel
theorem dX12_betters_18 : decode cX12_betters 18 = .ok (.iconst 0, 1) := by decide +kernel
theorem dX12_betters_19 : decode cX12_betters 19 = .ok (.istore 4, 2) := by decide +kernel
theorem dX12_betters_21 : decode cX12_betters 21 = .ok (.iload 4, 2) := by decide +kernel
theorem dX12_betters_23 : decode cX12_betters 23 = .ok (.bipush 8, 2) := by decide +kernel
theorem dX12_betters_25 : decode cX12_betters 25 = .ok (.if_icmp .ge 132, 3) := by decide +kernel
theorem dX12_betters_28 : decode cX12_betters 28 = .ok (.aload_n 0, 1) := by decide +kernel
theorem dX12_betters_29 : decode cX12_betters 29 = .ok (.iload_n 1, 1) := by decide +kernel
theorem dX12_betters_30 : decode cX12_betters 30 = .ok (.iload 4, 2) := by decide +kernel
theorem dX12_betters_32 : decode cX12_betters 32 = .ok (.invokevirtual 333, 3) := by decide +kernel
theorem dX12_betters_35 : decode cX12_betters 35 = .ok (.istore 5, 2) := by decide +kernel
theorem dX12_betters_37 : decode cX12_betters 37 = .ok (.iload 5, 2) := by decide +kernel
theorem dX12_betters_39 : decode cX12_betters 39 = .ok (.iconst (-1), 1) := by decide +kernel
theorem dX12_betters_40 : decode cX12_betters 40 = .ok (.if_icmp .eq 111, 3) := by decide +kernel
theorem dX12_betters_43 : decode cX12_betters 43 = .ok (.aload_n 0, 1) := by decide +kernel
theorem dX12_betters_44 : decode cX12_betters 44 = .ok (.getfield 59, 3) := by decide +kernel
theorem dX12_betters_47 : decode cX12_betters 47 = .ok (.iload 5, 2) := by decide +kernel
theorem dX12_betters_49 : decode cX12_betters 49 = .ok (.baload, 1) := by decide +kernel
theorem dX12_betters_50 : decode cX12_betters 50 = .ok (.ifCond .eq 101, 3) := by decide +kernel
theorem dX12_betters_53 : decode cX12_betters 53 = .ok (.aload_n 0, 1) := by decide +kernel
theorem dX12_betters_54 : decode cX12_betters 54 = .ok (.getfield 56, 3) := by decide +kernel
theorem dX12_betters_57 : decode cX12_betters 57 = .ok (.bipush 9, 2) := by decide +kernel
theorem dX12_betters_59 : decode cX12_betters 59 = .ok (.iload 5, 2) := by decide +kernel
theorem dX12_betters_61 : decode cX12_betters 61 = .ok (.imul, 1) := by decide +kernel
theorem dX12_betters_62 : decode cX12_betters 62 = .ok (.iload 4, 2) := by decide +kernel
theorem dX12_betters_64 : decode cX12_betters 64 = .ok (.iadd, 1) := by decide +kernel
theorem dX12_betters_65 : decode cX12_betters 65 = .ok (.iaload, 1) := by decide +kernel
theorem dX12_betters_66 : decode cX12_betters 66 = .ok (.ldc_w 352, 3) := by decide +kernel
theorem dX12_betters_69 : decode cX12_betters 69 = .ok (.if_icmp .ne 6, 3) := by decide +kernel
theorem dX12_betters_72 : decode cX12_betters 72 = .ok (.goto 79, 3) := by decide +kernel
theorem dX12_betters_75 : decode cX12_betters 75 = .ok (.iconst 0, 1) := by decide +kernel
theorem dX12_betters_76 : decode cX12_betters 76 = .ok (.istore 6, 2) := by decide +kernel
theorem dX12_betters_78 : decode cX12_betters 78 = .ok (.iload 6, 2) := by decide +kernel
theorem dX12_betters_80 : decode cX12_betters 80 = .ok (.bipush 9, 2) := by decide +kernel
theorem dX12_betters_82 : decode cX12_betters 82 = .ok (.if_icmp .ge 69, 3) := by decide +kernel
theorem dX12_betters_85 : decode cX12_betters 85 = .ok (.aload_n 0, 1) := by decide +kernel
theorem dX12_betters_86 : decode cX12_betters 86 = .ok (.iload 6, 2) := by decide +kernel
theorem dX12_betters_88 : decode cX12_betters 88 = .ok (.iload 4, 2) := by decide +kernel
theorem dX12_betters_90 : decode cX12_betters 90 = .ok (.invokevirtual 345, 3) := by decide +kernel
theorem dX12_betters_93 : decode cX12_betters 93 = .ok (.aload_n 0, 1) := by decide +kernel
theorem dX12_betters_94 : decode cX12_betters 94 = .ok (.getfield 56, 3) := by decide +kernel
theorem dX12_betters_97 : decode cX12_betters 97 = .ok (.bipush 9, 2) := by decide +kernel
theorem dX12_betters_99 : decode cX12_betters 99 = .ok (.iload 5, 2) := by decide +kernel
theorem dX12_betters_101 : decode cX12_betters 101 = .ok (.imul, 1) := by decide +kernel
theorem dX12_betters_102 : decode cX12_betters 102 = .ok (.iload 4, 2) := by decide +kernel
theorem dX12_betters_104 : decode cX12_betters 104 = .ok (.iadd, 1) := by decide +kernel
theorem dX12_betters_105 : decode cX12_betters 105 = .ok (.iaload, 1) := by decide +kernel
theorem dX12_betters_106 : decode cX12_betters 106 = .ok (.iadd, 1) := by decide +kernel
theorem dX12_betters_107 : decode cX12_betters 107 = .ok (.istore 7, 2) := by decide +kernel
theorem dX12_betters_109 : decode cX12_betters 109 = .ok (.iload 7, 2) := by decide +kernel
theorem dX12_betters_111 : decode cX12_betters 111 = .ok (.aload_n 0, 1) := by decide +kernel
theorem dX12_betters_112 : decode cX12_betters 112 = .ok (.getfield 56, 3) := by decide +kernel
theorem dX12_betters_115 : decode cX12_betters 115 = .ok (.bipush 9, 2) := by decide +kernel
theorem dX12_betters_117 : decode cX12_betters 117 = .ok (.iload_n 1, 1) := by decide +kernel
theorem dX12_betters_118 : decode cX12_betters 118 = .ok (.imul, 1) := by decide +kernel
theorem dX12_betters_119 : decode cX12_betters 119 = .ok (.iload 6, 2) := by decide +kernel
theorem dX12_betters_121 : decode cX12_betters 121 = .ok (.iadd, 1) := by decide +kernel
theorem dX12_betters_122 : decode cX12_betters 122 = .ok (.iaload, 1) := by decide +kernel
theorem dX12_betters_123 : decode cX12_betters 123 = .ok (.if_icmp .lt 6, 3) := by decide +kernel
theorem dX12_betters_126 : decode cX12_betters 126 = .ok (.goto 19, 3) := by decide +kernel
theorem dX12_betters_129 : decode cX12_betters 129 = .ok (.aload_n 0, 1) := by decide +kernel
theorem dX12_betters_130 : decode cX12_betters 130 = .ok (.getfield 56, 3) := by decide +kernel
theorem dX12_betters_133 : decode cX12_betters 133 = .ok (.bipush 9, 2) := by decide +kernel
theorem dX12_betters_135 : decode cX12_betters 135 = .ok (.iload_n 1, 1) := by decide +kernel
theorem dX12_betters_136 : decode cX12_betters 136 = .ok (.imul, 1) := by decide +kernel
theorem dX12_betters_137 : decode cX12_betters 137 = .ok (.iload 6, 2) := by decide +kernel
theorem dX12_betters_139 : decode cX12_betters 139 = .ok (.iadd, 1) := by decide +kernel
theorem dX12_betters_140 : decode cX12_betters 140 = .ok (.iload 7, 2) := by decide +kernel
theorem dX12_betters_142 : decode cX12_betters 142 = .ok (.iastore, 1) := by decide +kernel
theorem dX12_betters_143 : decode cX12_betters 143 = .ok (.iconst 1, 1) := by decide +kernel
theorem dX12_betters_144 : decode cX12_betters 144 = .ok (.istore_n 3, 1) := by decide +kernel
theorem dX12_betters_145 : decode cX12_betters 145 = .ok (.iinc 6 1, 3) := by decide +kernel
theorem dX12_betters_148 : decode cX12_betters 148 = .ok (.goto (-70), 3) := by decide +kernel
theorem dX12_betters_151 : decode cX12_betters 151 = .ok (.iinc 4 1, 3) := by decide +kernel
theorem dX12_betters_154 : decode cX12_betters 154 = .ok (.goto (-133), 3) := by decide +kernel
theorem dX12_betters_157 : decode cX12_betters 157 = .ok (.iload_n 3, 1) := by decide +kernel
theorem dX12_betters_158 : decode cX12_betters 158 = .ok (.ireturn, 1) := by decide +kernel
theorem dX12_readies_0 : decode cX12_readies 0 = .ok (.aload_n 0, 1) := by decide +kernel
theorem dX12_readies_1 : decode cX12_readies 1 = .ok (.getfield 7, 3) := by decide +kernel
theorem dX12_readies_4 : decode cX12_readies 4 = .ok (.iconst 5, 1) := by decide +kernel
theorem dX12_readies_5 : decode cX12_readies 5 = .ok (.iaload, 1) := by decide +kernel
theorem dX12_readies_6 : decode cX12_readies 6 = .ok (.aload_n 0, 1) := by decide +kernel
theorem dX12_readies_7 : decode cX12_readies 7 = .ok (.getfield 7, 3) := by decide +kernel
theorem dX12_readies_10 : decode cX12_readies 10 = .ok (.iconst 4, 1) := by decide +kernel
theorem dX12_readies_11 : decode cX12_readies 11 = .ok (.iaload, 1) := by decide +kernel
theorem dX12_readies_12 : decode cX12_readies 12 = .ok (.isub, 1) := by decide +kernel
theorem dX12_readies_13 : decode cX12_readies 13 = .ok (.aload_n 0, 1) := by decide +kernel
theorem dX12_readies_14 : decode cX12_readies 14 = .ok (.aload_n 0, 1) := by decide +kernel
theorem dX12_readies_15 : decode cX12_readies 15 = .ok (.getfield 7, 3) := by decide +kernel
theorem dX12_readies_18 : decode cX12_readies 18 = .ok (.iconst 3, 1) := by decide +kernel
theorem dX12_readies_19 : decode cX12_readies 19 = .ok (.iaload, 1) := by decide +kernel
theorem dX12_readies_20 : decode cX12_readies 20 = .ok (.invokevirtual 285, 3) := by decide +kernel
theorem dX12_readies_23 : decode cX12_readies 23 = .ok (.isub, 1) := by decide +kernel
theorem dX12_readies_24 : decode cX12_readies 24 = .ok (.istore_n 3, 1) := by decide +kernel
theorem dX12_readies_25 : decode cX12_readies 25 = .ok (.aload_n 0, 1) := by decide +kernel
theorem dX12_readies_26 : decode cX12_readies 26 = .ok (.getfield 66, 3) := by decide +kernel
theorem dX12_readies_29 : decode cX12_readies 29 = .ok (.iload_n 1, 1) := by decide +kernel
theorem dX12_readies_30 : decode cX12_readies 30 = .ok (.if_icmp .ne 31, 3) := by decide +kernel
theorem dX12_readies_33 : decode cX12_readies 33 = .ok (.aload_n 0, 1) := by decide +kernel
theorem dX12_readies_34 : decode cX12_readies 34 = .ok (.getfield 356, 3) := by decide +kernel
theorem dX12_readies_37 : decode cX12_readies 37 = .ok (.iload_n 2, 1) := by decide +kernel
theorem dX12_readies_38 : decode cX12_readies 38 = .ok (.if_icmp .ne 23, 3) := by decide +kernel
theorem dX12_readies_41 : decode cX12_readies 41 = .ok (.aload_n 0, 1) := by decide +kernel
theorem dX12_readies_42 : decode cX12_readies 42 = .ok (.getfield 359, 3) := by decide +kernel
theorem dX12_readies_45 : decode cX12_readies 45 = .ok (.iload_n 3, 1) := by decide +kernel
theorem dX12_readies_46 : decode cX12_readies 46 = .ok (.if_icmp .ne 15, 3) := by decide +kernel
theorem dX12_readies_49 : decode cX12_readies 49 = .ok (.aload_n 0, 1) := by decide +kernel
theorem dX12_readies_50 : decode cX12_readies 50 = .ok (.getfield 362, 3) := by decide +kernel
theorem dX12_readies_53 : decode cX12_readies 53 = .ok (.aload_n 0, 1) := by decide +kernel
theorem dX12_readies_54 : decode cX12_readies 54 = .ok (.getfield 240, 3) := by decide +kernel
theorem dX12_readies_57 : decode cX12_readies 57 = .ok (.if_icmp .ne 4, 3) := by decide +kernel
theorem dX12_readies_60 : decode cX12_readies 60 = .ok (.return_, 1) := by decide +kernel
theorem dX12_readies_61 : decode cX12_readies 61 = .ok (.aload_n 0, 1) := by decide +kernel
theorem dX12_readies_62 : decode cX12_readies 62 = .ok (.iload_n 1, 1) := by decide +kernel
theorem dX12_readies_63 : decode cX12_readies 63 = .ok (.putfield 66, 3) := by decide +kernel
theorem dX12_readies_66 : decode cX12_readies 66 = .ok (.aload_n 0, 1) := by decide +kernel
theorem dX12_readies_67 : decode cX12_readies 67 = .ok (.iload_n 2, 1) := by decide +kernel
theorem dX12_readies_68 : decode cX12_readies 68 = .ok (.putfield 356, 3) := by decide +kernel
theorem dX12_readies_71 : decode cX12_readies 71 = .ok (.aload_n 0, 1) := by decide +kernel
theorem dX12_readies_72 : decode cX12_readies 72 = .ok (.iload_n 3, 1) := by decide +kernel
theorem dX12_readies_73 : decode cX12_readies 73 = .ok (.putfield 359, 3) := by decide +kernel
theorem dX12_readies_76 : decode cX12_readies 76 = .ok (.aload_n 0, 1) := by decide +kernel
theorem dX12_readies_77 : decode cX12_readies 77 = .ok (.aload_n 0, 1) := by decide +kernel
theorem dX12_readies_78 : decode cX12_readies 78 = .ok (.getfield 240, 3) := by decide +kernel
theorem dX12_readies_81 : decode cX12_readies 81 = .ok (.putfield 362, 3) := by decide +kernel
theorem dX12_readies_84 : decode cX12_readies 84 = .ok (.iconst 0, 1) := by decide +kernel
theorem dX12_readies_85 : decode cX12_readies 85 = .ok (.istore 4, 2) := by decide +kernel
theorem dX12_readies_87 : decode cX12_readies 87 = .ok (.iload 4, 2) := by decide +kernel
theorem dX12_readies_89 : decode cX12_readies 89 = .ok (.aload_n 0, 1) := by decide +kernel
theorem dX12_readies_90 : decode cX12_readies 90 = .ok (.invokevirtual 263, 3) := by decide +kernel
theorem dX12_readies_93 : decode cX12_readies 93 = .ok (.if_icmp .ge 66, 3) := by decide +kernel
theorem dX12_readies_96 : decode cX12_readies 96 = .ok (.aload_n 0, 1) := by decide +kernel
theorem dX12_readies_97 : decode cX12_readies 97 = .ok (.iload_n 2, 1) := by decide +kernel
theorem dX12_readies_98 : decode cX12_readies 98 = .ok (.iload 4, 2) := by decide +kernel
theorem dX12_readies_100 : decode cX12_readies 100 = .ok (.invokevirtual 365, 3) := by decide +kernel
theorem dX12_readies_103 : decode cX12_readies 103 = .ok (.aload_n 0, 1) := by decide +kernel
theorem dX12_readies_104 : decode cX12_readies 104 = .ok (.getfield 63, 3) := by decide +kernel
theorem dX12_readies_107 : decode cX12_readies 107 = .ok (.iload 4, 2) := by decide +kernel
theorem dX12_readies_109 : decode cX12_readies 109 = .ok (.aload_n 0, 1) := by decide +kernel
theorem dX12_readies_110 : decode cX12_readies 110 = .ok (.getfield 59, 3) := by decide +kernel
theorem dX12_readies_113 : decode cX12_readies 113 = .ok (.iload_n 1, 1) := by decide +kernel
theorem dX12_readies_114 : decode cX12_readies 114 = .ok (.baload, 1) := by decide +kernel
theorem dX12_readies_115 : decode cX12_readies 115 = .ok (.ifCond .eq 36, 3) := by decide +kernel
theorem dX12_readies_118 : decode cX12_readies 118 = .ok (.aload_n 0, 1) := by decide +kernel
theorem dX12_readies_119 : decode cX12_readies 119 = .ok (.getfield 56, 3) := by decide +kernel
theorem dX12_readies_122 : decode cX12_readies 122 = .ok (.bipush 9, 2) := by decide +kernel
theorem dX12_readies_124 : decode cX12_readies 124 = .ok (.iload_n 1, 1) := by decide +kernel
theorem dX12_readies_125 : decode cX12_readies 125 = .ok (.imul, 1) := by decide +kernel
theorem dX12_readies_126 : decode cX12_readies 126 = .ok (.bipush 8, 2) := by decide +kernel
theorem dX12_readies_128 : decode cX12_readies 128 = .ok (.iadd, 1) := by decide +kernel
theorem dX12_readies_129 : decode cX12_readies 129 = .ok (.iaload, 1) := by decide +kernel
theorem dX12_readies_130 : decode cX12_readies 130 = .ok (.ldc_w 352, 3) := by decide +kernel
theorem dX12_readies_133 : decode cX12_readies 133 = .ok (.if_icmp .ge 18, 3) := by decide +kernel
theorem dX12_readies_136 : decode cX12_readies 136 = .ok (.aload_n 0, 1) := by decide +kernel
theorem dX12_readies_137 : decode cX12_readies 137 = .ok (.getfield 56, 3) := by decide +kernel
theorem dX12_readies_140 : decode cX12_readies 140 = .ok (.bipush 9, 2) := by decide +kernel
theorem dX12_readies_142 : decode cX12_readies 142 = .ok (.iload_n 1, 1) := by decide +kernel
theorem dX12_readies_143 : decode cX12_readies 143 = .ok (.imul, 1) := by decide +kernel
theorem dX12_readies_144 : decode cX12_readies 144 = .ok (.bipush 8, 2) := by decide +kernel
theorem dX12_readies_146 : decode cX12_readies 146 = .ok (.iadd, 1) := by decide +kernel
theorem dX12_readies_147 : decode cX12_readies 147 = .ok (.iaload, 1) := by decide +kernel
theorem dX12_readies_148 : decode cX12_readies 148 = .ok (.goto 4, 3) := by decide +kernel
theorem dX12_readies_151 : decode cX12_readies 151 = .ok (.iconst (-1), 1) := by decide +kernel
theorem dX12_readies_152 : decode cX12_readies 152 = .ok (.iastore, 1) := by decide +kernel
theorem dX12_readies_153 : decode cX12_readies 153 = .ok (.iinc 4 1, 3) := by decide +kernel
theorem dX12_readies_156 : decode cX12_readies 156 = .ok (.goto (-69), 3) := by decide +kernel
theorem dX12_readies_159 : decode cX12_readies 159 = .ok (.return_, 1) := by decide +kernel
theorem dX12_walks_0 : decode cX12_walks 0 = .ok (.aload_n 0, 1) := by decide +kernel
theorem dX12_walks_1 : decode cX12_walks 1 = .ok (.iload_n 2, 1) := by decide +kernel
theorem dX12_walks_2 : decode cX12_walks 2 = .ok (.iload_n 3, 1) := by decide +kernel
theorem dX12_walks_3 : decode cX12_walks 3 = .ok (.invokevirtual 365, 3) := by decide +kernel
theorem dX12_walks_6 : decode cX12_walks 6 = .ok (.aload_n 0, 1) := by decide +kernel
theorem dX12_walks_7 : decode cX12_walks 7 = .ok (.getfield 69, 3) := by decide +kernel
theorem dX12_walks_10 : decode cX12_walks 10 = .ok (.iconst 0, 1) := by decide +kernel
theorem dX12_walks_11 : decode cX12_walks 11 = .ok (.iload_n 1, 1) := by decide +kernel
theorem dX12_walks_12 : decode cX12_walks 12 = .ok (.iastore, 1) := by decide +kernel
theorem dX12_walks_13 : decode cX12_walks 13 = .ok (.aload_n 0, 1) := by decide +kernel
theorem dX12_walks_14 : decode cX12_walks 14 = .ok (.iconst 1, 1) := by decide +kernel
theorem dX12_walks_15 : decode cX12_walks 15 = .ok (.putfield 368, 3) := by decide +kernel
theorem dX12_walks_18 : decode cX12_walks 18 = .ok (.bipush 8, 2) := by decide +kernel
theorem dX12_walks_20 : decode cX12_walks 20 = .ok (.istore 4, 2) := by decide +kernel
theorem dX12_walks_22 : decode cX12_walks 22 = .ok (.aload_n 0, 1) := by decide +kernel
theorem dX12_walks_23 : decode cX12_walks 23 = .ok (.getfield 69, 3) := by decide +kernel
theorem dX12_walks_26 : decode cX12_walks 26 = .ok (.aload_n 0, 1) := by decide +kernel
theorem dX12_walks_27 : decode cX12_walks 27 = .ok (.getfield 368, 3) := by decide +kernel
theorem dX12_walks_30 : decode cX12_walks 30 = .ok (.iconst 1, 1) := by decide +kernel
theorem dX12_walks_31 : decode cX12_walks 31 = .ok (.isub, 1) := by decide +kernel
theorem dX12_walks_32 : decode cX12_walks 32 = .ok (.iaload, 1) := by decide +kernel
theorem dX12_walks_33 : decode cX12_walks 33 = .ok (.iload_n 2, 1) := by decide +kernel
theorem dX12_walks_34 : decode cX12_walks 34 = .ok (.if_icmp .eq 176, 3) := by decide +kernel
theorem dX12_walks_37 : decode cX12_walks 37 = .ok (.aload_n 0, 1) := by decide +kernel
theorem dX12_walks_38 : decode cX12_walks 38 = .ok (.getfield 69, 3) := by decide +kernel
theorem dX12_walks_41 : decode cX12_walks 41 = .ok (.aload_n 0, 1) := by decide +kernel
theorem dX12_walks_42 : decode cX12_walks 42 = .ok (.getfield 368, 3) := by decide +kernel
theorem dX12_walks_45 : decode cX12_walks 45 = .ok (.iconst 1, 1) := by decide +kernel
theorem dX12_walks_46 : decode cX12_walks 46 = .ok (.isub, 1) := by decide +kernel
theorem dX12_walks_47 : decode cX12_walks 47 = .ok (.iaload, 1) := by decide +kernel
theorem dX12_walks_48 : decode cX12_walks 48 = .ok (.istore 5, 2) := by decide +kernel
theorem dX12_walks_50 : decode cX12_walks 50 = .ok (.iconst (-1), 1) := by decide +kernel
theorem dX12_walks_51 : decode cX12_walks 51 = .ok (.istore 6, 2) := by decide +kernel
theorem dX12_walks_53 : decode cX12_walks 53 = .ok (.iconst (-1), 1) := by decide +kernel
theorem dX12_walks_54 : decode cX12_walks 54 = .ok (.istore 7, 2) := by decide +kernel
theorem dX12_walks_56 : decode cX12_walks 56 = .ok (.iconst 0, 1) := by decide +kernel
theorem dX12_walks_57 : decode cX12_walks 57 = .ok (.istore 8, 2) := by decide +kernel
theorem dX12_walks_59 : decode cX12_walks 59 = .ok (.iload 8, 2) := by decide +kernel
theorem dX12_walks_61 : decode cX12_walks 61 = .ok (.bipush 8, 2) := by decide +kernel
theorem dX12_walks_63 : decode cX12_walks 63 = .ok (.if_icmp .ge 119, 3) := by decide +kernel
theorem dX12_walks_66 : decode cX12_walks 66 = .ok (.aload_n 0, 1) := by decide +kernel
theorem dX12_walks_67 : decode cX12_walks 67 = .ok (.iload 5, 2) := by decide +kernel
theorem dX12_walks_69 : decode cX12_walks 69 = .ok (.iload 8, 2) := by decide +kernel
theorem dX12_walks_71 : decode cX12_walks 71 = .ok (.invokevirtual 333, 3) := by decide +kernel
theorem dX12_walks_74 : decode cX12_walks 74 = .ok (.istore 9, 2) := by decide +kernel
theorem dX12_walks_76 : decode cX12_walks 76 = .ok (.iload 9, 2) := by decide +kernel
theorem dX12_walks_78 : decode cX12_walks 78 = .ok (.iconst (-1), 1) := by decide +kernel
theorem dX12_walks_79 : decode cX12_walks 79 = .ok (.if_icmp .eq 97, 3) := by decide +kernel
theorem dX12_walks_82 : decode cX12_walks 82 = .ok (.aload_n 0, 1) := by decide +kernel
theorem dX12_walks_83 : decode cX12_walks 83 = .ok (.getfield 59, 3) := by decide +kernel
theorem dX12_walks_86 : decode cX12_walks 86 = .ok (.iload 9, 2) := by decide +kernel
theorem dX12_walks_88 : decode cX12_walks 88 = .ok (.baload, 1) := by decide +kernel
theorem dX12_walks_89 : decode cX12_walks 89 = .ok (.ifCond .eq 87, 3) := by decide +kernel
theorem dX12_walks_92 : decode cX12_walks 92 = .ok (.aload_n 0, 1) := by decide +kernel
theorem dX12_walks_93 : decode cX12_walks 93 = .ok (.getfield 56, 3) := by decide +kernel
theorem dX12_walks_96 : decode cX12_walks 96 = .ok (.bipush 9, 2) := by decide +kernel
theorem dX12_walks_98 : decode cX12_walks 98 = .ok (.iload 9, 2) := by decide +kernel
theorem dX12_walks_100 : decode cX12_walks 100 = .ok (.imul, 1) := by decide +kernel
theorem dX12_walks_101 : decode cX12_walks 101 = .ok (.iload 8, 2) := by decide +kernel
theorem dX12_walks_103 : decode cX12_walks 103 = .ok (.iadd, 1) := by decide +kernel
theorem dX12_walks_104 : decode cX12_walks 104 = .ok (.iaload, 1) := by decide +kernel
theorem dX12_walks_105 : decode cX12_walks 105 = .ok (.ldc_w 352, 3) := by decide +kernel
theorem dX12_walks_108 : decode cX12_walks 108 = .ok (.if_icmp .eq 68, 3) := by decide +kernel
theorem dX12_walks_111 : decode cX12_walks 111 = .ok (.aload_n 0, 1) := by decide +kernel
theorem dX12_walks_112 : decode cX12_walks 112 = .ok (.iload 4, 2) := by decide +kernel
theorem dX12_walks_114 : decode cX12_walks 114 = .ok (.iload 8, 2) := by decide +kernel
theorem dX12_walks_116 : decode cX12_walks 116 = .ok (.invokevirtual 345, 3) := by decide +kernel
theorem dX12_walks_119 : decode cX12_walks 119 = .ok (.aload_n 0, 1) := by decide +kernel
theorem dX12_walks_120 : decode cX12_walks 120 = .ok (.getfield 56, 3) := by decide +kernel
theorem dX12_walks_123 : decode cX12_walks 123 = .ok (.bipush 9, 2) := by decide +kernel
theorem dX12_walks_125 : decode cX12_walks 125 = .ok (.iload 9, 2) := by decide +kernel
theorem dX12_walks_127 : decode cX12_walks 127 = .ok (.imul, 1) := by decide +kernel
theorem dX12_walks_128 : decode cX12_walks 128 = .ok (.iload 8, 2) := by decide +kernel
theorem dX12_walks_130 : decode cX12_walks 130 = .ok (.iadd, 1) := by decide +kernel
theorem dX12_walks_131 : decode cX12_walks 131 = .ok (.iaload, 1) := by decide +kernel
theorem dX12_walks_132 : decode cX12_walks 132 = .ok (.iadd, 1) := by decide +kernel
theorem dX12_walks_133 : decode cX12_walks 133 = .ok (.aload_n 0, 1) := by decide +kernel
theorem dX12_walks_134 : decode cX12_walks 134 = .ok (.getfield 56, 3) := by decide +kernel
theorem dX12_walks_137 : decode cX12_walks 137 = .ok (.bipush 9, 2) := by decide +kernel
theorem dX12_walks_139 : decode cX12_walks 139 = .ok (.iload 5, 2) := by decide +kernel
theorem dX12_walks_141 : decode cX12_walks 141 = .ok (.imul, 1) := by decide +kernel
theorem dX12_walks_142 : decode cX12_walks 142 = .ok (.iload 4, 2) := by decide +kernel
theorem dX12_walks_144 : decode cX12_walks 144 = .ok (.iadd, 1) := by decide +kernel
theorem dX12_walks_145 : decode cX12_walks 145 = .ok (.iaload, 1) := by decide +kernel
theorem dX12_walks_146 : decode cX12_walks 146 = .ok (.if_icmp .eq 6, 3) := by decide +kernel
theorem dX12_walks_149 : decode cX12_walks 149 = .ok (.goto 27, 3) := by decide +kernel
theorem dX12_walks_152 : decode cX12_walks 152 = .ok (.iload 6, 2) := by decide +kernel
theorem dX12_walks_154 : decode cX12_walks 154 = .ok (.iconst (-1), 1) := by decide +kernel
theorem dX12_walks_155 : decode cX12_walks 155 = .ok (.if_icmp .eq 13, 3) := by decide +kernel
theorem dX12_walks_158 : decode cX12_walks 158 = .ok (.iload 9, 2) := by decide +kernel
theorem dX12_walks_160 : decode cX12_walks 160 = .ok (.iload 6, 2) := by decide +kernel
theorem dX12_walks_162 : decode cX12_walks 162 = .ok (.if_icmp .lt 6, 3) := by decide +kernel
theorem dX12_walks_165 : decode cX12_walks 165 = .ok (.goto 11, 3) := by decide +kernel
theorem dX12_walks_168 : decode cX12_walks 168 = .ok (.iload 9, 2) := by decide +kernel
theorem dX12_walks_170 : decode cX12_walks 170 = .ok (.istore 6, 2) := by decide +kernel
theorem dX12_walks_172 : decode cX12_walks 172 = .ok (.iload 8, 2) := by decide +kernel
theorem dX12_walks_174 : decode cX12_walks 174 = .ok (.istore 7, 2) := by decide +kernel
theorem dX12_walks_176 : decode cX12_walks 176 = .ok (.iinc 8 1, 3) := by decide +kernel
theorem dX12_walks_179 : decode cX12_walks 179 = .ok (.goto (-120), 3) := by decide +kernel
theorem dX12_walks_182 : decode cX12_walks 182 = .ok (.aload_n 0, 1) := by decide +kernel
theorem dX12_walks_183 : decode cX12_walks 183 = .ok (.getfield 69, 3) := by decide +kernel
theorem dX12_walks_186 : decode cX12_walks 186 = .ok (.aload_n 0, 1) := by decide +kernel
theorem dX12_walks_187 : decode cX12_walks 187 = .ok (.getfield 368, 3) := by decide +kernel
theorem dX12_walks_190 : decode cX12_walks 190 = .ok (.iload 6, 2) := by decide +kernel
theorem dX12_walks_192 : decode cX12_walks 192 = .ok (.iastore, 1) := by decide +kernel
theorem dX12_walks_193 : decode cX12_walks 193 = .ok (.aload_n 0, 1) := by decide +kernel
theorem dX12_walks_194 : decode cX12_walks 194 = .ok (.dup, 1) := by decide +kernel
theorem dX12_walks_195 : decode cX12_walks 195 = .ok (.getfield 368, 3) := by decide +kernel
theorem dX12_walks_198 : decode cX12_walks 198 = .ok (.iconst 1, 1) := by decide +kernel
theorem dX12_walks_199 : decode cX12_walks 199 = .ok (.iadd, 1) := by decide +kernel
theorem dX12_walks_200 : decode cX12_walks 200 = .ok (.putfield 368, 3) := by decide +kernel
theorem dX12_walks_203 : decode cX12_walks 203 = .ok (.iload 7, 2) := by decide +kernel
theorem dX12_walks_205 : decode cX12_walks 205 = .ok (.istore 4, 2) := by decide +kernel
theorem dX12_walks_207 : decode cX12_walks 207 = .ok (.goto (-185), 3) := by decide +kernel
theorem dX12_walks_210 : decode cX12_walks 210 = .ok (.return_, 1) := by decide +kernel
theorem dX12_soonest_0 : decode cX12_soonest 0 = .ok (.aload_n 0, 1) := by decide +kernel
theorem dX12_soonest_1 : decode cX12_soonest 1 = .ok (.iload_n 1, 1) := by decide +kernel
theorem dX12_soonest_2 : decode cX12_soonest 2 = .ok (.i2l, 1) := by decide +kernel
theorem dX12_soonest_3 : decode cX12_soonest 3 = .ok (.invokevirtual 275, 3) := by decide +kernel
theorem dX12_soonest_6 : decode cX12_soonest 6 = .ok (.ifCond .eq 20, 3) := by decide +kernel
theorem dX12_soonest_9 : decode cX12_soonest 9 = .ok (.aload_n 0, 1) := by decide +kernel
theorem dX12_soonest_10 : decode cX12_soonest 10 = .ok (.iload_n 2, 1) := by decide +kernel
theorem dX12_soonest_11 : decode cX12_soonest 11 = .ok (.i2l, 1) := by decide +kernel
theorem dX12_soonest_12 : decode cX12_soonest 12 = .ok (.invokevirtual 275, 3) := by decide +kernel
theorem dX12_soonest_15 : decode cX12_soonest 15 = .ok (.ifCond .eq 11, 3) := by decide +kernel
theorem dX12_soonest_18 : decode cX12_soonest 18 = .ok (.aload_n 0, 1) := by decide +kernel
theorem dX12_soonest_19 : decode cX12_soonest 19 = .ok (.iload_n 3, 1) := by decide +kernel
theorem dX12_soonest_20 : decode cX12_soonest 20 = .ok (.invokevirtual 288, 3) := by decide +kernel
theorem dX12_soonest_23 : decode cX12_soonest 23 = .ok (.ifCond .ne 9, 3) := by decide +kernel
theorem dX12_soonest_26 : decode cX12_soonest 26 = .ok (.aload_n 0, 1) := by decide +kernel
theorem dX12_soonest_27 : decode cX12_soonest 27 = .ok (.iconst 1, 1) := by decide +kernel
theorem dX12_soonest_28 : decode cX12_soonest 28 = .ok (.invokevirtual 185, 3) := by decide +kernel
theorem dX12_soonest_31 : decode cX12_soonest 31 = .ok (.ireturn, 1) := by decide +kernel
theorem dX12_soonest_32 : decode cX12_soonest 32 = .ok (.aload_n 0, 1) := by decide +kernel
theorem dX12_soonest_33 : decode cX12_soonest 33 = .ok (.iload_n 1, 1) := by decide +kernel
theorem dX12_soonest_34 : decode cX12_soonest 34 = .ok (.iload_n 2, 1) := by decide +kernel
theorem dX12_soonest_35 : decode cX12_soonest 35 = .ok (.invokevirtual 371, 3) := by decide +kernel
theorem dX12_soonest_38 : decode cX12_soonest 38 = .ok (.aload_n 0, 1) := by decide +kernel
theorem dX12_soonest_39 : decode cX12_soonest 39 = .ok (.getfield 63, 3) := by decide +kernel
theorem dX12_soonest_42 : decode cX12_soonest 42 = .ok (.iload_n 3, 1) := by decide +kernel
theorem dX12_soonest_43 : decode cX12_soonest 43 = .ok (.iaload, 1) := by decide +kernel
theorem dX12_soonest_44 : decode cX12_soonest 44 = .ok (.iconst (-1), 1) := by decide +kernel
theorem dX12_soonest_45 : decode cX12_soonest 45 = .ok (.if_icmp .ne 10, 3) := by decide +kernel
theorem dX12_soonest_48 : decode cX12_soonest 48 = .ok (.aload_n 0, 1) := by decide +kernel
theorem dX12_soonest_49 : decode cX12_soonest 49 = .ok (.bipush 6, 2) := by decide +kernel
theorem dX12_soonest_51 : decode cX12_soonest 51 = .ok (.invokevirtual 185, 3) := by decide +kernel
theorem dX12_soonest_54 : decode cX12_soonest 54 = .ok (.ireturn, 1) := by decide +kernel
theorem dX12_soonest_55 : decode cX12_soonest 55 = .ok (.aload_n 0, 1) := by decide +kernel
theorem dX12_soonest_56 : decode cX12_soonest 56 = .ok (.iload_n 1, 1) := by decide +kernel
theorem dX12_soonest_57 : decode cX12_soonest 57 = .ok (.iload_n 2, 1) := by decide +kernel
theorem dX12_soonest_58 : decode cX12_soonest 58 = .ok (.iload_n 3, 1) := by decide +kernel
theorem dX12_soonest_59 : decode cX12_soonest 59 = .ok (.invokevirtual 374, 3) := by decide +kernel
theorem dX12_soonest_62 : decode cX12_soonest 62 = .ok (.aload_n 0, 1) := by decide +kernel
theorem dX12_soonest_63 : decode cX12_soonest 63 = .ok (.aload_n 0, 1) := by decide +kernel
theorem dX12_soonest_64 : decode cX12_soonest 64 = .ok (.getfield 63, 3) := by decide +kernel
theorem dX12_soonest_67 : decode cX12_soonest 67 = .ok (.iload_n 3, 1) := by decide +kernel
theorem dX12_soonest_68 : decode cX12_soonest 68 = .ok (.iaload, 1) := by decide +kernel
theorem dX12_soonest_69 : decode cX12_soonest 69 = .ok (.invokevirtual 188, 3) := by decide +kernel
theorem dX12_soonest_72 : decode cX12_soonest 72 = .ok (.ireturn, 1) := by decide +kernel
theorem dX12_surestOf_0 : decode cX12_surestOf 0 = .ok (.aload_n 0, 1) := by decide +kernel
theorem dX12_surestOf_1 : decode cX12_surestOf 1 = .ok (.iload_n 1, 1) := by decide +kernel
theorem dX12_surestOf_2 : decode cX12_surestOf 2 = .ok (.iload_n 2, 1) := by decide +kernel
theorem dX12_surestOf_3 : decode cX12_surestOf 3 = .ok (.invokevirtual 371, 3) := by decide +kernel
theorem dX12_surestOf_6 : decode cX12_surestOf 6 = .ok (.iconst (-1), 1) := by decide +kernel
theorem dX12_surestOf_7 : decode cX12_surestOf 7 = .ok (.istore_n 3, 1) := by decide +kernel
theorem dX12_surestOf_8 : decode cX12_surestOf 8 = .ok (.iconst 0, 1) := by decide +kernel
theorem dX12_surestOf_9 : decode cX12_surestOf 9 = .ok (.istore 4, 2) := by decide +kernel
theorem dX12_surestOf_11 : decode cX12_surestOf 11 = .ok (.iload 4, 2) := by decide +kernel
theorem dX12_surestOf_13 : decode cX12_surestOf 13 = .ok (.aload_n 0, 1) := by decide +kernel
theorem dX12_surestOf_14 : decode cX12_surestOf 14 = .ok (.invokevirtual 263, 3) := by decide +kernel
theorem dX12_surestOf_17 : decode cX12_surestOf 17 = .ok (.if_icmp .ge 81, 3) := by decide +kernel
theorem dX12_surestOf_20 : decode cX12_surestOf 20 = .ok (.aload_n 0, 1) := by decide +kernel
theorem dX12_surestOf_21 : decode cX12_surestOf 21 = .ok (.getfield 63, 3) := by decide +kernel
theorem dX12_surestOf_24 : decode cX12_surestOf 24 = .ok (.iload 4, 2) := by decide +kernel
theorem dX12_surestOf_26 : decode cX12_surestOf 26 = .ok (.iaload, 1) := by decide +kernel
theorem dX12_surestOf_27 : decode cX12_surestOf 27 = .ok (.iconst (-1), 1) := by decide +kernel
theorem dX12_surestOf_28 : decode cX12_surestOf 28 = .ok (.if_icmp .ne 6, 3) := by decide +kernel
theorem dX12_surestOf_31 : decode cX12_surestOf 31 = .ok (.goto 61, 3) := by decide +kernel
theorem dX12_surestOf_34 : decode cX12_surestOf 34 = .ok (.iload_n 3, 1) := by decide +kernel
theorem dX12_surestOf_35 : decode cX12_surestOf 35 = .ok (.iconst (-1), 1) := by decide +kernel
theorem dX12_surestOf_36 : decode cX12_surestOf 36 = .ok (.if_icmp .ne 7, 3) := by decide +kernel
theorem dX12_surestOf_39 : decode cX12_surestOf 39 = .ok (.lconst 1, 1) := by decide +kernel
theorem dX12_surestOf_40 : decode cX12_surestOf 40 = .ok (.goto 17, 3) := by decide +kernel
theorem dX12_surestOf_43 : decode cX12_surestOf 43 = .ok (.aload_n 0, 1) := by decide +kernel
theorem dX12_surestOf_44 : decode cX12_surestOf 44 = .ok (.iconst 0, 1) := by decide +kernel
theorem dX12_surestOf_45 : decode cX12_surestOf 45 = .ok (.iload 4, 2) := by decide +kernel
theorem dX12_surestOf_47 : decode cX12_surestOf 47 = .ok (.invokevirtual 308, 3) := by decide +kernel
theorem dX12_surestOf_50 : decode cX12_surestOf 50 = .ok (.aload_n 0, 1) := by decide +kernel
theorem dX12_surestOf_51 : decode cX12_surestOf 51 = .ok (.iconst 0, 1) := by decide +kernel
theorem dX12_surestOf_52 : decode cX12_surestOf 52 = .ok (.iload_n 3, 1) := by decide +kernel
theorem dX12_surestOf_53 : decode cX12_surestOf 53 = .ok (.invokevirtual 308, 3) := by decide +kernel
theorem dX12_surestOf_56 : decode cX12_surestOf 56 = .ok (.lsub, 1) := by decide +kernel
theorem dX12_surestOf_57 : decode cX12_surestOf 57 = .ok (.lstore 5, 2) := by decide +kernel
theorem dX12_surestOf_59 : decode cX12_surestOf 59 = .ok (.lload 5, 2) := by decide +kernel
theorem dX12_surestOf_61 : decode cX12_surestOf 61 = .ok (.lconst 0, 1) := by decide +kernel
theorem dX12_surestOf_62 : decode cX12_surestOf 62 = .ok (.lcmp, 1) := by decide +kernel
theorem dX12_surestOf_63 : decode cX12_surestOf 63 = .ok (.ifCond .gt 26, 3) := by decide +kernel
theorem dX12_surestOf_66 : decode cX12_surestOf 66 = .ok (.lload 5, 2) := by decide +kernel
theorem dX12_surestOf_68 : decode cX12_surestOf 68 = .ok (.lconst 0, 1) := by decide +kernel
theorem dX12_surestOf_69 : decode cX12_surestOf 69 = .ok (.lcmp, 1) := by decide +kernel
theorem dX12_surestOf_70 : decode cX12_surestOf 70 = .ok (.ifCond .ne 22, 3) := by decide +kernel
theorem dX12_surestOf_73 : decode cX12_surestOf 73 = .ok (.aload_n 0, 1) := by decide +kernel
theorem dX12_surestOf_74 : decode cX12_surestOf 74 = .ok (.getfield 63, 3) := by decide +kernel
theorem dX12_surestOf_77 : decode cX12_surestOf 77 = .ok (.iload 4, 2) := by decide +kernel
theorem dX12_surestOf_79 : decode cX12_surestOf 79 = .ok (.iaload, 1) := by decide +kernel
theorem dX12_surestOf_80 : decode cX12_surestOf 80 = .ok (.aload_n 0, 1) := by decide +kernel
theorem dX12_surestOf_81 : decode cX12_surestOf 81 = .ok (.getfield 63, 3) := by decide +kernel
theorem dX12_surestOf_84 : decode cX12_surestOf 84 = .ok (.iload_n 3, 1) := by decide +kernel
theorem dX12_surestOf_85 : decode cX12_surestOf 85 = .ok (.iaload, 1) := by decide +kernel
theorem dX12_surestOf_86 : decode cX12_surestOf 86 = .ok (.if_icmp .ge 6, 3) := by decide +kernel
theorem dX12_surestOf_89 : decode cX12_surestOf 89 = .ok (.iload 4, 2) := by decide +kernel
theorem dX12_surestOf_91 : decode cX12_surestOf 91 = .ok (.istore_n 3, 1) := by decide +kernel
theorem dX12_surestOf_92 : decode cX12_surestOf 92 = .ok (.iinc 4 1, 3) := by decide +kernel
theorem dX12_surestOf_95 : decode cX12_surestOf 95 = .ok (.goto (-84), 3) := by decide +kernel
theorem dX12_surestOf_98 : decode cX12_surestOf 98 = .ok (.iload_n 3, 1) := by decide +kernel
theorem dX12_surestOf_99 : decode cX12_surestOf 99 = .ok (.ireturn, 1) := by decide +kernel
theorem dX12_areCells_0 : decode cX12_areCells 0 = .ok (.aload_n 0, 1) := by decide +kernel
theorem dX12_areCells_1 : decode cX12_areCells 1 = .ok (.iload_n 1, 1) := by decide +kernel
theorem dX12_areCells_2 : decode cX12_areCells 2 = .ok (.i2l, 1) := by decide +kernel
theorem dX12_areCells_3 : decode cX12_areCells 3 = .ok (.invokevirtual 275, 3) := by decide +kernel
theorem dX12_areCells_6 : decode cX12_areCells 6 = .ok (.ifCond .eq 16, 3) := by decide +kernel
theorem dX12_areCells_9 : decode cX12_areCells 9 = .ok (.aload_n 0, 1) := by decide +kernel
theorem dX12_areCells_10 : decode cX12_areCells 10 = .ok (.iload_n 2, 1) := by decide +kernel
theorem dX12_areCells_11 : decode cX12_areCells 11 = .ok (.i2l, 1) := by decide +kernel
theorem dX12_areCells_12 : decode cX12_areCells 12 = .ok (.invokevirtual 275, 3) := by decide +kernel
theorem dX12_areCells_15 : decode cX12_areCells 15 = .ok (.ifCond .eq 7, 3) := by decide +kernel
theorem dX12_areCells_18 : decode cX12_areCells 18 = .ok (.iconst 1, 1) := by decide +kernel
theorem dX12_areCells_19 : decode cX12_areCells 19 = .ok (.goto 4, 3) := by decide +kernel
theorem dX12_areCells_22 : decode cX12_areCells 22 = .ok (.iconst 0, 1) := by decide +kernel
theorem dX12_areCells_23 : decode cX12_areCells 23 = .ok (.ireturn, 1) := by decide +kernel
theorem dX12_surest_0 : decode cX12_surest 0 = .ok (.aload_n 0, 1) := by decide +kernel
theorem dX12_surest_1 : decode cX12_surest 1 = .ok (.iload_n 1, 1) := by decide +kernel
theorem dX12_surest_2 : decode cX12_surest 2 = .ok (.iload_n 2, 1) := by decide +kernel
theorem dX12_surest_3 : decode cX12_surest 3 = .ok (.invokevirtual 378, 3) := by decide +kernel
theorem dX12_surest_6 : decode cX12_surest 6 = .ok (.ifCond .ne 9, 3) := by decide +kernel
theorem dX12_surest_9 : decode cX12_surest 9 = .ok (.aload_n 0, 1) := by decide +kernel
theorem dX12_surest_10 : decode cX12_surest 10 = .ok (.iconst 1, 1) := by decide +kernel
theorem dX12_surest_11 : decode cX12_surest 11 = .ok (.invokevirtual 185, 3) := by decide +kernel
theorem dX12_surest_14 : decode cX12_surest 14 = .ok (.ireturn, 1) := by decide +kernel
theorem dX12_surest_15 : decode cX12_surest 15 = .ok (.aload_n 0, 1) := by decide +kernel
theorem dX12_surest_16 : decode cX12_surest 16 = .ok (.iload_n 1, 1) := by decide +kernel
theorem dX12_surest_17 : decode cX12_surest 17 = .ok (.iload_n 2, 1) := by decide +kernel
theorem dX12_surest_18 : decode cX12_surest 18 = .ok (.invokevirtual 381, 3) := by decide +kernel
theorem dX12_surest_21 : decode cX12_surest 21 = .ok (.istore_n 3, 1) := by decide +kernel
theorem dX12_surest_22 : decode cX12_surest 22 = .ok (.iload_n 3, 1) := by decide +kernel
theorem dX12_surest_23 : decode cX12_surest 23 = .ok (.iconst (-1), 1) := by decide +kernel
theorem dX12_surest_24 : decode cX12_surest 24 = .ok (.if_icmp .ne 10, 3) := by decide +kernel
theorem dX12_surest_27 : decode cX12_surest 27 = .ok (.aload_n 0, 1) := by decide +kernel
theorem dX12_surest_28 : decode cX12_surest 28 = .ok (.bipush 6, 2) := by decide +kernel
theorem dX12_surest_30 : decode cX12_surest 30 = .ok (.invokevirtual 185, 3) := by decide +kernel
theorem dX12_surest_33 : decode cX12_surest 33 = .ok (.ireturn, 1) := by decide +kernel
theorem dX12_surest_34 : decode cX12_surest 34 = .ok (.aload_n 0, 1) := by decide +kernel
theorem dX12_surest_35 : decode cX12_surest 35 = .ok (.iload_n 1, 1) := by decide +kernel
theorem dX12_surest_36 : decode cX12_surest 36 = .ok (.iload_n 2, 1) := by decide +kernel
theorem dX12_surest_37 : decode cX12_surest 37 = .ok (.iload_n 3, 1) := by decide +kernel
theorem dX12_surest_38 : decode cX12_surest 38 = .ok (.invokevirtual 374, 3) := by decide +kernel
theorem dX12_surest_41 : decode cX12_surest 41 = .ok (.aload_n 0, 1) := by decide +kernel
theorem dX12_surest_42 : decode cX12_surest 42 = .ok (.aload_n 0, 1) := by decide +kernel
theorem dX12_surest_43 : decode cX12_surest 43 = .ok (.iconst 0, 1) := by decide +kernel
theorem dX12_surest_44 : decode cX12_surest 44 = .ok (.iload_n 3, 1) := by decide +kernel
theorem dX12_surest_45 : decode cX12_surest 45 = .ok (.invokevirtual 308, 3) := by decide +kernel
theorem dX12_surest_48 : decode cX12_surest 48 = .ok (.ldc2_w 300, 3) := by decide +kernel
theorem dX12_surest_51 : decode cX12_surest 51 = .ok (.invokevirtual 312, 3) := by decide +kernel
theorem dX12_surest_54 : decode cX12_surest 54 = .ok (.pop, 1) := by decide +kernel
theorem dX12_surest_55 : decode cX12_surest 55 = .ok (.aload_n 0, 1) := by decide +kernel
theorem dX12_surest_56 : decode cX12_surest 56 = .ok (.iload_n 3, 1) := by decide +kernel
theorem dX12_surest_57 : decode cX12_surest 57 = .ok (.invokevirtual 188, 3) := by decide +kernel
theorem dX12_surest_60 : decode cX12_surest 60 = .ok (.ireturn, 1) := by decide +kernel
theorem dX12_meanOf_0 : decode cX12_meanOf 0 = .ok (.ldc2_w 300, 3) := by decide +kernel
theorem dX12_meanOf_3 : decode cX12_meanOf 3 = .ok (.aload_n 0, 1) := by decide +kernel
theorem dX12_meanOf_4 : decode cX12_meanOf 4 = .ok (.getfield 63, 3) := by decide +kernel
theorem dX12_meanOf_7 : decode cX12_meanOf 7 = .ok (.iload_n 1, 1) := by decide +kernel
theorem dX12_meanOf_8 : decode cX12_meanOf 8 = .ok (.iaload, 1) := by decide +kernel
theorem dX12_meanOf_9 : decode cX12_meanOf 9 = .ok (.i2l, 1) := by decide +kernel
theorem dX12_meanOf_10 : decode cX12_meanOf 10 = .ok (.lmul, 1) := by decide +kernel
theorem dX12_meanOf_11 : decode cX12_meanOf 11 = .ok (.lstore_n 2, 1) := by decide +kernel
theorem dX12_meanOf_12 : decode cX12_meanOf 12 = .ok (.iconst 0, 1) := by decide +kernel
theorem dX12_meanOf_13 : decode cX12_meanOf 13 = .ok (.istore 4, 2) := by decide +kernel
theorem dX12_meanOf_15 : decode cX12_meanOf 15 = .ok (.iload 4, 2) := by decide +kernel
theorem dX12_meanOf_17 : decode cX12_meanOf 17 = .ok (.aload_n 0, 1) := by decide +kernel
theorem dX12_meanOf_18 : decode cX12_meanOf 18 = .ok (.getfield 7, 3) := by decide +kernel
theorem dX12_meanOf_21 : decode cX12_meanOf 21 = .ok (.iconst 2, 1) := by decide +kernel
theorem dX12_meanOf_22 : decode cX12_meanOf 22 = .ok (.iaload, 1) := by decide +kernel
theorem dX12_meanOf_23 : decode cX12_meanOf 23 = .ok (.if_icmp .ge 44, 3) := by decide +kernel
theorem dX12_meanOf_26 : decode cX12_meanOf 26 = .ok (.lload_n 2, 1) := by decide +kernel
theorem dX12_meanOf_27 : decode cX12_meanOf 27 = .ok (.iload_n 1, 1) := by decide +kernel
theorem dX12_meanOf_28 : decode cX12_meanOf 28 = .ok (.iload 4, 2) := by decide +kernel
theorem dX12_meanOf_30 : decode cX12_meanOf 30 = .ok (.ishr, 1) := by decide +kernel
theorem dX12_meanOf_31 : decode cX12_meanOf 31 = .ok (.iconst 1, 1) := by decide +kernel
theorem dX12_meanOf_32 : decode cX12_meanOf 32 = .ok (.iand, 1) := by decide +kernel
theorem dX12_meanOf_33 : decode cX12_meanOf 33 = .ok (.iconst 1, 1) := by decide +kernel
theorem dX12_meanOf_34 : decode cX12_meanOf 34 = .ok (.if_icmp .ne 24, 3) := by decide +kernel
theorem dX12_meanOf_37 : decode cX12_meanOf 37 = .ok (.aload_n 0, 1) := by decide +kernel
theorem dX12_meanOf_38 : decode cX12_meanOf 38 = .ok (.getfield 7, 3) := by decide +kernel
theorem dX12_meanOf_41 : decode cX12_meanOf 41 = .ok (.bipush 10, 2) := by decide +kernel
theorem dX12_meanOf_43 : decode cX12_meanOf 43 = .ok (.iaload, 1) := by decide +kernel
theorem dX12_meanOf_44 : decode cX12_meanOf 44 = .ok (.i2l, 1) := by decide +kernel
theorem dX12_meanOf_45 : decode cX12_meanOf 45 = .ok (.aload_n 0, 1) := by decide +kernel
theorem dX12_meanOf_46 : decode cX12_meanOf 46 = .ok (.iconst 1, 1) := by decide +kernel
theorem dX12_meanOf_47 : decode cX12_meanOf 47 = .ok (.iload 4, 2) := by decide +kernel
theorem dX12_meanOf_49 : decode cX12_meanOf 49 = .ok (.ishl, 1) := by decide +kernel
theorem dX12_meanOf_50 : decode cX12_meanOf 50 = .ok (.iconst 0, 1) := by decide +kernel
theorem dX12_meanOf_51 : decode cX12_meanOf 51 = .ok (.invokevirtual 308, 3) := by decide +kernel
theorem dX12_meanOf_54 : decode cX12_meanOf 54 = .ok (.lmul, 1) := by decide +kernel
theorem dX12_meanOf_55 : decode cX12_meanOf 55 = .ok (.goto 4, 3) := by decide +kernel
theorem dX12_meanOf_58 : decode cX12_meanOf 58 = .ok (.lconst 0, 1) := by decide +kernel
theorem dX12_meanOf_59 : decode cX12_meanOf 59 = .ok (.ladd, 1) := by decide +kernel
theorem dX12_meanOf_60 : decode cX12_meanOf 60 = .ok (.lstore_n 2, 1) := by decide +kernel
theorem dX12_meanOf_61 : decode cX12_meanOf 61 = .ok (.iinc 4 1, 3) := by decide +kernel
theorem dX12_meanOf_64 : decode cX12_meanOf 64 = .ok (.goto (-49), 3) := by decide +kernel
theorem dX12_meanOf_67 : decode cX12_meanOf 67 = .ok (.lload_n 2, 1) := by decide +kernel
theorem dX12_meanOf_68 : decode cX12_meanOf 68 = .ok (.lreturn, 1) := by decide +kernel
theorem dX12_mean_0 : decode cX12_mean 0 = .ok (.aload_n 0, 1) := by decide +kernel
theorem dX12_mean_1 : decode cX12_mean 1 = .ok (.iload_n 1, 1) := by decide +kernel
theorem dX12_mean_2 : decode cX12_mean 2 = .ok (.iload_n 2, 1) := by decide +kernel
theorem dX12_mean_3 : decode cX12_mean 3 = .ok (.invokevirtual 378, 3) := by decide +kernel
theorem dX12_mean_6 : decode cX12_mean 6 = .ok (.ifCond .ne 9, 3) := by decide +kernel
theorem dX12_mean_9 : decode cX12_mean 9 = .ok (.aload_n 0, 1) := by decide +kernel
theorem dX12_mean_10 : decode cX12_mean 10 = .ok (.iconst 1, 1) := by decide +kernel
theorem dX12_mean_11 : decode cX12_mean 11 = .ok (.invokevirtual 185, 3) := by decide +kernel
theorem dX12_mean_14 : decode cX12_mean 14 = .ok (.ireturn, 1) := by decide +kernel
theorem dX12_mean_15 : decode cX12_mean 15 = .ok (.aload_n 0, 1) := by decide +kernel
theorem dX12_mean_16 : decode cX12_mean 16 = .ok (.iload_n 1, 1) := by decide +kernel
theorem dX12_mean_17 : decode cX12_mean 17 = .ok (.iload_n 2, 1) := by decide +kernel
theorem dX12_mean_18 : decode cX12_mean 18 = .ok (.invokevirtual 371, 3) := by decide +kernel
theorem dX12_mean_21 : decode cX12_mean 21 = .ok (.iconst (-1), 1) := by decide +kernel
theorem dX12_mean_22 : decode cX12_mean 22 = .ok (.istore_n 3, 1) := by decide +kernel
theorem dX12_mean_23 : decode cX12_mean 23 = .ok (.iconst 0, 1) := by decide +kernel
theorem dX12_mean_24 : decode cX12_mean 24 = .ok (.istore 4, 2) := by decide +kernel
theorem dX12_mean_26 : decode cX12_mean 26 = .ok (.iload 4, 2) := by decide +kernel
theorem dX12_mean_28 : decode cX12_mean 28 = .ok (.aload_n 0, 1) := by decide +kernel
theorem dX12_mean_29 : decode cX12_mean 29 = .ok (.invokevirtual 263, 3) := by decide +kernel
theorem dX12_mean_32 : decode cX12_mean 32 = .ok (.if_icmp .ge 43, 3) := by decide +kernel
theorem dX12_mean_35 : decode cX12_mean 35 = .ok (.aload_n 0, 1) := by decide +kernel
theorem dX12_mean_36 : decode cX12_mean 36 = .ok (.getfield 63, 3) := by decide +kernel
theorem dX12_mean_39 : decode cX12_mean 39 = .ok (.iload 4, 2) := by decide +kernel
theorem dX12_mean_41 : decode cX12_mean 41 = .ok (.iaload, 1) := by decide +kernel
theorem dX12_mean_42 : decode cX12_mean 42 = .ok (.iconst (-1), 1) := by decide +kernel
theorem dX12_mean_43 : decode cX12_mean 43 = .ok (.if_icmp .eq 26, 3) := by decide +kernel
theorem dX12_mean_46 : decode cX12_mean 46 = .ok (.iload_n 3, 1) := by decide +kernel
theorem dX12_mean_47 : decode cX12_mean 47 = .ok (.iconst (-1), 1) := by decide +kernel
theorem dX12_mean_48 : decode cX12_mean 48 = .ok (.if_icmp .eq 18, 3) := by decide +kernel
theorem dX12_mean_51 : decode cX12_mean 51 = .ok (.aload_n 0, 1) := by decide +kernel
theorem dX12_mean_52 : decode cX12_mean 52 = .ok (.iload 4, 2) := by decide +kernel
theorem dX12_mean_54 : decode cX12_mean 54 = .ok (.invokevirtual 384, 3) := by decide +kernel
theorem dX12_mean_57 : decode cX12_mean 57 = .ok (.aload_n 0, 1) := by decide +kernel
theorem dX12_mean_58 : decode cX12_mean 58 = .ok (.iload_n 3, 1) := by decide +kernel
theorem dX12_mean_59 : decode cX12_mean 59 = .ok (.invokevirtual 384, 3) := by decide +kernel
theorem dX12_mean_62 : decode cX12_mean 62 = .ok (.lcmp, 1) := by decide +kernel
theorem dX12_mean_63 : decode cX12_mean 63 = .ok (.ifCond .ge 6, 3) := by decide +kernel
theorem dX12_mean_66 : decode cX12_mean 66 = .ok (.iload 4, 2) := by decide +kernel
theorem dX12_mean_68 : decode cX12_mean 68 = .ok (.istore_n 3, 1) := by decide +kernel
theorem dX12_mean_69 : decode cX12_mean 69 = .ok (.iinc 4 1, 3) := by decide +kernel
theorem dX12_mean_72 : decode cX12_mean 72 = .ok (.goto (-46), 3) := by decide +kernel
theorem dX12_mean_75 : decode cX12_mean 75 = .ok (.iload_n 3, 1) := by decide +kernel
theorem dX12_mean_76 : decode cX12_mean 76 = .ok (.iconst (-1), 1) := by decide +kernel
theorem dX12_mean_77 : decode cX12_mean 77 = .ok (.if_icmp .ne 10, 3) := by decide +kernel
theorem dX12_mean_80 : decode cX12_mean 80 = .ok (.aload_n 0, 1) := by decide +kernel
theorem dX12_mean_81 : decode cX12_mean 81 = .ok (.bipush 6, 2) := by decide +kernel
theorem dX12_mean_83 : decode cX12_mean 83 = .ok (.invokevirtual 185, 3) := by decide +kernel
theorem dX12_mean_86 : decode cX12_mean 86 = .ok (.ireturn, 1) := by decide +kernel
theorem dX12_mean_87 : decode cX12_mean 87 = .ok (.aload_n 0, 1) := by decide +kernel
theorem dX12_mean_88 : decode cX12_mean 88 = .ok (.iload_n 1, 1) := by decide +kernel
theorem dX12_mean_89 : decode cX12_mean 89 = .ok (.iload_n 2, 1) := by decide +kernel
theorem dX12_mean_90 : decode cX12_mean 90 = .ok (.iload_n 3, 1) := by decide +kernel
theorem dX12_mean_91 : decode cX12_mean 91 = .ok (.invokevirtual 374, 3) := by decide +kernel
theorem dX12_mean_94 : decode cX12_mean 94 = .ok (.aload_n 0, 1) := by decide +kernel
theorem dX12_mean_95 : decode cX12_mean 95 = .ok (.aload_n 0, 1) := by decide +kernel
theorem dX12_mean_96 : decode cX12_mean 96 = .ok (.iload_n 3, 1) := by decide +kernel
theorem dX12_mean_97 : decode cX12_mean 97 = .ok (.invokevirtual 384, 3) := by decide +kernel
theorem dX12_mean_100 : decode cX12_mean 100 = .ok (.ldc2_w 300, 3) := by decide +kernel
theorem dX12_mean_103 : decode cX12_mean 103 = .ok (.invokevirtual 312, 3) := by decide +kernel
theorem dX12_mean_106 : decode cX12_mean 106 = .ok (.pop, 1) := by decide +kernel
theorem dX12_mean_107 : decode cX12_mean 107 = .ok (.aload_n 0, 1) := by decide +kernel
theorem dX12_mean_108 : decode cX12_mean 108 = .ok (.iload_n 3, 1) := by decide +kernel
theorem dX12_mean_109 : decode cX12_mean 109 = .ok (.invokevirtual 188, 3) := by decide +kernel
theorem dX12_mean_112 : decode cX12_mean 112 = .ok (.ireturn, 1) := by decide +kernel
theorem dX12_length_0 : decode cX12_length 0 = .ok (.aload_n 0, 1) := by decide +kernel
theorem dX12_length_1 : decode cX12_length 1 = .ok (.getfield 368, 3) := by decide +kernel
theorem dX12_length_4 : decode cX12_length 4 = .ok (.ifCond .ne 12, 3) := by decide +kernel
theorem dX12_length_7 : decode cX12_length 7 = .ok (.aload_n 0, 1) := by decide +kernel
theorem dX12_length_8 : decode cX12_length 8 = .ok (.bipush 6, 2) := by decide +kernel
theorem dX12_length_10 : decode cX12_length 10 = .ok (.invokevirtual 185, 3) := by decide +kernel
theorem dX12_length_13 : decode cX12_length 13 = .ok (.goto 11, 3) := by decide +kernel
theorem dX12_length_16 : decode cX12_length 16 = .ok (.aload_n 0, 1) := by decide +kernel
theorem dX12_length_17 : decode cX12_length 17 = .ok (.aload_n 0, 1) := by decide +kernel
theorem dX12_length_18 : decode cX12_length 18 = .ok (.getfield 368, 3) := by decide +kernel
theorem dX12_length_21 : decode cX12_length 21 = .ok (.invokevirtual 188, 3) := by decide +kernel
theorem dX12_length_24 : decode cX12_length 24 = .ok (.ireturn, 1) := by decide +kernel
theorem dX12_way_0 : decode cX12_way 0 = .ok (.iload_n 1, 1) := by decide +kernel
theorem dX12_way_1 : decode cX12_way 1 = .ok (.ifCond .lt 11, 3) := by decide +kernel
theorem dX12_way_4 : decode cX12_way 4 = .ok (.iload_n 1, 1) := by decide +kernel
theorem dX12_way_5 : decode cX12_way 5 = .ok (.aload_n 0, 1) := by decide +kernel
theorem dX12_way_6 : decode cX12_way 6 = .ok (.getfield 368, 3) := by decide +kernel
theorem dX12_way_9 : decode cX12_way 9 = .ok (.if_icmp .lt 12, 3) := by decide +kernel
theorem dX12_way_12 : decode cX12_way 12 = .ok (.aload_n 0, 1) := by decide +kernel
theorem dX12_way_13 : decode cX12_way 13 = .ok (.bipush 6, 2) := by decide +kernel
theorem dX12_way_15 : decode cX12_way 15 = .ok (.invokevirtual 185, 3) := by decide +kernel
theorem dX12_way_18 : decode cX12_way 18 = .ok (.goto 13, 3) := by decide +kernel
theorem dX12_way_21 : decode cX12_way 21 = .ok (.aload_n 0, 1) := by decide +kernel
theorem dX12_way_22 : decode cX12_way 22 = .ok (.aload_n 0, 1) := by decide +kernel
theorem dX12_way_23 : decode cX12_way 23 = .ok (.getfield 69, 3) := by decide +kernel
theorem dX12_way_26 : decode cX12_way 26 = .ok (.iload_n 1, 1) := by decide +kernel
theorem dX12_way_27 : decode cX12_way 27 = .ok (.iaload, 1) := by decide +kernel
theorem dX12_way_28 : decode cX12_way 28 = .ok (.invokevirtual 188, 3) := by decide +kernel
theorem dX12_way_31 : decode cX12_way 31 = .ok (.ireturn, 1) := by decide +kernel
theorem dX12_worth0_0 : decode cX12_worth0 0 = .ok (.lconst 0, 1) := by decide +kernel
theorem dX12_worth0_1 : decode cX12_worth0 1 = .ok (.lstore_n 2, 1) := by decide +kernel
theorem dX12_worth0_2 : decode cX12_worth0 2 = .ok (.iconst 0, 1) := by decide +kernel
theorem dX12_worth0_3 : decode cX12_worth0 3 = .ok (.istore 4, 2) := by decide +kernel
theorem dX12_worth0_5 : decode cX12_worth0 5 = .ok (.iload 4, 2) := by decide +kernel
theorem dX12_worth0_7 : decode cX12_worth0 7 = .ok (.aload_n 0, 1) := by decide +kernel
theorem dX12_worth0_8 : decode cX12_worth0 8 = .ok (.invokevirtual 263, 3) := by decide +kernel
theorem dX12_worth0_11 : decode cX12_worth0 11 = .ok (.if_icmp .ge 77, 3) := by decide +kernel
theorem dX12_worth0_14 : decode cX12_worth0 14 = .ok (.aload_n 0, 1) := by decide +kernel
theorem dX12_worth0_15 : decode cX12_worth0 15 = .ok (.getfield 63, 3) := by decide +kernel
theorem dX12_worth0_18 : decode cX12_worth0 18 = .ok (.iload 4, 2) := by decide +kernel
theorem dX12_worth0_20 : decode cX12_worth0 20 = .ok (.iaload, 1) := by decide +kernel
theorem dX12_worth0_21 : decode cX12_worth0 21 = .ok (.iconst (-1), 1) := by decide +kernel
theorem dX12_worth0_22 : decode cX12_worth0 22 = .ok (.if_icmp .ne 6, 3) := by decide +kernel
theorem dX12_worth0_25 : decode cX12_worth0 25 = .ok (.goto 57, 3) := by decide +kernel
theorem dX12_worth0_28 : decode cX12_worth0 28 = .ok (.lconst 0, 1) := by decide +kernel
theorem dX12_worth0_29 : decode cX12_worth0 29 = .ok (.lstore 5, 2) := by decide +kernel
theorem dX12_worth0_31 : decode cX12_worth0 31 = .ok (.iconst 0, 1) := by decide +kernel
theorem dX12_worth0_32 : decode cX12_worth0 32 = .ok (.istore 7, 2) := by decide +kernel
theorem dX12_worth0_34 : decode cX12_worth0 34 = .ok (.iload 7, 2) := by decide +kernel
theorem dX12_worth0_36 : decode cX12_worth0 36 = .ok (.aload_n 0, 1) := by decide +kernel
theorem dX12_worth0_37 : decode cX12_worth0 37 = .ok (.invokevirtual 263, 3) := by decide +kernel
theorem dX12_worth0_40 : decode cX12_worth0 40 = .ok (.if_icmp .ge 35, 3) := by decide +kernel
theorem dX12_worth0_43 : decode cX12_worth0 43 = .ok (.lload 5, 2) := by decide +kernel
theorem dX12_worth0_45 : decode cX12_worth0 45 = .ok (.iload 7, 2) := by decide +kernel
theorem dX12_worth0_47 : decode cX12_worth0 47 = .ok (.iload 4, 2) := by decide +kernel
theorem dX12_worth0_49 : decode cX12_worth0 49 = .ok (.iand, 1) := by decide +kernel
theorem dX12_worth0_50 : decode cX12_worth0 50 = .ok (.ifCond .ne 15, 3) := by decide +kernel
theorem dX12_worth0_53 : decode cX12_worth0 53 = .ok (.aload_n 0, 1) := by decide +kernel
theorem dX12_worth0_54 : decode cX12_worth0 54 = .ok (.getfield 72, 3) := by decide +kernel
theorem dX12_worth0_57 : decode cX12_worth0 57 = .ok (.iload_n 1, 1) := by decide +kernel
theorem dX12_worth0_58 : decode cX12_worth0 58 = .ok (.iload 7, 2) := by decide +kernel
theorem dX12_worth0_60 : decode cX12_worth0 60 = .ok (.iadd, 1) := by decide +kernel
theorem dX12_worth0_61 : decode cX12_worth0 61 = .ok (.laload, 1) := by decide +kernel
theorem dX12_worth0_62 : decode cX12_worth0 62 = .ok (.goto 4, 3) := by decide +kernel
theorem dX12_worth0_65 : decode cX12_worth0 65 = .ok (.lconst 0, 1) := by decide +kernel
theorem dX12_worth0_66 : decode cX12_worth0 66 = .ok (.ladd, 1) := by decide +kernel
theorem dX12_worth0_67 : decode cX12_worth0 67 = .ok (.lstore 5, 2) := by decide +kernel
theorem dX12_worth0_69 : decode cX12_worth0 69 = .ok (.iinc 7 1, 3) := by decide +kernel
theorem dX12_worth0_72 : decode cX12_worth0 72 = .ok (.goto (-38), 3) := by decide +kernel
theorem dX12_worth0_75 : decode cX12_worth0 75 = .ok (.lload_n 2, 1) := by decide +kernel
theorem dX12_worth0_76 : decode cX12_worth0 76 = .ok (.lload 5, 2) := by decide +kernel
theorem dX12_worth0_78 : decode cX12_worth0 78 = .ok (.invokestatic 388, 3) := by decide +kernel
theorem dX12_worth0_81 : decode cX12_worth0 81 = .ok (.lstore_n 2, 1) := by decide +kernel
theorem dX12_worth0_82 : decode cX12_worth0 82 = .ok (.iinc 4 1, 3) := by decide +kernel
theorem dX12_worth0_85 : decode cX12_worth0 85 = .ok (.goto (-80), 3) := by decide +kernel
theorem dX12_worth0_88 : decode cX12_worth0 88 = .ok (.lload_n 2, 1) := by decide +kernel
theorem dX12_worth0_89 : decode cX12_worth0 89 = .ok (.lreturn, 1) := by decide +kernel
theorem dX12_reads_0 : decode cX12_reads 0 = .ok (.aload_n 0, 1) := by decide +kernel
theorem dX12_reads_1 : decode cX12_reads 1 = .ok (.iload_n 2, 1) := by decide +kernel
theorem dX12_reads_2 : decode cX12_reads 2 = .ok (.invokevirtual 272, 3) := by decide +kernel
theorem dX12_reads_5 : decode cX12_reads 5 = .ok (.istore 4, 2) := by decide +kernel
theorem dX12_reads_7 : decode cX12_reads 7 = .ok (.lconst 0, 1) := by decide +kernel
theorem dX12_reads_8 : decode cX12_reads 8 = .ok (.lstore 5, 2) := by decide +kernel
theorem dX12_reads_10 : decode cX12_reads 10 = .ok (.iconst 0, 1) := by decide +kernel
theorem dX12_reads_11 : decode cX12_reads 11 = .ok (.istore 7, 2) := by decide +kernel
theorem dX12_reads_13 : decode cX12_reads 13 = .ok (.iload 7, 2) := by decide +kernel
theorem dX12_reads_15 : decode cX12_reads 15 = .ok (.aload_n 0, 1) := by decide +kernel
theorem dX12_reads_16 : decode cX12_reads 16 = .ok (.invokevirtual 263, 3) := by decide +kernel
theorem dX12_reads_19 : decode cX12_reads 19 = .ok (.if_icmp .ge 62, 3) := by decide +kernel
theorem dX12_reads_22 : decode cX12_reads 22 = .ok (.aload_n 0, 1) := by decide +kernel
theorem dX12_reads_23 : decode cX12_reads 23 = .ok (.getfield 72, 3) := by decide +kernel
theorem dX12_reads_26 : decode cX12_reads 26 = .ok (.iload_n 1, 1) := by decide +kernel
theorem dX12_reads_27 : decode cX12_reads 27 = .ok (.bipush 32, 2) := by decide +kernel
theorem dX12_reads_29 : decode cX12_reads 29 = .ok (.iadd, 1) := by decide +kernel
theorem dX12_reads_30 : decode cX12_reads 30 = .ok (.iload 7, 2) := by decide +kernel
theorem dX12_reads_32 : decode cX12_reads 32 = .ok (.iadd, 1) := by decide +kernel
theorem dX12_reads_33 : decode cX12_reads 33 = .ok (.aload_n 0, 1) := by decide +kernel
theorem dX12_reads_34 : decode cX12_reads 34 = .ok (.getfield 72, 3) := by decide +kernel
theorem dX12_reads_37 : decode cX12_reads 37 = .ok (.iload_n 1, 1) := by decide +kernel
theorem dX12_reads_38 : decode cX12_reads 38 = .ok (.iload 7, 2) := by decide +kernel
theorem dX12_reads_40 : decode cX12_reads 40 = .ok (.iadd, 1) := by decide +kernel
theorem dX12_reads_41 : decode cX12_reads 41 = .ok (.laload, 1) := by decide +kernel
theorem dX12_reads_42 : decode cX12_reads 42 = .ok (.aload_n 0, 1) := by decide +kernel
theorem dX12_reads_43 : decode cX12_reads 43 = .ok (.aload_n 0, 1) := by decide +kernel
theorem dX12_reads_44 : decode cX12_reads 44 = .ok (.iload 4, 2) := by decide +kernel
theorem dX12_reads_46 : decode cX12_reads 46 = .ok (.iload 7, 2) := by decide +kernel
theorem dX12_reads_48 : decode cX12_reads 48 = .ok (.invokevirtual 291, 3) := by decide +kernel
theorem dX12_reads_51 : decode cX12_reads 51 = .ok (.iload_n 3, 1) := by decide +kernel
theorem dX12_reads_52 : decode cX12_reads 52 = .ok (.invokevirtual 305, 3) := by decide +kernel
theorem dX12_reads_55 : decode cX12_reads 55 = .ok (.i2l, 1) := by decide +kernel
theorem dX12_reads_56 : decode cX12_reads 56 = .ok (.lmul, 1) := by decide +kernel
theorem dX12_reads_57 : decode cX12_reads 57 = .ok (.lastore, 1) := by decide +kernel
theorem dX12_reads_58 : decode cX12_reads 58 = .ok (.lload 5, 2) := by decide +kernel
theorem dX12_reads_60 : decode cX12_reads 60 = .ok (.aload_n 0, 1) := by decide +kernel
theorem dX12_reads_61 : decode cX12_reads 61 = .ok (.getfield 72, 3) := by decide +kernel
theorem dX12_reads_64 : decode cX12_reads 64 = .ok (.iload_n 1, 1) := by decide +kernel
theorem dX12_reads_65 : decode cX12_reads 65 = .ok (.bipush 32, 2) := by decide +kernel
theorem dX12_reads_67 : decode cX12_reads 67 = .ok (.iadd, 1) := by decide +kernel
theorem dX12_reads_68 : decode cX12_reads 68 = .ok (.iload 7, 2) := by decide +kernel
theorem dX12_reads_70 : decode cX12_reads 70 = .ok (.iadd, 1) := by decide +kernel
theorem dX12_reads_71 : decode cX12_reads 71 = .ok (.laload, 1) := by decide +kernel
theorem dX12_reads_72 : decode cX12_reads 72 = .ok (.ladd, 1) := by decide +kernel
theorem dX12_reads_73 : decode cX12_reads 73 = .ok (.lstore 5, 2) := by decide +kernel
theorem dX12_reads_75 : decode cX12_reads 75 = .ok (.iinc 7 1, 3) := by decide +kernel
theorem dX12_reads_78 : decode cX12_reads 78 = .ok (.goto (-65), 3) := by decide +kernel
theorem dX12_reads_81 : decode cX12_reads 81 = .ok (.lload 5, 2) := by decide +kernel
theorem dX12_reads_83 : decode cX12_reads 83 = .ok (.lconst 0, 1) := by decide +kernel
theorem dX12_reads_84 : decode cX12_reads 84 = .ok (.lcmp, 1) := by decide +kernel
theorem dX12_reads_85 : decode cX12_reads 85 = .ok (.ifCond .le 7, 3) := by decide +kernel
theorem dX12_reads_88 : decode cX12_reads 88 = .ok (.iconst 1, 1) := by decide +kernel
theorem dX12_reads_89 : decode cX12_reads 89 = .ok (.goto 4, 3) := by decide +kernel
theorem dX12_reads_92 : decode cX12_reads 92 = .ok (.iconst 0, 1) := by decide +kernel
theorem dX12_reads_93 : decode cX12_reads 93 = .ok (.ireturn, 1) := by decide +kernel
theorem dX12_readFrom_0 : decode cX12_readFrom 0 = .ok (.aload_n 0, 1) := by decide +kernel
theorem dX12_readFrom_1 : decode cX12_readFrom 1 = .ok (.aload_n 0, 1) := by decide +kernel
theorem dX12_readFrom_2 : decode cX12_readFrom 2 = .ok (.iload_n 1, 1) := by decide +kernel
theorem dX12_readFrom_3 : decode cX12_readFrom 3 = .ok (.invokevirtual 272, 3) := by decide +kernel
theorem dX12_readFrom_6 : decode cX12_readFrom 6 = .ok (.aload_n 0, 1) := by decide +kernel
theorem dX12_readFrom_7 : decode cX12_readFrom 7 = .ok (.invokevirtual 263, 3) := by decide +kernel
theorem dX12_readFrom_10 : decode cX12_readFrom 10 = .ok (.iconst 1, 1) := by decide +kernel
theorem dX12_readFrom_11 : decode cX12_readFrom 11 = .ok (.isub, 1) := by decide +kernel
theorem dX12_readFrom_12 : decode cX12_readFrom 12 = .ok (.invokevirtual 291, 3) := by decide +kernel
theorem dX12_readFrom_15 : decode cX12_readFrom 15 = .ok (.iconst 1, 1) := by decide +kernel
theorem dX12_readFrom_16 : decode cX12_readFrom 16 = .ok (.isub, 1) := by decide +kernel
theorem dX12_readFrom_17 : decode cX12_readFrom 17 = .ok (.ireturn, 1) := by decide +kernel
theorem dX12_readTo_0 : decode cX12_readTo 0 = .ok (.aload_n 0, 1) := by decide +kernel
theorem dX12_readTo_1 : decode cX12_readTo 1 = .ok (.aload_n 0, 1) := by decide +kernel
theorem dX12_readTo_2 : decode cX12_readTo 2 = .ok (.iload_n 1, 1) := by decide +kernel
theorem dX12_readTo_3 : decode cX12_readTo 3 = .ok (.invokevirtual 272, 3) := by decide +kernel
theorem dX12_readTo_6 : decode cX12_readTo 6 = .ok (.iconst 0, 1) := by decide +kernel
theorem dX12_readTo_7 : decode cX12_readTo 7 = .ok (.invokevirtual 291, 3) := by decide +kernel
theorem dX12_readTo_10 : decode cX12_readTo 10 = .ok (.iconst 1, 1) := by decide +kernel
theorem dX12_readTo_11 : decode cX12_readTo 11 = .ok (.iadd, 1) := by decide +kernel
theorem dX12_readTo_12 : decode cX12_readTo 12 = .ok (.ireturn, 1) := by decide +kernel
theorem dX12_hasCell_0 : decode cX12_hasCell 0 = .ok (.aload_n 0, 1) := by decide +kernel
theorem dX12_hasCell_1 : decode cX12_hasCell 1 = .ok (.iload_n 1, 1) := by decide +kernel
theorem dX12_hasCell_2 : decode cX12_hasCell 2 = .ok (.invokevirtual 272, 3) := by decide +kernel
theorem dX12_hasCell_5 : decode cX12_hasCell 5 = .ok (.iconst (-1), 1) := by decide +kernel
theorem dX12_hasCell_6 : decode cX12_hasCell 6 = .ok (.if_icmp .eq 7, 3) := by decide +kernel
theorem dX12_hasCell_9 : decode cX12_hasCell 9 = .ok (.iconst 1, 1) := by decide +kernel
theorem dX12_hasCell_10 : decode cX12_hasCell 10 = .ok (.goto 4, 3) := by decide +kernel
theorem dX12_hasCell_13 : decode cX12_hasCell 13 = .ok (.iconst 0, 1) := by decide +kernel
theorem dX12_hasCell_14 : decode cX12_hasCell 14 = .ok (.ireturn, 1) := by decide +kernel
theorem dX12_worth1_0 : decode cX12_worth1 0 = .ok (.lconst 0, 1) := by decide +kernel
theorem dX12_worth1_1 : decode cX12_worth1 1 = .ok (.lstore_n 2, 1) := by decide +kernel
theorem dX12_worth1_2 : decode cX12_worth1 2 = .ok (.iconst 0, 1) := by decide +kernel
theorem dX12_worth1_3 : decode cX12_worth1 3 = .ok (.istore 4, 2) := by decide +kernel
theorem dX12_worth1_5 : decode cX12_worth1 5 = .ok (.iload 4, 2) := by decide +kernel
theorem dX12_worth1_7 : decode cX12_worth1 7 = .ok (.aload_n 0, 1) := by decide +kernel
theorem dX12_worth1_8 : decode cX12_worth1 8 = .ok (.getfield 7, 3) := by decide +kernel
theorem dX12_worth1_11 : decode cX12_worth1 11 = .ok (.iconst 2, 1) := by decide +kernel
theorem dX12_worth1_12 : decode cX12_worth1 12 = .ok (.iaload, 1) := by decide +kernel
theorem dX12_worth1_13 : decode cX12_worth1 13 = .ok (.if_icmp .ge 34, 3) := by decide +kernel
theorem dX12_worth1_16 : decode cX12_worth1 16 = .ok (.lload_n 2, 1) := by decide +kernel
theorem dX12_worth1_17 : decode cX12_worth1 17 = .ok (.aload_n 0, 1) := by decide +kernel
theorem dX12_worth1_18 : decode cX12_worth1 18 = .ok (.iload 4, 2) := by decide +kernel
theorem dX12_worth1_20 : decode cX12_worth1 20 = .ok (.invokevirtual 392, 3) := by decide +kernel
theorem dX12_worth1_23 : decode cX12_worth1 23 = .ok (.ifCond .eq 13, 3) := by decide +kernel
theorem dX12_worth1_26 : decode cX12_worth1 26 = .ok (.aload_n 0, 1) := by decide +kernel
theorem dX12_worth1_27 : decode cX12_worth1 27 = .ok (.iload_n 1, 1) := by decide +kernel
theorem dX12_worth1_28 : decode cX12_worth1 28 = .ok (.iload 4, 2) := by decide +kernel
theorem dX12_worth1_30 : decode cX12_worth1 30 = .ok (.invokevirtual 395, 3) := by decide +kernel
theorem dX12_worth1_33 : decode cX12_worth1 33 = .ok (.goto 4, 3) := by decide +kernel
theorem dX12_worth1_36 : decode cX12_worth1 36 = .ok (.lconst 0, 1) := by decide +kernel
theorem dX12_worth1_37 : decode cX12_worth1 37 = .ok (.invokestatic 388, 3) := by decide +kernel
theorem dX12_worth1_40 : decode cX12_worth1 40 = .ok (.lstore_n 2, 1) := by decide +kernel
theorem dX12_worth1_41 : decode cX12_worth1 41 = .ok (.iinc 4 1, 3) := by decide +kernel
theorem dX12_worth1_44 : decode cX12_worth1 44 = .ok (.goto (-39), 3) := by decide +kernel
theorem dX12_worth1_47 : decode cX12_worth1 47 = .ok (.lload_n 2, 1) := by decide +kernel
theorem dX12_worth1_48 : decode cX12_worth1 48 = .ok (.lreturn, 1) := by decide +kernel
theorem dX12_worthOf1_0 : decode cX12_worthOf1 0 = .ok (.lconst 0, 1) := by decide +kernel
theorem dX12_worthOf1_1 : decode cX12_worthOf1 1 = .ok (.lstore_n 3, 1) := by decide +kernel
theorem dX12_worthOf1_2 : decode cX12_worthOf1 2 = .ok (.aload_n 0, 1) := by decide +kernel
theorem dX12_worthOf1_3 : decode cX12_worthOf1 3 = .ok (.iload_n 2, 1) := by decide +kernel
theorem dX12_worthOf1_4 : decode cX12_worthOf1 4 = .ok (.invokevirtual 398, 3) := by decide +kernel
theorem dX12_worthOf1_7 : decode cX12_worthOf1 7 = .ok (.istore 5, 2) := by decide +kernel
theorem dX12_worthOf1_9 : decode cX12_worthOf1 9 = .ok (.iload 5, 2) := by decide +kernel
theorem dX12_worthOf1_11 : decode cX12_worthOf1 11 = .ok (.aload_n 0, 1) := by decide +kernel
theorem dX12_worthOf1_12 : decode cX12_worthOf1 12 = .ok (.iload_n 2, 1) := by decide +kernel
theorem dX12_worthOf1_13 : decode cX12_worthOf1 13 = .ok (.invokevirtual 401, 3) := by decide +kernel
theorem dX12_worthOf1_16 : decode cX12_worthOf1 16 = .ok (.if_icmp .gt 35, 3) := by decide +kernel
theorem dX12_worthOf1_19 : decode cX12_worthOf1 19 = .ok (.lload_n 3, 1) := by decide +kernel
theorem dX12_worthOf1_20 : decode cX12_worthOf1 20 = .ok (.aload_n 0, 1) := by decide +kernel
theorem dX12_worthOf1_21 : decode cX12_worthOf1 21 = .ok (.iload_n 1, 1) := by decide +kernel
theorem dX12_worthOf1_22 : decode cX12_worthOf1 22 = .ok (.iload_n 2, 1) := by decide +kernel
theorem dX12_worthOf1_23 : decode cX12_worthOf1 23 = .ok (.iload 5, 2) := by decide +kernel
theorem dX12_worthOf1_25 : decode cX12_worthOf1 25 = .ok (.invokevirtual 404, 3) := by decide +kernel
theorem dX12_worthOf1_28 : decode cX12_worthOf1 28 = .ok (.ifCond .eq 14, 3) := by decide +kernel
theorem dX12_worthOf1_31 : decode cX12_worthOf1 31 = .ok (.aload_n 0, 1) := by decide +kernel
theorem dX12_worthOf1_32 : decode cX12_worthOf1 32 = .ok (.iload_n 1, 1) := by decide +kernel
theorem dX12_worthOf1_33 : decode cX12_worthOf1 33 = .ok (.bipush 32, 2) := by decide +kernel
theorem dX12_worthOf1_35 : decode cX12_worthOf1 35 = .ok (.iadd, 1) := by decide +kernel
theorem dX12_worthOf1_36 : decode cX12_worthOf1 36 = .ok (.invokevirtual 407, 3) := by decide +kernel
theorem dX12_worthOf1_39 : decode cX12_worthOf1 39 = .ok (.goto 4, 3) := by decide +kernel
theorem dX12_worthOf1_42 : decode cX12_worthOf1 42 = .ok (.lconst 0, 1) := by decide +kernel
theorem dX12_worthOf1_43 : decode cX12_worthOf1 43 = .ok (.ladd, 1) := by decide +kernel
theorem dX12_worthOf1_44 : decode cX12_worthOf1 44 = .ok (.lstore_n 3, 1) := by decide +kernel
theorem dX12_worthOf1_45 : decode cX12_worthOf1 45 = .ok (.iinc 5 1, 3) := by decide +kernel
theorem dX12_worthOf1_48 : decode cX12_worthOf1 48 = .ok (.goto (-39), 3) := by decide +kernel
theorem dX12_worthOf1_51 : decode cX12_worthOf1 51 = .ok (.lload_n 3, 1) := by decide +kernel
theorem dX12_worthOf1_52 : decode cX12_worthOf1 52 = .ok (.lreturn, 1) := by decide +kernel
theorem dX12_worth2_0 : decode cX12_worth2 0 = .ok (.lconst 0, 1) := by decide +kernel
theorem dX12_worth2_1 : decode cX12_worth2 1 = .ok (.lstore_n 2, 1) := by decide +kernel
theorem dX12_worth2_2 : decode cX12_worth2 2 = .ok (.iconst 0, 1) := by decide +kernel
theorem dX12_worth2_3 : decode cX12_worth2 3 = .ok (.istore 4, 2) := by decide +kernel
theorem dX12_worth2_5 : decode cX12_worth2 5 = .ok (.iload 4, 2) := by decide +kernel
theorem dX12_worth2_7 : decode cX12_worth2 7 = .ok (.aload_n 0, 1) := by decide +kernel
theorem dX12_worth2_8 : decode cX12_worth2 8 = .ok (.getfield 7, 3) := by decide +kernel
theorem dX12_worth2_11 : decode cX12_worth2 11 = .ok (.iconst 2, 1) := by decide +kernel
theorem dX12_worth2_12 : decode cX12_worth2 12 = .ok (.iaload, 1) := by decide +kernel
theorem dX12_worth2_13 : decode cX12_worth2 13 = .ok (.if_icmp .ge 34, 3) := by decide +kernel
theorem dX12_worth2_16 : decode cX12_worth2 16 = .ok (.lload_n 2, 1) := by decide +kernel
theorem dX12_worth2_17 : decode cX12_worth2 17 = .ok (.aload_n 0, 1) := by decide +kernel
theorem dX12_worth2_18 : decode cX12_worth2 18 = .ok (.iload 4, 2) := by decide +kernel
theorem dX12_worth2_20 : decode cX12_worth2 20 = .ok (.invokevirtual 392, 3) := by decide +kernel
theorem dX12_worth2_23 : decode cX12_worth2 23 = .ok (.ifCond .eq 13, 3) := by decide +kernel
theorem dX12_worth2_26 : decode cX12_worth2 26 = .ok (.aload_n 0, 1) := by decide +kernel
theorem dX12_worth2_27 : decode cX12_worth2 27 = .ok (.iload_n 1, 1) := by decide +kernel
theorem dX12_worth2_28 : decode cX12_worth2 28 = .ok (.iload 4, 2) := by decide +kernel
theorem dX12_worth2_30 : decode cX12_worth2 30 = .ok (.invokevirtual 410, 3) := by decide +kernel
theorem dX12_worth2_33 : decode cX12_worth2 33 = .ok (.goto 4, 3) := by decide +kernel
theorem dX12_worth2_36 : decode cX12_worth2 36 = .ok (.lconst 0, 1) := by decide +kernel
theorem dX12_worth2_37 : decode cX12_worth2 37 = .ok (.invokestatic 388, 3) := by decide +kernel
theorem dX12_worth2_40 : decode cX12_worth2 40 = .ok (.lstore_n 2, 1) := by decide +kernel
theorem dX12_worth2_41 : decode cX12_worth2 41 = .ok (.iinc 4 1, 3) := by decide +kernel
theorem dX12_worth2_44 : decode cX12_worth2 44 = .ok (.goto (-39), 3) := by decide +kernel
theorem dX12_worth2_47 : decode cX12_worth2 47 = .ok (.lload_n 2, 1) := by decide +kernel
theorem dX12_worth2_48 : decode cX12_worth2 48 = .ok (.lreturn, 1) := by decide +kernel
theorem dX12_worthOf2_0 : decode cX12_worthOf2 0 = .ok (.lconst 0, 1) := by decide +kernel
theorem dX12_worthOf2_1 : decode cX12_worthOf2 1 = .ok (.lstore_n 3, 1) := by decide +kernel
theorem dX12_worthOf2_2 : decode cX12_worthOf2 2 = .ok (.aload_n 0, 1) := by decide +kernel
theorem dX12_worthOf2_3 : decode cX12_worthOf2 3 = .ok (.iload_n 2, 1) := by decide +kernel
theorem dX12_worthOf2_4 : decode cX12_worthOf2 4 = .ok (.invokevirtual 398, 3) := by decide +kernel
theorem dX12_worthOf2_7 : decode cX12_worthOf2 7 = .ok (.istore 5, 2) := by decide +kernel
theorem dX12_worthOf2_9 : decode cX12_worthOf2 9 = .ok (.iload 5, 2) := by decide +kernel
theorem dX12_worthOf2_11 : decode cX12_worthOf2 11 = .ok (.aload_n 0, 1) := by decide +kernel
theorem dX12_worthOf2_12 : decode cX12_worthOf2 12 = .ok (.iload_n 2, 1) := by decide +kernel
theorem dX12_worthOf2_13 : decode cX12_worthOf2 13 = .ok (.invokevirtual 401, 3) := by decide +kernel
theorem dX12_worthOf2_16 : decode cX12_worthOf2 16 = .ok (.if_icmp .gt 35, 3) := by decide +kernel
theorem dX12_worthOf2_19 : decode cX12_worthOf2 19 = .ok (.lload_n 3, 1) := by decide +kernel
theorem dX12_worthOf2_20 : decode cX12_worthOf2 20 = .ok (.aload_n 0, 1) := by decide +kernel
theorem dX12_worthOf2_21 : decode cX12_worthOf2 21 = .ok (.iload_n 1, 1) := by decide +kernel
theorem dX12_worthOf2_22 : decode cX12_worthOf2 22 = .ok (.iload_n 2, 1) := by decide +kernel
theorem dX12_worthOf2_23 : decode cX12_worthOf2 23 = .ok (.iload 5, 2) := by decide +kernel
theorem dX12_worthOf2_25 : decode cX12_worthOf2 25 = .ok (.invokevirtual 404, 3) := by decide +kernel
theorem dX12_worthOf2_28 : decode cX12_worthOf2 28 = .ok (.ifCond .eq 14, 3) := by decide +kernel
theorem dX12_worthOf2_31 : decode cX12_worthOf2 31 = .ok (.aload_n 0, 1) := by decide +kernel
theorem dX12_worthOf2_32 : decode cX12_worthOf2 32 = .ok (.iload_n 1, 1) := by decide +kernel
theorem dX12_worthOf2_33 : decode cX12_worthOf2 33 = .ok (.bipush 32, 2) := by decide +kernel
theorem dX12_worthOf2_35 : decode cX12_worthOf2 35 = .ok (.iadd, 1) := by decide +kernel
theorem dX12_worthOf2_36 : decode cX12_worthOf2 36 = .ok (.invokevirtual 413, 3) := by decide +kernel
theorem dX12_worthOf2_39 : decode cX12_worthOf2 39 = .ok (.goto 4, 3) := by decide +kernel
theorem dX12_worthOf2_42 : decode cX12_worthOf2 42 = .ok (.lconst 0, 1) := by decide +kernel
theorem dX12_worthOf2_43 : decode cX12_worthOf2 43 = .ok (.ladd, 1) := by decide +kernel
theorem dX12_worthOf2_44 : decode cX12_worthOf2 44 = .ok (.lstore_n 3, 1) := by decide +kernel
theorem dX12_worthOf2_45 : decode cX12_worthOf2 45 = .ok (.iinc 5 1, 3) := by decide +kernel
theorem dX12_worthOf2_48 : decode cX12_worthOf2 48 = .ok (.goto (-39), 3) := by decide +kernel
theorem dX12_worthOf2_51 : decode cX12_worthOf2 51 = .ok (.lload_n 3, 1) := by decide +kernel
theorem dX12_worthOf2_52 : decode cX12_worthOf2 52 = .ok (.lreturn, 1) := by decide +kernel
theorem dX12_worthOf3_0 : decode cX12_worthOf3 0 = .ok (.lconst 0, 1) := by decide +kernel
theorem dX12_worthOf3_1 : decode cX12_worthOf3 1 = .ok (.lstore_n 2, 1) := by decide +kernel
theorem dX12_worthOf3_2 : decode cX12_worthOf3 2 = .ok (.aload_n 0, 1) := by decide +kernel
theorem dX12_worthOf3_3 : decode cX12_worthOf3 3 = .ok (.iload_n 1, 1) := by decide +kernel
theorem dX12_worthOf3_4 : decode cX12_worthOf3 4 = .ok (.invokevirtual 398, 3) := by decide +kernel
theorem dX12_worthOf3_7 : decode cX12_worthOf3 7 = .ok (.istore 4, 2) := by decide +kernel
theorem dX12_worthOf3_9 : decode cX12_worthOf3 9 = .ok (.iload 4, 2) := by decide +kernel
theorem dX12_worthOf3_11 : decode cX12_worthOf3 11 = .ok (.aload_n 0, 1) := by decide +kernel
theorem dX12_worthOf3_12 : decode cX12_worthOf3 12 = .ok (.iload_n 1, 1) := by decide +kernel
theorem dX12_worthOf3_13 : decode cX12_worthOf3 13 = .ok (.invokevirtual 401, 3) := by decide +kernel
theorem dX12_worthOf3_16 : decode cX12_worthOf3 16 = .ok (.if_icmp .gt 33, 3) := by decide +kernel
theorem dX12_worthOf3_19 : decode cX12_worthOf3 19 = .ok (.lload_n 2, 1) := by decide +kernel
theorem dX12_worthOf3_20 : decode cX12_worthOf3 20 = .ok (.aload_n 0, 1) := by decide +kernel
theorem dX12_worthOf3_21 : decode cX12_worthOf3 21 = .ok (.iconst 0, 1) := by decide +kernel
theorem dX12_worthOf3_22 : decode cX12_worthOf3 22 = .ok (.iload_n 1, 1) := by decide +kernel
theorem dX12_worthOf3_23 : decode cX12_worthOf3 23 = .ok (.iload 4, 2) := by decide +kernel
theorem dX12_worthOf3_25 : decode cX12_worthOf3 25 = .ok (.invokevirtual 404, 3) := by decide +kernel
theorem dX12_worthOf3_28 : decode cX12_worthOf3 28 = .ok (.ifCond .eq 12, 3) := by decide +kernel
theorem dX12_worthOf3_31 : decode cX12_worthOf3 31 = .ok (.aload_n 0, 1) := by decide +kernel
theorem dX12_worthOf3_32 : decode cX12_worthOf3 32 = .ok (.bipush 32, 2) := by decide +kernel
theorem dX12_worthOf3_34 : decode cX12_worthOf3 34 = .ok (.invokevirtual 416, 3) := by decide +kernel
theorem dX12_worthOf3_37 : decode cX12_worthOf3 37 = .ok (.goto 4, 3) := by decide +kernel
theorem dX12_worthOf3_40 : decode cX12_worthOf3 40 = .ok (.lconst 0, 1) := by decide +kernel
theorem dX12_worthOf3_41 : decode cX12_worthOf3 41 = .ok (.ladd, 1) := by decide +kernel
theorem dX12_worthOf3_42 : decode cX12_worthOf3 42 = .ok (.lstore_n 2, 1) := by decide +kernel
theorem dX12_worthOf3_43 : decode cX12_worthOf3 43 = .ok (.iinc 4 1, 3) := by decide +kernel
theorem dX12_worthOf3_46 : decode cX12_worthOf3 46 = .ok (.goto (-37), 3) := by decide +kernel
theorem dX12_worthOf3_49 : decode cX12_worthOf3 49 = .ok (.lload_n 2, 1) := by decide +kernel
theorem dX12_worthOf3_50 : decode cX12_worthOf3 50 = .ok (.lreturn, 1) := by decide +kernel
theorem dX12_worthOf_0 : decode cX12_worthOf 0 = .ok (.iload_n 2, 1) := by decide +kernel
theorem dX12_worthOf_1 : decode cX12_worthOf 1 = .ok (.iconst 1, 1) := by decide +kernel
theorem dX12_worthOf_2 : decode cX12_worthOf 2 = .ok (.if_icmp .ne 12, 3) := by decide +kernel
theorem dX12_worthOf_5 : decode cX12_worthOf 5 = .ok (.aload_n 0, 1) := by decide +kernel
theorem dX12_worthOf_6 : decode cX12_worthOf 6 = .ok (.iconst 0, 1) := by decide +kernel
theorem dX12_worthOf_7 : decode cX12_worthOf 7 = .ok (.iload_n 1, 1) := by decide +kernel
theorem dX12_worthOf_8 : decode cX12_worthOf 8 = .ok (.invokevirtual 395, 3) := by decide +kernel
theorem dX12_worthOf_11 : decode cX12_worthOf 11 = .ok (.goto 22, 3) := by decide +kernel
theorem dX12_worthOf_14 : decode cX12_worthOf 14 = .ok (.iload_n 2, 1) := by decide +kernel
theorem dX12_worthOf_15 : decode cX12_worthOf 15 = .ok (.iconst 2, 1) := by decide +kernel
theorem dX12_worthOf_16 : decode cX12_worthOf 16 = .ok (.if_icmp .ne 12, 3) := by decide +kernel
theorem dX12_worthOf_19 : decode cX12_worthOf 19 = .ok (.aload_n 0, 1) := by decide +kernel
theorem dX12_worthOf_20 : decode cX12_worthOf 20 = .ok (.iconst 0, 1) := by decide +kernel
theorem dX12_worthOf_21 : decode cX12_worthOf 21 = .ok (.iload_n 1, 1) := by decide +kernel
theorem dX12_worthOf_22 : decode cX12_worthOf 22 = .ok (.invokevirtual 410, 3) := by decide +kernel
theorem dX12_worthOf_25 : decode cX12_worthOf 25 = .ok (.goto 8, 3) := by decide +kernel
theorem dX12_worthOf_28 : decode cX12_worthOf 28 = .ok (.aload_n 0, 1) := by decide +kernel
theorem dX12_worthOf_29 : decode cX12_worthOf 29 = .ok (.iload_n 1, 1) := by decide +kernel
theorem dX12_worthOf_30 : decode cX12_worthOf 30 = .ok (.invokevirtual 419, 3) := by decide +kernel
theorem dX12_worthOf_33 : decode cX12_worthOf 33 = .ok (.lreturn, 1) := by decide +kernel
theorem dX12_thinks_0 : decode cX12_thinks 0 = .ok (.iconst 0, 1) := by decide +kernel
theorem dX12_thinks_1 : decode cX12_thinks 1 = .ok (.istore_n 1, 1) := by decide +kernel
theorem dX12_thinks_2 : decode cX12_thinks 2 = .ok (.iload_n 1, 1) := by decide +kernel
theorem dX12_thinks_3 : decode cX12_thinks 3 = .ok (.aload_n 0, 1) := by decide +kernel
theorem dX12_thinks_4 : decode cX12_thinks 4 = .ok (.invokevirtual 263, 3) := by decide +kernel
theorem dX12_thinks_7 : decode cX12_thinks 7 = .ok (.if_icmp .ge 26, 3) := by decide +kernel
theorem dX12_thinks_10 : decode cX12_thinks 10 = .ok (.aload_n 0, 1) := by decide +kernel
theorem dX12_thinks_11 : decode cX12_thinks 11 = .ok (.getfield 72, 3) := by decide +kernel
theorem dX12_thinks_14 : decode cX12_thinks 14 = .ok (.iload_n 1, 1) := by decide +kernel
theorem dX12_thinks_15 : decode cX12_thinks 15 = .ok (.aload_n 0, 1) := by decide +kernel
theorem dX12_thinks_16 : decode cX12_thinks 16 = .ok (.getfield 7, 3) := by decide +kernel
theorem dX12_thinks_19 : decode cX12_thinks 19 = .ok (.sipush 168, 3) := by decide +kernel
theorem dX12_thinks_22 : decode cX12_thinks 22 = .ok (.iload_n 1, 1) := by decide +kernel
theorem dX12_thinks_23 : decode cX12_thinks 23 = .ok (.iadd, 1) := by decide +kernel
theorem dX12_thinks_24 : decode cX12_thinks 24 = .ok (.iaload, 1) := by decide +kernel
theorem dX12_thinks_25 : decode cX12_thinks 25 = .ok (.i2l, 1) := by decide +kernel
theorem dX12_thinks_26 : decode cX12_thinks 26 = .ok (.lastore, 1) := by decide +kernel
theorem dX12_thinks_27 : decode cX12_thinks 27 = .ok (.iinc 1 1, 3) := by decide +kernel
theorem dX12_thinks_30 : decode cX12_thinks 30 = .ok (.goto (-28), 3) := by decide +kernel
theorem dX12_thinks_33 : decode cX12_thinks 33 = .ok (.return_, 1) := by decide +kernel
theorem dX12_bestBar_0 : decode cX12_bestBar 0 = .ok (.iconst (-1), 1) := by decide +kernel
theorem dX12_bestBar_1 : decode cX12_bestBar 1 = .ok (.istore_n 2, 1) := by decide +kernel
theorem dX12_bestBar_2 : decode cX12_bestBar 2 = .ok (.lconst 0, 1) := by decide +kernel
theorem dX12_bestBar_3 : decode cX12_bestBar 3 = .ok (.lstore_n 3, 1) := by decide +kernel
theorem dX12_bestBar_4 : decode cX12_bestBar 4 = .ok (.iconst 0, 1) := by decide +kernel
theorem dX12_bestBar_5 : decode cX12_bestBar 5 = .ok (.istore 5, 2) := by decide +kernel
theorem dX12_bestBar_7 : decode cX12_bestBar 7 = .ok (.iload 5, 2) := by decide +kernel
theorem dX12_bestBar_9 : decode cX12_bestBar 9 = .ok (.aload_n 0, 1) := by decide +kernel
theorem dX12_bestBar_10 : decode cX12_bestBar 10 = .ok (.getfield 7, 3) := by decide +kernel
theorem dX12_bestBar_13 : decode cX12_bestBar 13 = .ok (.iconst 2, 1) := by decide +kernel
theorem dX12_bestBar_14 : decode cX12_bestBar 14 = .ok (.iaload, 1) := by decide +kernel
theorem dX12_bestBar_15 : decode cX12_bestBar 15 = .ok (.if_icmp .ge 51, 3) := by decide +kernel
theorem dX12_bestBar_18 : decode cX12_bestBar 18 = .ok (.aload_n 0, 1) := by decide +kernel
theorem dX12_bestBar_19 : decode cX12_bestBar 19 = .ok (.iload 5, 2) := by decide +kernel
theorem dX12_bestBar_21 : decode cX12_bestBar 21 = .ok (.invokevirtual 392, 3) := by decide +kernel
theorem dX12_bestBar_24 : decode cX12_bestBar 24 = .ok (.ifCond .ne 6, 3) := by decide +kernel
theorem dX12_bestBar_27 : decode cX12_bestBar 27 = .ok (.goto 33, 3) := by decide +kernel
theorem dX12_bestBar_30 : decode cX12_bestBar 30 = .ok (.aload_n 0, 1) := by decide +kernel
theorem dX12_bestBar_31 : decode cX12_bestBar 31 = .ok (.iload 5, 2) := by decide +kernel
theorem dX12_bestBar_33 : decode cX12_bestBar 33 = .ok (.iload_n 1, 1) := by decide +kernel
theorem dX12_bestBar_34 : decode cX12_bestBar 34 = .ok (.invokevirtual 422, 3) := by decide +kernel
theorem dX12_bestBar_37 : decode cX12_bestBar 37 = .ok (.lstore 6, 2) := by decide +kernel
theorem dX12_bestBar_39 : decode cX12_bestBar 39 = .ok (.iload_n 2, 1) := by decide +kernel
theorem dX12_bestBar_40 : decode cX12_bestBar 40 = .ok (.iconst (-1), 1) := by decide +kernel
theorem dX12_bestBar_41 : decode cX12_bestBar 41 = .ok (.if_icmp .eq 13, 3) := by decide +kernel
theorem dX12_bestBar_44 : decode cX12_bestBar 44 = .ok (.lload 6, 2) := by decide +kernel
theorem dX12_bestBar_46 : decode cX12_bestBar 46 = .ok (.lload_n 3, 1) := by decide +kernel
theorem dX12_bestBar_47 : decode cX12_bestBar 47 = .ok (.lcmp, 1) := by decide +kernel
theorem dX12_bestBar_48 : decode cX12_bestBar 48 = .ok (.ifCond .gt 6, 3) := by decide +kernel
theorem dX12_bestBar_51 : decode cX12_bestBar 51 = .ok (.goto 9, 3) := by decide +kernel
theorem dX12_bestBar_54 : decode cX12_bestBar 54 = .ok (.iload 5, 2) := by decide +kernel
theorem dX12_bestBar_56 : decode cX12_bestBar 56 = .ok (.istore_n 2, 1) := by decide +kernel
theorem dX12_bestBar_57 : decode cX12_bestBar 57 = .ok (.lload 6, 2) := by decide +kernel
theorem dX12_bestBar_59 : decode cX12_bestBar 59 = .ok (.lstore_n 3, 1) := by decide +kernel
theorem dX12_bestBar_60 : decode cX12_bestBar 60 = .ok (.iinc 5 1, 3) := by decide +kernel
theorem dX12_bestBar_63 : decode cX12_bestBar 63 = .ok (.goto (-56), 3) := by decide +kernel
theorem dX12_bestBar_66 : decode cX12_bestBar 66 = .ok (.iload_n 2, 1) := by decide +kernel
theorem dX12_bestBar_67 : decode cX12_bestBar 67 = .ok (.ireturn, 1) := by decide +kernel
theorem dX12_worth_0 : decode cX12_worth 0 = .ok (.aload_n 0, 1) := by decide +kernel
theorem dX12_worth_1 : decode cX12_worth 1 = .ok (.iload_n 1, 1) := by decide +kernel
theorem dX12_worth_2 : decode cX12_worth 2 = .ok (.iload_n 2, 1) := by decide +kernel
theorem dX12_worth_3 : decode cX12_worth 3 = .ok (.invokevirtual 378, 3) := by decide +kernel
theorem dX12_worth_6 : decode cX12_worth 6 = .ok (.ifCond .eq 12, 3) := by decide +kernel
theorem dX12_worth_9 : decode cX12_worth 9 = .ok (.iload_n 3, 1) := by decide +kernel
theorem dX12_worth_10 : decode cX12_worth 10 = .ok (.ifCond .lt 8, 3) := by decide +kernel
theorem dX12_worth_13 : decode cX12_worth 13 = .ok (.iload_n 3, 1) := by decide +kernel
theorem dX12_worth_14 : decode cX12_worth 14 = .ok (.iconst 3, 1) := by decide +kernel
theorem dX12_worth_15 : decode cX12_worth 15 = .ok (.if_icmp .le 9, 3) := by decide +kernel
theorem dX12_worth_18 : decode cX12_worth 18 = .ok (.aload_n 0, 1) := by decide +kernel
theorem dX12_worth_19 : decode cX12_worth 19 = .ok (.iconst 1, 1) := by decide +kernel
theorem dX12_worth_20 : decode cX12_worth 20 = .ok (.invokevirtual 98, 3) := by decide +kernel
theorem dX12_worth_23 : decode cX12_worth 23 = .ok (.ireturn, 1) := by decide +kernel
theorem dX12_worth_24 : decode cX12_worth 24 = .ok (.aload_n 0, 1) := by decide +kernel
theorem dX12_worth_25 : decode cX12_worth 25 = .ok (.iload_n 1, 1) := by decide +kernel
theorem dX12_worth_26 : decode cX12_worth 26 = .ok (.iload_n 2, 1) := by decide +kernel
theorem dX12_worth_27 : decode cX12_worth 27 = .ok (.invokevirtual 371, 3) := by decide +kernel
theorem dX12_worth_30 : decode cX12_worth 30 = .ok (.aload_n 0, 1) := by decide +kernel
theorem dX12_worth_31 : decode cX12_worth 31 = .ok (.invokevirtual 425, 3) := by decide +kernel
theorem dX12_worth_34 : decode cX12_worth 34 = .ok (.iload_n 3, 1) := by decide +kernel
theorem dX12_worth_35 : decode cX12_worth 35 = .ok (.ifCond .ne 7, 3) := by decide +kernel
theorem dX12_worth_38 : decode cX12_worth 38 = .ok (.iconst (-1), 1) := by decide +kernel
theorem dX12_worth_39 : decode cX12_worth 39 = .ok (.goto 8, 3) := by decide +kernel
theorem dX12_worth_42 : decode cX12_worth 42 = .ok (.aload_n 0, 1) := by decide +kernel
theorem dX12_worth_43 : decode cX12_worth 43 = .ok (.iload_n 3, 1) := by decide +kernel
theorem dX12_worth_44 : decode cX12_worth 44 = .ok (.invokevirtual 428, 3) := by decide +kernel
theorem dX12_worth_47 : decode cX12_worth 47 = .ok (.istore 4, 2) := by decide +kernel
theorem dX12_worth_49 : decode cX12_worth 49 = .ok (.iload 4, 2) := by decide +kernel
theorem dX12_worth_51 : decode cX12_worth 51 = .ok (.iconst (-1), 1) := by decide +kernel
theorem dX12_worth_52 : decode cX12_worth 52 = .ok (.if_icmp .ne 16, 3) := by decide +kernel
theorem dX12_worth_55 : decode cX12_worth 55 = .ok (.aload_n 0, 1) := by decide +kernel
theorem dX12_worth_56 : decode cX12_worth 56 = .ok (.aload_n 0, 1) := by decide +kernel
theorem dX12_worth_57 : decode cX12_worth 57 = .ok (.iconst 0, 1) := by decide +kernel
theorem dX12_worth_58 : decode cX12_worth 58 = .ok (.invokevirtual 407, 3) := by decide +kernel
theorem dX12_worth_61 : decode cX12_worth 61 = .ok (.ldc2_w 300, 3) := by decide +kernel
theorem dX12_worth_64 : decode cX12_worth 64 = .ok (.invokevirtual 312, 3) := by decide +kernel
theorem dX12_worth_67 : decode cX12_worth 67 = .ok (.ireturn, 1) := by decide +kernel
theorem dX12_worth_68 : decode cX12_worth 68 = .ok (.ldc2_w 300, 3) := by decide +kernel
theorem dX12_worth_71 : decode cX12_worth 71 = .ok (.lstore 5, 2) := by decide +kernel
theorem dX12_worth_73 : decode cX12_worth 73 = .ok (.iconst 0, 1) := by decide +kernel
theorem dX12_worth_74 : decode cX12_worth 74 = .ok (.istore 7, 2) := by decide +kernel
theorem dX12_worth_76 : decode cX12_worth 76 = .ok (.iload 7, 2) := by decide +kernel
theorem dX12_worth_78 : decode cX12_worth 78 = .ok (.iload_n 3, 1) := by decide +kernel
theorem dX12_worth_79 : decode cX12_worth 79 = .ok (.if_icmp .ge 17, 3) := by decide +kernel
theorem dX12_worth_82 : decode cX12_worth 82 = .ok (.lload 5, 2) := by decide +kernel
theorem dX12_worth_84 : decode cX12_worth 84 = .ok (.ldc2_w 431, 3) := by decide +kernel
theorem dX12_worth_87 : decode cX12_worth 87 = .ok (.lmul, 1) := by decide +kernel
theorem dX12_worth_88 : decode cX12_worth 88 = .ok (.lstore 5, 2) := by decide +kernel
theorem dX12_worth_90 : decode cX12_worth 90 = .ok (.iinc 7 1, 3) := by decide +kernel
theorem dX12_worth_93 : decode cX12_worth 93 = .ok (.goto (-17), 3) := by decide +kernel
theorem dX12_worth_96 : decode cX12_worth 96 = .ok (.aload_n 0, 1) := by decide +kernel
theorem dX12_worth_97 : decode cX12_worth 97 = .ok (.aload_n 0, 1) := by decide +kernel
theorem dX12_worth_98 : decode cX12_worth 98 = .ok (.iload 4, 2) := by decide +kernel
theorem dX12_worth_100 : decode cX12_worth 100 = .ok (.iload_n 3, 1) := by decide +kernel
theorem dX12_worth_101 : decode cX12_worth 101 = .ok (.invokevirtual 422, 3) := by decide +kernel
theorem dX12_worth_104 : decode cX12_worth 104 = .ok (.lload 5, 2) := by decide +kernel
theorem dX12_worth_106 : decode cX12_worth 106 = .ok (.invokevirtual 312, 3) := by decide +kernel
theorem dX12_worth_109 : decode cX12_worth 109 = .ok (.ireturn, 1) := by decide +kernel
theorem dX12_next_0 : decode cX12_next 0 = .ok (.aload_n 0, 1) := by decide +kernel
theorem dX12_next_1 : decode cX12_next 1 = .ok (.iload_n 1, 1) := by decide +kernel
theorem dX12_next_2 : decode cX12_next 2 = .ok (.iload_n 2, 1) := by decide +kernel
theorem dX12_next_3 : decode cX12_next 3 = .ok (.invokevirtual 378, 3) := by decide +kernel
theorem dX12_next_6 : decode cX12_next 6 = .ok (.ifCond .eq 13, 3) := by decide +kernel
theorem dX12_next_9 : decode cX12_next 9 = .ok (.iload_n 3, 1) := by decide +kernel
theorem dX12_next_10 : decode cX12_next 10 = .ok (.iconst 1, 1) := by decide +kernel
theorem dX12_next_11 : decode cX12_next 11 = .ok (.if_icmp .lt 8, 3) := by decide +kernel
theorem dX12_next_14 : decode cX12_next 14 = .ok (.iload_n 3, 1) := by decide +kernel
theorem dX12_next_15 : decode cX12_next 15 = .ok (.iconst 3, 1) := by decide +kernel
theorem dX12_next_16 : decode cX12_next 16 = .ok (.if_icmp .le 9, 3) := by decide +kernel
theorem dX12_next_19 : decode cX12_next 19 = .ok (.aload_n 0, 1) := by decide +kernel
theorem dX12_next_20 : decode cX12_next 20 = .ok (.iconst 1, 1) := by decide +kernel
theorem dX12_next_21 : decode cX12_next 21 = .ok (.invokevirtual 185, 3) := by decide +kernel
theorem dX12_next_24 : decode cX12_next 24 = .ok (.ireturn, 1) := by decide +kernel
theorem dX12_next_25 : decode cX12_next 25 = .ok (.aload_n 0, 1) := by decide +kernel
theorem dX12_next_26 : decode cX12_next 26 = .ok (.iload_n 1, 1) := by decide +kernel
theorem dX12_next_27 : decode cX12_next 27 = .ok (.iload_n 2, 1) := by decide +kernel
theorem dX12_next_28 : decode cX12_next 28 = .ok (.invokevirtual 371, 3) := by decide +kernel
theorem dX12_next_31 : decode cX12_next 31 = .ok (.aload_n 0, 1) := by decide +kernel
theorem dX12_next_32 : decode cX12_next 32 = .ok (.invokevirtual 425, 3) := by decide +kernel
theorem dX12_next_35 : decode cX12_next 35 = .ok (.aload_n 0, 1) := by decide +kernel
theorem dX12_next_36 : decode cX12_next 36 = .ok (.iload_n 3, 1) := by decide +kernel
theorem dX12_next_37 : decode cX12_next 37 = .ok (.invokevirtual 428, 3) := by decide +kernel
theorem dX12_next_40 : decode cX12_next 40 = .ok (.istore 4, 2) := by decide +kernel
theorem dX12_next_42 : decode cX12_next 42 = .ok (.iload 4, 2) := by decide +kernel
theorem dX12_next_44 : decode cX12_next 44 = .ok (.iconst (-1), 1) := by decide +kernel
theorem dX12_next_45 : decode cX12_next 45 = .ok (.if_icmp .ne 12, 3) := by decide +kernel
theorem dX12_next_48 : decode cX12_next 48 = .ok (.aload_n 0, 1) := by decide +kernel
theorem dX12_next_49 : decode cX12_next 49 = .ok (.bipush 6, 2) := by decide +kernel
theorem dX12_next_51 : decode cX12_next 51 = .ok (.invokevirtual 185, 3) := by decide +kernel
theorem dX12_next_54 : decode cX12_next 54 = .ok (.goto 9, 3) := by decide +kernel
theorem dX12_next_57 : decode cX12_next 57 = .ok (.aload_n 0, 1) := by decide +kernel
theorem dX12_next_58 : decode cX12_next 58 = .ok (.iload 4, 2) := by decide +kernel
theorem dX12_next_60 : decode cX12_next 60 = .ok (.invokevirtual 188, 3) := by decide +kernel
theorem dX12_next_63 : decode cX12_next 63 = .ok (.ireturn, 1) := by decide +kernel
theorem dX12_keeps_0 : decode cX12_keeps 0 = .ok (.iconst 0, 1) := by decide +kernel
theorem dX12_keeps_1 : decode cX12_keeps 1 = .ok (.istore_n 1, 1) := by decide +kernel
theorem dX12_keeps_2 : decode cX12_keeps 2 = .ok (.iload_n 1, 1) := by decide +kernel
theorem dX12_keeps_3 : decode cX12_keeps 3 = .ok (.bipush 32, 2) := by decide +kernel
theorem dX12_keeps_5 : decode cX12_keeps 5 = .ok (.if_icmp .ge 25, 3) := by decide +kernel
theorem dX12_keeps_8 : decode cX12_keeps 8 = .ok (.aload_n 0, 1) := by decide +kernel
theorem dX12_keeps_9 : decode cX12_keeps 9 = .ok (.getfield 75, 3) := by decide +kernel
theorem dX12_keeps_12 : decode cX12_keeps 12 = .ok (.iload_n 1, 1) := by decide +kernel
theorem dX12_keeps_13 : decode cX12_keeps 13 = .ok (.aload_n 0, 1) := by decide +kernel
theorem dX12_keeps_14 : decode cX12_keeps 14 = .ok (.getfield 7, 3) := by decide +kernel
theorem dX12_keeps_17 : decode cX12_keeps 17 = .ok (.sipush 168, 3) := by decide +kernel
theorem dX12_keeps_20 : decode cX12_keeps 20 = .ok (.iload_n 1, 1) := by decide +kernel
theorem dX12_keeps_21 : decode cX12_keeps 21 = .ok (.iadd, 1) := by decide +kernel
theorem dX12_keeps_22 : decode cX12_keeps 22 = .ok (.iaload, 1) := by decide +kernel
theorem dX12_keeps_23 : decode cX12_keeps 23 = .ok (.iastore, 1) := by decide +kernel
theorem dX12_keeps_24 : decode cX12_keeps 24 = .ok (.iinc 1 1, 3) := by decide +kernel
theorem dX12_keeps_27 : decode cX12_keeps 27 = .ok (.goto (-25), 3) := by decide +kernel
theorem dX12_keeps_30 : decode cX12_keeps 30 = .ok (.aload_n 0, 1) := by decide +kernel
theorem dX12_keeps_31 : decode cX12_keeps 31 = .ok (.aload_n 0, 1) := by decide +kernel
theorem dX12_keeps_32 : decode cX12_keeps 32 = .ok (.getfield 7, 3) := by decide +kernel
theorem dX12_keeps_35 : decode cX12_keeps 35 = .ok (.iconst 3, 1) := by decide +kernel
theorem dX12_keeps_36 : decode cX12_keeps 36 = .ok (.iaload, 1) := by decide +kernel
theorem dX12_keeps_37 : decode cX12_keeps 37 = .ok (.putfield 433, 3) := by decide +kernel
theorem dX12_keeps_40 : decode cX12_keeps 40 = .ok (.aload_n 0, 1) := by decide +kernel
theorem dX12_keeps_41 : decode cX12_keeps 41 = .ok (.aload_n 0, 1) := by decide +kernel
theorem dX12_keeps_42 : decode cX12_keeps 42 = .ok (.getfield 7, 3) := by decide +kernel
theorem dX12_keeps_45 : decode cX12_keeps 45 = .ok (.iconst 4, 1) := by decide +kernel
theorem dX12_keeps_46 : decode cX12_keeps 46 = .ok (.iaload, 1) := by decide +kernel
theorem dX12_keeps_47 : decode cX12_keeps 47 = .ok (.putfield 436, 3) := by decide +kernel
theorem dX12_keeps_50 : decode cX12_keeps 50 = .ok (.return_, 1) := by decide +kernel
theorem dX12_brings_0 : decode cX12_brings 0 = .ok (.iconst 0, 1) := by decide +kernel
theorem dX12_brings_1 : decode cX12_brings 1 = .ok (.istore_n 1, 1) := by decide +kernel
theorem dX12_brings_2 : decode cX12_brings 2 = .ok (.iload_n 1, 1) := by decide +kernel
theorem dX12_brings_3 : decode cX12_brings 3 = .ok (.bipush 32, 2) := by decide +kernel
theorem dX12_brings_5 : decode cX12_brings 5 = .ok (.if_icmp .ge 25, 3) := by decide +kernel
theorem dX12_brings_8 : decode cX12_brings 8 = .ok (.aload_n 0, 1) := by decide +kernel
theorem dX12_brings_9 : decode cX12_brings 9 = .ok (.getfield 7, 3) := by decide +kernel
theorem dX12_brings_12 : decode cX12_brings 12 = .ok (.sipush 168, 3) := by decide +kernel
theorem dX12_brings_15 : decode cX12_brings 15 = .ok (.iload_n 1, 1) := by decide +kernel
theorem dX12_brings_16 : decode cX12_brings 16 = .ok (.iadd, 1) := by decide +kernel
theorem dX12_brings_17 : decode cX12_brings 17 = .ok (.aload_n 0, 1) := by decide +kernel
theorem dX12_brings_18 : decode cX12_brings 18 = .ok (.getfield 75, 3) := by decide +kernel
theorem dX12_brings_21 : decode cX12_brings 21 = .ok (.iload_n 1, 1) := by decide +kernel
theorem dX12_brings_22 : decode cX12_brings 22 = .ok (.iaload, 1) := by decide +kernel
theorem dX12_brings_23 : decode cX12_brings 23 = .ok (.iastore, 1) := by decide +kernel
theorem dX12_brings_24 : decode cX12_brings 24 = .ok (.iinc 1 1, 3) := by decide +kernel
theorem dX12_brings_27 : decode cX12_brings 27 = .ok (.goto (-25), 3) := by decide +kernel
theorem dX12_brings_30 : decode cX12_brings 30 = .ok (.aload_n 0, 1) := by decide +kernel
theorem dX12_brings_31 : decode cX12_brings 31 = .ok (.getfield 7, 3) := by decide +kernel
theorem dX12_brings_34 : decode cX12_brings 34 = .ok (.iconst 3, 1) := by decide +kernel
theorem dX12_brings_35 : decode cX12_brings 35 = .ok (.aload_n 0, 1) := by decide +kernel
theorem dX12_brings_36 : decode cX12_brings 36 = .ok (.getfield 433, 3) := by decide +kernel
theorem dX12_brings_39 : decode cX12_brings 39 = .ok (.iastore, 1) := by decide +kernel
theorem dX12_brings_40 : decode cX12_brings 40 = .ok (.aload_n 0, 1) := by decide +kernel
theorem dX12_brings_41 : decode cX12_brings 41 = .ok (.getfield 7, 3) := by decide +kernel
theorem dX12_brings_44 : decode cX12_brings 44 = .ok (.iconst 4, 1) := by decide +kernel
theorem dX12_brings_45 : decode cX12_brings 45 = .ok (.aload_n 0, 1) := by decide +kernel
theorem dX12_brings_46 : decode cX12_brings 46 = .ok (.getfield 436, 3) := by decide +kernel
theorem dX12_brings_49 : decode cX12_brings 49 = .ok (.iastore, 1) := by decide +kernel
theorem dX12_brings_50 : decode cX12_brings 50 = .ok (.return_, 1) := by decide +kernel
theorem dX12_lieTo_0 : decode cX12_lieTo 0 = .ok (.aload_n 0, 1) := by decide +kernel
theorem dX12_lieTo_1 : decode cX12_lieTo 1 = .ok (.iload_n 1, 1) := by decide +kernel
theorem dX12_lieTo_2 : decode cX12_lieTo 2 = .ok (.iload_n 2, 1) := by decide +kernel
theorem dX12_lieTo_3 : decode cX12_lieTo 3 = .ok (.invokevirtual 378, 3) := by decide +kernel
theorem dX12_lieTo_6 : decode cX12_lieTo 6 = .ok (.ifCond .eq 28, 3) := by decide +kernel
theorem dX12_lieTo_9 : decode cX12_lieTo 9 = .ok (.iload_n 3, 1) := by decide +kernel
theorem dX12_lieTo_10 : decode cX12_lieTo 10 = .ok (.i2l, 1) := by decide +kernel
theorem dX12_lieTo_11 : decode cX12_lieTo 11 = .ok (.lconst 0, 1) := by decide +kernel
theorem dX12_lieTo_12 : decode cX12_lieTo 12 = .ok (.ldc2_w 316, 3) := by decide +kernel
theorem dX12_lieTo_15 : decode cX12_lieTo 15 = .ok (.invokestatic 281, 3) := by decide +kernel
theorem dX12_lieTo_18 : decode cX12_lieTo 18 = .ok (.ifCond .eq 16, 3) := by decide +kernel
theorem dX12_lieTo_21 : decode cX12_lieTo 21 = .ok (.iload 4, 2) := by decide +kernel
theorem dX12_lieTo_23 : decode cX12_lieTo 23 = .ok (.i2l, 1) := by decide +kernel
theorem dX12_lieTo_24 : decode cX12_lieTo 24 = .ok (.lconst 0, 1) := by decide +kernel
theorem dX12_lieTo_25 : decode cX12_lieTo 25 = .ok (.ldc2_w 439, 3) := by decide +kernel
theorem dX12_lieTo_28 : decode cX12_lieTo 28 = .ok (.invokestatic 281, 3) := by decide +kernel
theorem dX12_lieTo_31 : decode cX12_lieTo 31 = .ok (.ifCond .ne 9, 3) := by decide +kernel
theorem dX12_lieTo_34 : decode cX12_lieTo 34 = .ok (.aload_n 0, 1) := by decide +kernel
theorem dX12_lieTo_35 : decode cX12_lieTo 35 = .ok (.iconst 1, 1) := by decide +kernel
theorem dX12_lieTo_36 : decode cX12_lieTo 36 = .ok (.invokevirtual 185, 3) := by decide +kernel
theorem dX12_lieTo_39 : decode cX12_lieTo 39 = .ok (.ireturn, 1) := by decide +kernel
theorem dX12_lieTo_40 : decode cX12_lieTo 40 = .ok (.aload_n 0, 1) := by decide +kernel
theorem dX12_lieTo_41 : decode cX12_lieTo 41 = .ok (.getfield 7, 3) := by decide +kernel
theorem dX12_lieTo_44 : decode cX12_lieTo 44 = .ok (.iconst 3, 1) := by decide +kernel
theorem dX12_lieTo_45 : decode cX12_lieTo 45 = .ok (.iaload, 1) := by decide +kernel
theorem dX12_lieTo_46 : decode cX12_lieTo 46 = .ok (.iload_n 3, 1) := by decide +kernel
theorem dX12_lieTo_47 : decode cX12_lieTo 47 = .ok (.iadd, 1) := by decide +kernel
theorem dX12_lieTo_48 : decode cX12_lieTo 48 = .ok (.bipush 99, 2) := by decide +kernel
theorem dX12_lieTo_50 : decode cX12_lieTo 50 = .ok (.if_icmp .le 9, 3) := by decide +kernel
theorem dX12_lieTo_53 : decode cX12_lieTo 53 = .ok (.aload_n 0, 1) := by decide +kernel
theorem dX12_lieTo_54 : decode cX12_lieTo 54 = .ok (.iconst 4, 1) := by decide +kernel
theorem dX12_lieTo_55 : decode cX12_lieTo 55 = .ok (.invokevirtual 185, 3) := by decide +kernel
theorem dX12_lieTo_58 : decode cX12_lieTo 58 = .ok (.ireturn, 1) := by decide +kernel
theorem dX12_lieTo_59 : decode cX12_lieTo 59 = .ok (.aload_n 0, 1) := by decide +kernel
theorem dX12_lieTo_60 : decode cX12_lieTo 60 = .ok (.invokevirtual 441, 3) := by decide +kernel
theorem dX12_lieTo_63 : decode cX12_lieTo 63 = .ok (.iconst (-1), 1) := by decide +kernel
theorem dX12_lieTo_64 : decode cX12_lieTo 64 = .ok (.istore 5, 2) := by decide +kernel
theorem dX12_lieTo_66 : decode cX12_lieTo 66 = .ok (.lconst 0, 1) := by decide +kernel
theorem dX12_lieTo_67 : decode cX12_lieTo 67 = .ok (.lstore 6, 2) := by decide +kernel
theorem dX12_lieTo_69 : decode cX12_lieTo 69 = .ok (.lconst 0, 1) := by decide +kernel
theorem dX12_lieTo_70 : decode cX12_lieTo 70 = .ok (.lstore 8, 2) := by decide +kernel
theorem dX12_lieTo_72 : decode cX12_lieTo 72 = .ok (.iconst 0, 1) := by decide +kernel
theorem dX12_lieTo_73 : decode cX12_lieTo 73 = .ok (.istore 10, 2) := by decide +kernel
theorem dX12_lieTo_75 : decode cX12_lieTo 75 = .ok (.iload 10, 2) := by decide +kernel
theorem dX12_lieTo_77 : decode cX12_lieTo 77 = .ok (.iload_n 3, 1) := by decide +kernel
theorem dX12_lieTo_78 : decode cX12_lieTo 78 = .ok (.if_icmp .gt 96, 3) := by decide +kernel
theorem dX12_lieTo_81 : decode cX12_lieTo 81 = .ok (.aload_n 0, 1) := by decide +kernel
theorem dX12_lieTo_82 : decode cX12_lieTo 82 = .ok (.iload_n 1, 1) := by decide +kernel
theorem dX12_lieTo_83 : decode cX12_lieTo 83 = .ok (.iload_n 2, 1) := by decide +kernel
theorem dX12_lieTo_84 : decode cX12_lieTo 84 = .ok (.invokevirtual 381, 3) := by decide +kernel
theorem dX12_lieTo_87 : decode cX12_lieTo 87 = .ok (.istore 11, 2) := by decide +kernel
theorem dX12_lieTo_89 : decode cX12_lieTo 89 = .ok (.iload 11, 2) := by decide +kernel
theorem dX12_lieTo_91 : decode cX12_lieTo 91 = .ok (.iconst (-1), 1) := by decide +kernel
theorem dX12_lieTo_92 : decode cX12_lieTo 92 = .ok (.if_icmp .ne 7, 3) := by decide +kernel
theorem dX12_lieTo_95 : decode cX12_lieTo 95 = .ok (.lconst 0, 1) := by decide +kernel
theorem dX12_lieTo_96 : decode cX12_lieTo 96 = .ok (.goto 10, 3) := by decide +kernel
theorem dX12_lieTo_99 : decode cX12_lieTo 99 = .ok (.aload_n 0, 1) := by decide +kernel
theorem dX12_lieTo_100 : decode cX12_lieTo 100 = .ok (.iconst 0, 1) := by decide +kernel
theorem dX12_lieTo_101 : decode cX12_lieTo 101 = .ok (.iload 11, 2) := by decide +kernel
theorem dX12_lieTo_103 : decode cX12_lieTo 103 = .ok (.invokevirtual 308, 3) := by decide +kernel
theorem dX12_lieTo_106 : decode cX12_lieTo 106 = .ok (.lstore 12, 2) := by decide +kernel
theorem dX12_lieTo_108 : decode cX12_lieTo 108 = .ok (.iload 11, 2) := by decide +kernel
theorem dX12_lieTo_110 : decode cX12_lieTo 110 = .ok (.iconst (-1), 1) := by decide +kernel
theorem dX12_lieTo_111 : decode cX12_lieTo 111 = .ok (.if_icmp .eq 45, 3) := by decide +kernel
theorem dX12_lieTo_114 : decode cX12_lieTo 114 = .ok (.iload 5, 2) := by decide +kernel
theorem dX12_lieTo_116 : decode cX12_lieTo 116 = .ok (.iconst (-1), 1) := by decide +kernel
theorem dX12_lieTo_117 : decode cX12_lieTo 117 = .ok (.if_icmp .eq 19, 3) := by decide +kernel
theorem dX12_lieTo_120 : decode cX12_lieTo 120 = .ok (.lload 12, 2) := by decide +kernel
theorem dX12_lieTo_122 : decode cX12_lieTo 122 = .ok (.iload 10, 2) := by decide +kernel
theorem dX12_lieTo_124 : decode cX12_lieTo 124 = .ok (.i2l, 1) := by decide +kernel
theorem dX12_lieTo_125 : decode cX12_lieTo 125 = .ok (.iload 4, 2) := by decide +kernel
theorem dX12_lieTo_127 : decode cX12_lieTo 127 = .ok (.i2l, 1) := by decide +kernel
theorem dX12_lieTo_128 : decode cX12_lieTo 128 = .ok (.lmul, 1) := by decide +kernel
theorem dX12_lieTo_129 : decode cX12_lieTo 129 = .ok (.lsub, 1) := by decide +kernel
theorem dX12_lieTo_130 : decode cX12_lieTo 130 = .ok (.lload 6, 2) := by decide +kernel
theorem dX12_lieTo_132 : decode cX12_lieTo 132 = .ok (.lcmp, 1) := by decide +kernel
theorem dX12_lieTo_133 : decode cX12_lieTo 133 = .ok (.ifCond .le 23, 3) := by decide +kernel
theorem dX12_lieTo_136 : decode cX12_lieTo 136 = .ok (.iload 10, 2) := by decide +kernel
theorem dX12_lieTo_138 : decode cX12_lieTo 138 = .ok (.istore 5, 2) := by decide +kernel
theorem dX12_lieTo_140 : decode cX12_lieTo 140 = .ok (.lload 12, 2) := by decide +kernel
theorem dX12_lieTo_142 : decode cX12_lieTo 142 = .ok (.iload 10, 2) := by decide +kernel
theorem dX12_lieTo_144 : decode cX12_lieTo 144 = .ok (.i2l, 1) := by decide +kernel
theorem dX12_lieTo_145 : decode cX12_lieTo 145 = .ok (.iload 4, 2) := by decide +kernel
theorem dX12_lieTo_147 : decode cX12_lieTo 147 = .ok (.i2l, 1) := by decide +kernel
theorem dX12_lieTo_148 : decode cX12_lieTo 148 = .ok (.lmul, 1) := by decide +kernel
theorem dX12_lieTo_149 : decode cX12_lieTo 149 = .ok (.lsub, 1) := by decide +kernel
theorem dX12_lieTo_150 : decode cX12_lieTo 150 = .ok (.lstore 6, 2) := by decide +kernel
theorem dX12_lieTo_152 : decode cX12_lieTo 152 = .ok (.lload 12, 2) := by decide +kernel
theorem dX12_lieTo_154 : decode cX12_lieTo 154 = .ok (.lstore 8, 2) := by decide +kernel
theorem dX12_lieTo_156 : decode cX12_lieTo 156 = .ok (.iload 10, 2) := by decide +kernel
theorem dX12_lieTo_158 : decode cX12_lieTo 158 = .ok (.iload_n 3, 1) := by decide +kernel
theorem dX12_lieTo_159 : decode cX12_lieTo 159 = .ok (.if_icmp .ge 9, 3) := by decide +kernel
theorem dX12_lieTo_162 : decode cX12_lieTo 162 = .ok (.aload_n 0, 1) := by decide +kernel
theorem dX12_lieTo_163 : decode cX12_lieTo 163 = .ok (.iconst (-1), 1) := by decide +kernel
theorem dX12_lieTo_164 : decode cX12_lieTo 164 = .ok (.iconst 0, 1) := by decide +kernel
theorem dX12_lieTo_165 : decode cX12_lieTo 165 = .ok (.invokevirtual 318, 3) := by decide +kernel
theorem dX12_lieTo_168 : decode cX12_lieTo 168 = .ok (.iinc 10 1, 3) := by decide +kernel
theorem dX12_lieTo_171 : decode cX12_lieTo 171 = .ok (.goto (-96), 3) := by decide +kernel
theorem dX12_lieTo_174 : decode cX12_lieTo 174 = .ok (.aload_n 0, 1) := by decide +kernel
theorem dX12_lieTo_175 : decode cX12_lieTo 175 = .ok (.invokevirtual 444, 3) := by decide +kernel
theorem dX12_lieTo_178 : decode cX12_lieTo 178 = .ok (.iload 5, 2) := by decide +kernel
theorem dX12_lieTo_180 : decode cX12_lieTo 180 = .ok (.iconst (-1), 1) := by decide +kernel
theorem dX12_lieTo_181 : decode cX12_lieTo 181 = .ok (.if_icmp .ne 10, 3) := by decide +kernel
theorem dX12_lieTo_184 : decode cX12_lieTo 184 = .ok (.aload_n 0, 1) := by decide +kernel
theorem dX12_lieTo_185 : decode cX12_lieTo 185 = .ok (.bipush 6, 2) := by decide +kernel
theorem dX12_lieTo_187 : decode cX12_lieTo 187 = .ok (.invokevirtual 185, 3) := by decide +kernel
theorem dX12_lieTo_190 : decode cX12_lieTo 190 = .ok (.ireturn, 1) := by decide +kernel
theorem dX12_lieTo_191 : decode cX12_lieTo 191 = .ok (.aload_n 0, 1) := by decide +kernel
theorem dX12_lieTo_192 : decode cX12_lieTo 192 = .ok (.lload 8, 2) := by decide +kernel
theorem dX12_lieTo_194 : decode cX12_lieTo 194 = .ok (.ldc2_w 300, 3) := by decide +kernel
theorem dX12_lieTo_197 : decode cX12_lieTo 197 = .ok (.invokevirtual 312, 3) := by decide +kernel
theorem dX12_lieTo_200 : decode cX12_lieTo 200 = .ok (.pop, 1) := by decide +kernel
theorem dX12_lieTo_201 : decode cX12_lieTo 201 = .ok (.aload_n 0, 1) := by decide +kernel
theorem dX12_lieTo_202 : decode cX12_lieTo 202 = .ok (.iload 5, 2) := by decide +kernel
theorem dX12_lieTo_204 : decode cX12_lieTo 204 = .ok (.invokevirtual 188, 3) := by decide +kernel
theorem dX12_lieTo_207 : decode cX12_lieTo 207 = .ok (.ireturn, 1) := by decide +kernel
theorem dX12_bits_0 : decode cX12_bits 0 = .ok (.iconst 0, 1) := by decide +kernel
theorem dX12_bits_1 : decode cX12_bits 1 = .ok (.istore_n 1, 1) := by decide +kernel
theorem dX12_bits_2 : decode cX12_bits 2 = .ok (.iload_n 0, 1) := by decide +kernel
theorem dX12_bits_3 : decode cX12_bits 3 = .ok (.istore_n 2, 1) := by decide +kernel
theorem dX12_bits_4 : decode cX12_bits 4 = .ok (.iload_n 2, 1) := by decide +kernel
theorem dX12_bits_5 : decode cX12_bits 5 = .ok (.ifCond .eq 15, 3) := by decide +kernel
theorem dX12_bits_8 : decode cX12_bits 8 = .ok (.iinc 1 1, 3) := by decide +kernel
theorem dX12_bits_11 : decode cX12_bits 11 = .ok (.iload_n 2, 1) := by decide +kernel
theorem dX12_bits_12 : decode cX12_bits 12 = .ok (.iload_n 2, 1) := by decide +kernel
theorem dX12_bits_13 : decode cX12_bits 13 = .ok (.iconst 1, 1) := by decide +kernel
theorem dX12_bits_14 : decode cX12_bits 14 = .ok (.isub, 1) := by decide +kernel
theorem dX12_bits_15 : decode cX12_bits 15 = .ok (.iand, 1) := by decide +kernel
theorem dX12_bits_16 : decode cX12_bits 16 = .ok (.istore_n 2, 1) := by decide +kernel
theorem dX12_bits_17 : decode cX12_bits 17 = .ok (.goto (-13), 3) := by decide +kernel
theorem dX12_bits_20 : decode cX12_bits 20 = .ok (.iload_n 1, 1) := by decide +kernel
theorem dX12_bits_21 : decode cX12_bits 21 = .ok (.ireturn, 1) := by decide +kernel
theorem dX12_markedBy_0 : decode cX12_markedBy 0 = .ok (.lconst 0, 1) := by decide +kernel
theorem dX12_markedBy_1 : decode cX12_markedBy 1 = .ok (.lstore_n 2, 1) := by decide +kernel
theorem dX12_markedBy_2 : decode cX12_markedBy 2 = .ok (.iconst 0, 1) := by decide +kernel
theorem dX12_markedBy_3 : decode cX12_markedBy 3 = .ok (.istore 4, 2) := by decide +kernel
theorem dX12_markedBy_5 : decode cX12_markedBy 5 = .ok (.iload 4, 2) := by decide +kernel
theorem dX12_markedBy_7 : decode cX12_markedBy 7 = .ok (.aload_n 0, 1) := by decide +kernel
theorem dX12_markedBy_8 : decode cX12_markedBy 8 = .ok (.invokevirtual 263, 3) := by decide +kernel
theorem dX12_markedBy_11 : decode cX12_markedBy 11 = .ok (.if_icmp .ge 80, 3) := by decide +kernel
theorem dX12_markedBy_14 : decode cX12_markedBy 14 = .ok (.iload 4, 2) := by decide +kernel
theorem dX12_markedBy_16 : decode cX12_markedBy 16 = .ok (.iload_n 1, 1) := by decide +kernel
theorem dX12_markedBy_17 : decode cX12_markedBy 17 = .ok (.iconst (-1), 1) := by decide +kernel
theorem dX12_markedBy_18 : decode cX12_markedBy 18 = .ok (.ixor, 1) := by decide +kernel
theorem dX12_markedBy_19 : decode cX12_markedBy 19 = .ok (.iand, 1) := by decide +kernel
theorem dX12_markedBy_20 : decode cX12_markedBy 20 = .ok (.ifCond .eq 6, 3) := by decide +kernel
theorem dX12_markedBy_23 : decode cX12_markedBy 23 = .ok (.goto 62, 3) := by decide +kernel
theorem dX12_markedBy_26 : decode cX12_markedBy 26 = .ok (.lconst 0, 1) := by decide +kernel
theorem dX12_markedBy_27 : decode cX12_markedBy 27 = .ok (.lstore 5, 2) := by decide +kernel
theorem dX12_markedBy_29 : decode cX12_markedBy 29 = .ok (.iconst 0, 1) := by decide +kernel
theorem dX12_markedBy_30 : decode cX12_markedBy 30 = .ok (.istore 7, 2) := by decide +kernel
theorem dX12_markedBy_32 : decode cX12_markedBy 32 = .ok (.iload 7, 2) := by decide +kernel
theorem dX12_markedBy_34 : decode cX12_markedBy 34 = .ok (.aload_n 0, 1) := by decide +kernel
theorem dX12_markedBy_35 : decode cX12_markedBy 35 = .ok (.invokevirtual 263, 3) := by decide +kernel
theorem dX12_markedBy_38 : decode cX12_markedBy 38 = .ok (.if_icmp .ge 42, 3) := by decide +kernel
theorem dX12_markedBy_41 : decode cX12_markedBy 41 = .ok (.aload_n 0, 1) := by decide +kernel
theorem dX12_markedBy_42 : decode cX12_markedBy 42 = .ok (.getfield 63, 3) := by decide +kernel
theorem dX12_markedBy_45 : decode cX12_markedBy 45 = .ok (.iload 7, 2) := by decide +kernel
theorem dX12_markedBy_47 : decode cX12_markedBy 47 = .ok (.iaload, 1) := by decide +kernel
theorem dX12_markedBy_48 : decode cX12_markedBy 48 = .ok (.iconst (-1), 1) := by decide +kernel
theorem dX12_markedBy_49 : decode cX12_markedBy 49 = .ok (.if_icmp .eq 25, 3) := by decide +kernel
theorem dX12_markedBy_52 : decode cX12_markedBy 52 = .ok (.lload 5, 2) := by decide +kernel
theorem dX12_markedBy_54 : decode cX12_markedBy 54 = .ok (.aload_n 0, 1) := by decide +kernel
theorem dX12_markedBy_55 : decode cX12_markedBy 55 = .ok (.iload 4, 2) := by decide +kernel
theorem dX12_markedBy_57 : decode cX12_markedBy 57 = .ok (.iload 7, 2) := by decide +kernel
theorem dX12_markedBy_59 : decode cX12_markedBy 59 = .ok (.iload_n 1, 1) := by decide +kernel
theorem dX12_markedBy_60 : decode cX12_markedBy 60 = .ok (.iload 4, 2) := by decide +kernel
theorem dX12_markedBy_62 : decode cX12_markedBy 62 = .ok (.iconst (-1), 1) := by decide +kernel
theorem dX12_markedBy_63 : decode cX12_markedBy 63 = .ok (.ixor, 1) := by decide +kernel
theorem dX12_markedBy_64 : decode cX12_markedBy 64 = .ok (.iand, 1) := by decide +kernel
theorem dX12_markedBy_65 : decode cX12_markedBy 65 = .ok (.ior, 1) := by decide +kernel
theorem dX12_markedBy_66 : decode cX12_markedBy 66 = .ok (.invokevirtual 308, 3) := by decide +kernel
theorem dX12_markedBy_69 : decode cX12_markedBy 69 = .ok (.invokestatic 388, 3) := by decide +kernel
theorem dX12_markedBy_72 : decode cX12_markedBy 72 = .ok (.lstore 5, 2) := by decide +kernel
theorem dX12_markedBy_74 : decode cX12_markedBy 74 = .ok (.iinc 7 1, 3) := by decide +kernel
theorem dX12_markedBy_77 : decode cX12_markedBy 77 = .ok (.goto (-45), 3) := by decide +kernel
theorem dX12_markedBy_80 : decode cX12_markedBy 80 = .ok (.lload_n 2, 1) := by decide +kernel
theorem dX12_markedBy_81 : decode cX12_markedBy 81 = .ok (.lload 5, 2) := by decide +kernel
theorem dX12_markedBy_83 : decode cX12_markedBy 83 = .ok (.ladd, 1) := by decide +kernel
theorem dX12_markedBy_84 : decode cX12_markedBy 84 = .ok (.lstore_n 2, 1) := by decide +kernel
theorem dX12_markedBy_85 : decode cX12_markedBy 85 = .ok (.iinc 4 1, 3) := by decide +kernel
theorem dX12_markedBy_88 : decode cX12_markedBy 88 = .ok (.goto (-83), 3) := by decide +kernel
theorem dX12_markedBy_91 : decode cX12_markedBy 91 = .ok (.lload_n 2, 1) := by decide +kernel
theorem dX12_markedBy_92 : decode cX12_markedBy 92 = .ok (.lreturn, 1) := by decide +kernel
theorem dX12_marked_0 : decode cX12_marked 0 = .ok (.aload_n 0, 1) := by decide +kernel
theorem dX12_marked_1 : decode cX12_marked 1 = .ok (.iload_n 1, 1) := by decide +kernel
theorem dX12_marked_2 : decode cX12_marked 2 = .ok (.iload_n 2, 1) := by decide +kernel
theorem dX12_marked_3 : decode cX12_marked 3 = .ok (.invokevirtual 378, 3) := by decide +kernel
theorem dX12_marked_6 : decode cX12_marked 6 = .ok (.ifCond .eq 17, 3) := by decide +kernel
theorem dX12_marked_9 : decode cX12_marked 9 = .ok (.iload_n 3, 1) := by decide +kernel
theorem dX12_marked_10 : decode cX12_marked 10 = .ok (.ifCond .lt 13, 3) := by decide +kernel
theorem dX12_marked_13 : decode cX12_marked 13 = .ok (.iload_n 3, 1) := by decide +kernel
theorem dX12_marked_14 : decode cX12_marked 14 = .ok (.aload_n 0, 1) := by decide +kernel
theorem dX12_marked_15 : decode cX12_marked 15 = .ok (.getfield 7, 3) := by decide +kernel
theorem dX12_marked_18 : decode cX12_marked 18 = .ok (.iconst 2, 1) := by decide +kernel
theorem dX12_marked_19 : decode cX12_marked 19 = .ok (.iaload, 1) := by decide +kernel
theorem dX12_marked_20 : decode cX12_marked 20 = .ok (.if_icmp .le 9, 3) := by decide +kernel
theorem dX12_marked_23 : decode cX12_marked 23 = .ok (.aload_n 0, 1) := by decide +kernel
theorem dX12_marked_24 : decode cX12_marked 24 = .ok (.iconst 1, 1) := by decide +kernel
theorem dX12_marked_25 : decode cX12_marked 25 = .ok (.invokevirtual 185, 3) := by decide +kernel
theorem dX12_marked_28 : decode cX12_marked 28 = .ok (.ireturn, 1) := by decide +kernel
theorem dX12_marked_29 : decode cX12_marked 29 = .ok (.aload_n 0, 1) := by decide +kernel
theorem dX12_marked_30 : decode cX12_marked 30 = .ok (.iload_n 1, 1) := by decide +kernel
theorem dX12_marked_31 : decode cX12_marked 31 = .ok (.iload_n 2, 1) := by decide +kernel
theorem dX12_marked_32 : decode cX12_marked 32 = .ok (.invokevirtual 381, 3) := by decide +kernel
theorem dX12_marked_35 : decode cX12_marked 35 = .ok (.iconst (-1), 1) := by decide +kernel
theorem dX12_marked_36 : decode cX12_marked 36 = .ok (.if_icmp .ne 10, 3) := by decide +kernel
theorem dX12_marked_39 : decode cX12_marked 39 = .ok (.aload_n 0, 1) := by decide +kernel
theorem dX12_marked_40 : decode cX12_marked 40 = .ok (.bipush 6, 2) := by decide +kernel
theorem dX12_marked_42 : decode cX12_marked 42 = .ok (.invokevirtual 185, 3) := by decide +kernel
theorem dX12_marked_45 : decode cX12_marked 45 = .ok (.ireturn, 1) := by decide +kernel
theorem dX12_marked_46 : decode cX12_marked 46 = .ok (.iconst (-1), 1) := by decide +kernel
theorem dX12_marked_47 : decode cX12_marked 47 = .ok (.istore 4, 2) := by decide +kernel
theorem dX12_marked_49 : decode cX12_marked 49 = .ok (.lconst 0, 1) := by decide +kernel
theorem dX12_marked_50 : decode cX12_marked 50 = .ok (.lstore 5, 2) := by decide +kernel
theorem dX12_marked_52 : decode cX12_marked 52 = .ok (.iconst 0, 1) := by decide +kernel
theorem dX12_marked_53 : decode cX12_marked 53 = .ok (.istore 7, 2) := by decide +kernel
theorem dX12_marked_55 : decode cX12_marked 55 = .ok (.iload 7, 2) := by decide +kernel
theorem dX12_marked_57 : decode cX12_marked 57 = .ok (.aload_n 0, 1) := by decide +kernel
theorem dX12_marked_58 : decode cX12_marked 58 = .ok (.invokevirtual 263, 3) := by decide +kernel
theorem dX12_marked_61 : decode cX12_marked 61 = .ok (.if_icmp .ge 54, 3) := by decide +kernel
theorem dX12_marked_64 : decode cX12_marked 64 = .ok (.iload 7, 2) := by decide +kernel
theorem dX12_marked_66 : decode cX12_marked 66 = .ok (.invokestatic 447, 3) := by decide +kernel
theorem dX12_marked_69 : decode cX12_marked 69 = .ok (.iload_n 3, 1) := by decide +kernel
theorem dX12_marked_70 : decode cX12_marked 70 = .ok (.if_icmp .eq 6, 3) := by decide +kernel
theorem dX12_marked_73 : decode cX12_marked 73 = .ok (.goto 36, 3) := by decide +kernel
theorem dX12_marked_76 : decode cX12_marked 76 = .ok (.aload_n 0, 1) := by decide +kernel
theorem dX12_marked_77 : decode cX12_marked 77 = .ok (.iload 7, 2) := by decide +kernel
theorem dX12_marked_79 : decode cX12_marked 79 = .ok (.invokevirtual 450, 3) := by decide +kernel
theorem dX12_marked_82 : decode cX12_marked 82 = .ok (.lstore 8, 2) := by decide +kernel
theorem dX12_marked_84 : decode cX12_marked 84 = .ok (.iload 4, 2) := by decide +kernel
theorem dX12_marked_86 : decode cX12_marked 86 = .ok (.iconst (-1), 1) := by decide +kernel
theorem dX12_marked_87 : decode cX12_marked 87 = .ok (.if_icmp .eq 14, 3) := by decide +kernel
theorem dX12_marked_90 : decode cX12_marked 90 = .ok (.lload 8, 2) := by decide +kernel
theorem dX12_marked_92 : decode cX12_marked 92 = .ok (.lload 5, 2) := by decide +kernel
theorem dX12_marked_94 : decode cX12_marked 94 = .ok (.lcmp, 1) := by decide +kernel
theorem dX12_marked_95 : decode cX12_marked 95 = .ok (.ifCond .gt 6, 3) := by decide +kernel
theorem dX12_marked_98 : decode cX12_marked 98 = .ok (.goto 11, 3) := by decide +kernel
theorem dX12_marked_101 : decode cX12_marked 101 = .ok (.iload 7, 2) := by decide +kernel
theorem dX12_marked_103 : decode cX12_marked 103 = .ok (.istore 4, 2) := by decide +kernel
theorem dX12_marked_105 : decode cX12_marked 105 = .ok (.lload 8, 2) := by decide +kernel
theorem dX12_marked_107 : decode cX12_marked 107 = .ok (.lstore 5, 2) := by decide +kernel
theorem dX12_marked_109 : decode cX12_marked 109 = .ok (.iinc 7 1, 3) := by decide +kernel
theorem dX12_marked_112 : decode cX12_marked 112 = .ok (.goto (-57), 3) := by decide +kernel
theorem dX12_marked_115 : decode cX12_marked 115 = .ok (.aload_n 0, 1) := by decide +kernel
theorem dX12_marked_116 : decode cX12_marked 116 = .ok (.lload 5, 2) := by decide +kernel
theorem dX12_marked_118 : decode cX12_marked 118 = .ok (.ldc2_w 300, 3) := by decide +kernel
theorem dX12_marked_121 : decode cX12_marked 121 = .ok (.invokevirtual 312, 3) := by decide +kernel
theorem dX12_marked_124 : decode cX12_marked 124 = .ok (.pop, 1) := by decide +kernel
theorem dX12_marked_125 : decode cX12_marked 125 = .ok (.aload_n 0, 1) := by decide +kernel
theorem dX12_marked_126 : decode cX12_marked 126 = .ok (.iload 4, 2) := by decide +kernel
theorem dX12_marked_128 : decode cX12_marked 128 = .ok (.invokevirtual 188, 3) := by decide +kernel
theorem dX12_marked_131 : decode cX12_marked 131 = .ok (.ireturn, 1) := by decide +kernel
theorem dX12_tells_0 : decode cX12_tells 0 = .ok (.aload_n 0, 1) := by decide +kernel
theorem dX12_tells_1 : decode cX12_tells 1 = .ok (.iload_n 1, 1) := by decide +kernel
theorem dX12_tells_2 : decode cX12_tells 2 = .ok (.iload_n 2, 1) := by decide +kernel
theorem dX12_tells_3 : decode cX12_tells 3 = .ok (.invokevirtual 378, 3) := by decide +kernel
theorem dX12_tells_6 : decode cX12_tells 6 = .ok (.ifCond .ne 9, 3) := by decide +kernel
theorem dX12_tells_9 : decode cX12_tells 9 = .ok (.aload_n 0, 1) := by decide +kernel
theorem dX12_tells_10 : decode cX12_tells 10 = .ok (.iconst 1, 1) := by decide +kernel
theorem dX12_tells_11 : decode cX12_tells 11 = .ok (.invokevirtual 98, 3) := by decide +kernel
theorem dX12_tells_14 : decode cX12_tells 14 = .ok (.ireturn, 1) := by decide +kernel
theorem dX12_tells_15 : decode cX12_tells 15 = .ok (.aload_n 0, 1) := by decide +kernel
theorem dX12_tells_16 : decode cX12_tells 16 = .ok (.iload_n 1, 1) := by decide +kernel
theorem dX12_tells_17 : decode cX12_tells 17 = .ok (.iload_n 2, 1) := by decide +kernel
theorem dX12_tells_18 : decode cX12_tells 18 = .ok (.invokevirtual 381, 3) := by decide +kernel
theorem dX12_tells_21 : decode cX12_tells 21 = .ok (.istore_n 3, 1) := by decide +kernel
theorem dX12_tells_22 : decode cX12_tells 22 = .ok (.iload_n 3, 1) := by decide +kernel
theorem dX12_tells_23 : decode cX12_tells 23 = .ok (.iconst (-1), 1) := by decide +kernel
theorem dX12_tells_24 : decode cX12_tells 24 = .ok (.if_icmp .ne 10, 3) := by decide +kernel
theorem dX12_tells_27 : decode cX12_tells 27 = .ok (.aload_n 0, 1) := by decide +kernel
theorem dX12_tells_28 : decode cX12_tells 28 = .ok (.bipush 6, 2) := by decide +kernel
theorem dX12_tells_30 : decode cX12_tells 30 = .ok (.invokevirtual 98, 3) := by decide +kernel
theorem dX12_tells_33 : decode cX12_tells 33 = .ok (.ireturn, 1) := by decide +kernel
theorem dX12_tells_34 : decode cX12_tells 34 = .ok (.lconst 0, 1) := by decide +kernel
theorem dX12_tells_35 : decode cX12_tells 35 = .ok (.lstore 4, 2) := by decide +kernel
theorem dX12_tells_37 : decode cX12_tells 37 = .ok (.iconst 0, 1) := by decide +kernel
theorem dX12_tells_38 : decode cX12_tells 38 = .ok (.istore 6, 2) := by decide +kernel
theorem dX12_tells_40 : decode cX12_tells 40 = .ok (.iload 6, 2) := by decide +kernel
theorem dX12_tells_42 : decode cX12_tells 42 = .ok (.aload_n 0, 1) := by decide +kernel
theorem dX12_tells_43 : decode cX12_tells 43 = .ok (.invokevirtual 263, 3) := by decide +kernel
theorem dX12_tells_46 : decode cX12_tells 46 = .ok (.if_icmp .ge 47, 3) := by decide +kernel
theorem dX12_tells_49 : decode cX12_tells 49 = .ok (.aload_n 0, 1) := by decide +kernel
theorem dX12_tells_50 : decode cX12_tells 50 = .ok (.getfield 63, 3) := by decide +kernel
theorem dX12_tells_53 : decode cX12_tells 53 = .ok (.iload 6, 2) := by decide +kernel
theorem dX12_tells_55 : decode cX12_tells 55 = .ok (.iaload, 1) := by decide +kernel
theorem dX12_tells_56 : decode cX12_tells 56 = .ok (.iconst (-1), 1) := by decide +kernel
theorem dX12_tells_57 : decode cX12_tells 57 = .ok (.if_icmp .ne 6, 3) := by decide +kernel
theorem dX12_tells_60 : decode cX12_tells 60 = .ok (.goto 27, 3) := by decide +kernel
theorem dX12_tells_63 : decode cX12_tells 63 = .ok (.lload 4, 2) := by decide +kernel
theorem dX12_tells_65 : decode cX12_tells 65 = .ok (.aload_n 0, 1) := by decide +kernel
theorem dX12_tells_66 : decode cX12_tells 66 = .ok (.iconst 0, 1) := by decide +kernel
theorem dX12_tells_67 : decode cX12_tells 67 = .ok (.iload 6, 2) := by decide +kernel
theorem dX12_tells_69 : decode cX12_tells 69 = .ok (.invokevirtual 308, 3) := by decide +kernel
theorem dX12_tells_72 : decode cX12_tells 72 = .ok (.aload_n 0, 1) := by decide +kernel
theorem dX12_tells_73 : decode cX12_tells 73 = .ok (.iconst 0, 1) := by decide +kernel
theorem dX12_tells_74 : decode cX12_tells 74 = .ok (.iload 6, 2) := by decide +kernel
theorem dX12_tells_76 : decode cX12_tells 76 = .ok (.iload_n 3, 1) := by decide +kernel
theorem dX12_tells_77 : decode cX12_tells 77 = .ok (.ior, 1) := by decide +kernel
theorem dX12_tells_78 : decode cX12_tells 78 = .ok (.invokevirtual 308, 3) := by decide +kernel
theorem dX12_tells_81 : decode cX12_tells 81 = .ok (.lsub, 1) := by decide +kernel
theorem dX12_tells_82 : decode cX12_tells 82 = .ok (.invokestatic 388, 3) := by decide +kernel
theorem dX12_tells_85 : decode cX12_tells 85 = .ok (.lstore 4, 2) := by decide +kernel
theorem dX12_tells_87 : decode cX12_tells 87 = .ok (.iinc 6 1, 3) := by decide +kernel
theorem dX12_tells_90 : decode cX12_tells 90 = .ok (.goto (-50), 3) := by decide +kernel
theorem dX12_tells_93 : decode cX12_tells 93 = .ok (.aload_n 0, 1) := by decide +kernel
theorem dX12_tells_94 : decode cX12_tells 94 = .ok (.aload_n 0, 1) := by decide +kernel
theorem dX12_tells_95 : decode cX12_tells 95 = .ok (.iconst 0, 1) := by decide +kernel
theorem dX12_tells_96 : decode cX12_tells 96 = .ok (.iload_n 3, 1) := by decide +kernel
theorem dX12_tells_97 : decode cX12_tells 97 = .ok (.invokevirtual 308, 3) := by decide +kernel
theorem dX12_tells_100 : decode cX12_tells 100 = .ok (.lload 4, 2) := by decide +kernel
theorem dX12_tells_102 : decode cX12_tells 102 = .ok (.ladd, 1) := by decide +kernel
theorem dX12_tells_103 : decode cX12_tells 103 = .ok (.ldc2_w 300, 3) := by decide +kernel
theorem dX12_tells_106 : decode cX12_tells 106 = .ok (.invokevirtual 312, 3) := by decide +kernel
theorem dX12_tells_109 : decode cX12_tells 109 = .ok (.ireturn, 1) := by decide +kernel
theorem dX12_dredged_0 : decode cX12_dredged 0 = .ok (.aload_n 0, 1) := by decide +kernel
theorem dX12_dredged_1 : decode cX12_dredged 1 = .ok (.iload_n 1, 1) := by decide +kernel
theorem dX12_dredged_2 : decode cX12_dredged 2 = .ok (.iload_n 2, 1) := by decide +kernel
theorem dX12_dredged_3 : decode cX12_dredged 3 = .ok (.invokevirtual 378, 3) := by decide +kernel
theorem dX12_dredged_6 : decode cX12_dredged 6 = .ok (.ifCond .ne 9, 3) := by decide +kernel
theorem dX12_dredged_9 : decode cX12_dredged 9 = .ok (.aload_n 0, 1) := by decide +kernel
theorem dX12_dredged_10 : decode cX12_dredged 10 = .ok (.iconst 1, 1) := by decide +kernel
theorem dX12_dredged_11 : decode cX12_dredged 11 = .ok (.invokevirtual 185, 3) := by decide +kernel
theorem dX12_dredged_14 : decode cX12_dredged 14 = .ok (.ireturn, 1) := by decide +kernel
theorem dX12_dredged_15 : decode cX12_dredged 15 = .ok (.aload_n 0, 1) := by decide +kernel
theorem dX12_dredged_16 : decode cX12_dredged 16 = .ok (.getfield 7, 3) := by decide +kernel
theorem dX12_dredged_19 : decode cX12_dredged 19 = .ok (.iconst 2, 1) := by decide +kernel
theorem dX12_dredged_20 : decode cX12_dredged 20 = .ok (.iaload, 1) := by decide +kernel
theorem dX12_dredged_21 : decode cX12_dredged 21 = .ok (.ifCond .eq 13, 3) := by decide +kernel
theorem dX12_dredged_24 : decode cX12_dredged 24 = .ok (.aload_n 0, 1) := by decide +kernel
theorem dX12_dredged_25 : decode cX12_dredged 25 = .ok (.iload_n 1, 1) := by decide +kernel
theorem dX12_dredged_26 : decode cX12_dredged 26 = .ok (.iload_n 2, 1) := by decide +kernel
theorem dX12_dredged_27 : decode cX12_dredged 27 = .ok (.invokevirtual 381, 3) := by decide +kernel
theorem dX12_dredged_30 : decode cX12_dredged 30 = .ok (.iconst (-1), 1) := by decide +kernel
theorem dX12_dredged_31 : decode cX12_dredged 31 = .ok (.if_icmp .ne 10, 3) := by decide +kernel
theorem dX12_dredged_34 : decode cX12_dredged 34 = .ok (.aload_n 0, 1) := by decide +kernel
theorem dX12_dredged_35 : decode cX12_dredged 35 = .ok (.bipush 6, 2) := by decide +kernel
theorem dX12_dredged_37 : decode cX12_dredged 37 = .ok (.invokevirtual 185, 3) := by decide +kernel
theorem dX12_dredged_40 : decode cX12_dredged 40 = .ok (.ireturn, 1) := by decide +kernel
theorem dX12_dredged_41 : decode cX12_dredged 41 = .ok (.iconst (-1), 1) := by decide +kernel
theorem dX12_dredged_42 : decode cX12_dredged 42 = .ok (.istore_n 3, 1) := by decide +kernel
theorem dX12_dredged_43 : decode cX12_dredged 43 = .ok (.lconst 0, 1) := by decide +kernel
theorem dX12_dredged_44 : decode cX12_dredged 44 = .ok (.lstore 4, 2) := by decide +kernel
theorem dX12_dredged_46 : decode cX12_dredged 46 = .ok (.iconst 0, 1) := by decide +kernel
theorem dX12_dredged_47 : decode cX12_dredged 47 = .ok (.istore 6, 2) := by decide +kernel
theorem dX12_dredged_49 : decode cX12_dredged 49 = .ok (.iload 6, 2) := by decide +kernel
theorem dX12_dredged_51 : decode cX12_dredged 51 = .ok (.aload_n 0, 1) := by decide +kernel
theorem dX12_dredged_52 : decode cX12_dredged 52 = .ok (.getfield 7, 3) := by decide +kernel
theorem dX12_dredged_55 : decode cX12_dredged 55 = .ok (.iconst 2, 1) := by decide +kernel
theorem dX12_dredged_56 : decode cX12_dredged 56 = .ok (.iaload, 1) := by decide +kernel
theorem dX12_dredged_57 : decode cX12_dredged 57 = .ok (.if_icmp .ge 85, 3) := by decide +kernel
theorem dX12_dredged_60 : decode cX12_dredged 60 = .ok (.lconst 0, 1) := by decide +kernel
theorem dX12_dredged_61 : decode cX12_dredged 61 = .ok (.lstore 7, 2) := by decide +kernel
theorem dX12_dredged_63 : decode cX12_dredged 63 = .ok (.iconst 0, 1) := by decide +kernel
theorem dX12_dredged_64 : decode cX12_dredged 64 = .ok (.istore 9, 2) := by decide +kernel
theorem dX12_dredged_66 : decode cX12_dredged 66 = .ok (.iload 9, 2) := by decide +kernel
theorem dX12_dredged_68 : decode cX12_dredged 68 = .ok (.aload_n 0, 1) := by decide +kernel
theorem dX12_dredged_69 : decode cX12_dredged 69 = .ok (.invokevirtual 263, 3) := by decide +kernel
theorem dX12_dredged_72 : decode cX12_dredged 72 = .ok (.if_icmp .ge 41, 3) := by decide +kernel
theorem dX12_dredged_75 : decode cX12_dredged 75 = .ok (.aload_n 0, 1) := by decide +kernel
theorem dX12_dredged_76 : decode cX12_dredged 76 = .ok (.getfield 63, 3) := by decide +kernel
theorem dX12_dredged_79 : decode cX12_dredged 79 = .ok (.iload 9, 2) := by decide +kernel
theorem dX12_dredged_81 : decode cX12_dredged 81 = .ok (.iaload, 1) := by decide +kernel
theorem dX12_dredged_82 : decode cX12_dredged 82 = .ok (.iconst (-1), 1) := by decide +kernel
theorem dX12_dredged_83 : decode cX12_dredged 83 = .ok (.if_icmp .eq 24, 3) := by decide +kernel
theorem dX12_dredged_86 : decode cX12_dredged 86 = .ok (.lload 7, 2) := by decide +kernel
theorem dX12_dredged_88 : decode cX12_dredged 88 = .ok (.aload_n 0, 1) := by decide +kernel
theorem dX12_dredged_89 : decode cX12_dredged 89 = .ok (.iconst 0, 1) := by decide +kernel
theorem dX12_dredged_90 : decode cX12_dredged 90 = .ok (.iload 9, 2) := by decide +kernel
theorem dX12_dredged_92 : decode cX12_dredged 92 = .ok (.iconst 1, 1) := by decide +kernel
theorem dX12_dredged_93 : decode cX12_dredged 93 = .ok (.iload 6, 2) := by decide +kernel
theorem dX12_dredged_95 : decode cX12_dredged 95 = .ok (.ishl, 1) := by decide +kernel
theorem dX12_dredged_96 : decode cX12_dredged 96 = .ok (.iconst (-1), 1) := by decide +kernel
theorem dX12_dredged_97 : decode cX12_dredged 97 = .ok (.ixor, 1) := by decide +kernel
theorem dX12_dredged_98 : decode cX12_dredged 98 = .ok (.iand, 1) := by decide +kernel
theorem dX12_dredged_99 : decode cX12_dredged 99 = .ok (.invokevirtual 308, 3) := by decide +kernel
theorem dX12_dredged_102 : decode cX12_dredged 102 = .ok (.invokestatic 388, 3) := by decide +kernel
theorem dX12_dredged_105 : decode cX12_dredged 105 = .ok (.lstore 7, 2) := by decide +kernel
theorem dX12_dredged_107 : decode cX12_dredged 107 = .ok (.iinc 9 1, 3) := by decide +kernel
theorem dX12_dredged_110 : decode cX12_dredged 110 = .ok (.goto (-44), 3) := by decide +kernel
theorem dX12_dredged_113 : decode cX12_dredged 113 = .ok (.iload_n 3, 1) := by decide +kernel
theorem dX12_dredged_114 : decode cX12_dredged 114 = .ok (.iconst (-1), 1) := by decide +kernel
theorem dX12_dredged_115 : decode cX12_dredged 115 = .ok (.if_icmp .eq 14, 3) := by decide +kernel
theorem dX12_dredged_118 : decode cX12_dredged 118 = .ok (.lload 7, 2) := by decide +kernel
theorem dX12_dredged_120 : decode cX12_dredged 120 = .ok (.lload 4, 2) := by decide +kernel
theorem dX12_dredged_122 : decode cX12_dredged 122 = .ok (.lcmp, 1) := by decide +kernel
theorem dX12_dredged_123 : decode cX12_dredged 123 = .ok (.ifCond .gt 6, 3) := by decide +kernel
theorem dX12_dredged_126 : decode cX12_dredged 126 = .ok (.goto 10, 3) := by decide +kernel
theorem dX12_dredged_129 : decode cX12_dredged 129 = .ok (.iload 6, 2) := by decide +kernel
theorem dX12_dredged_131 : decode cX12_dredged 131 = .ok (.istore_n 3, 1) := by decide +kernel
theorem dX12_dredged_132 : decode cX12_dredged 132 = .ok (.lload 7, 2) := by decide +kernel
theorem dX12_dredged_134 : decode cX12_dredged 134 = .ok (.lstore 4, 2) := by decide +kernel
theorem dX12_dredged_136 : decode cX12_dredged 136 = .ok (.iinc 6 1, 3) := by decide +kernel
theorem dX12_dredged_139 : decode cX12_dredged 139 = .ok (.goto (-90), 3) := by decide +kernel
theorem dX12_dredged_142 : decode cX12_dredged 142 = .ok (.aload_n 0, 1) := by decide +kernel
theorem dX12_dredged_143 : decode cX12_dredged 143 = .ok (.lload 4, 2) := by decide +kernel
theorem dX12_dredged_145 : decode cX12_dredged 145 = .ok (.ldc2_w 300, 3) := by decide +kernel
theorem dX12_dredged_148 : decode cX12_dredged 148 = .ok (.invokevirtual 312, 3) := by decide +kernel
theorem dX12_dredged_151 : decode cX12_dredged 151 = .ok (.pop, 1) := by decide +kernel
theorem dX12_dredged_152 : decode cX12_dredged 152 = .ok (.aload_n 0, 1) := by decide +kernel
theorem dX12_dredged_153 : decode cX12_dredged 153 = .ok (.iload_n 3, 1) := by decide +kernel
theorem dX12_dredged_154 : decode cX12_dredged 154 = .ok (.invokevirtual 188, 3) := by decide +kernel
theorem dX12_dredged_157 : decode cX12_dredged 157 = .ok (.ireturn, 1) := by decide +kernel
theorem dX12_brush_0 : decode cX12_brush 0 = .ok (.aload_n 0, 1) := by decide +kernel
theorem dX12_brush_1 : decode cX12_brush 1 = .ok (.iload_n 1, 1) := by decide +kernel
theorem dX12_brush_2 : decode cX12_brush 2 = .ok (.iload_n 2, 1) := by decide +kernel
theorem dX12_brush_3 : decode cX12_brush 3 = .ok (.invokevirtual 378, 3) := by decide +kernel
theorem dX12_brush_6 : decode cX12_brush 6 = .ok (.ifCond .eq 37, 3) := by decide +kernel
theorem dX12_brush_9 : decode cX12_brush 9 = .ok (.aload_n 0, 1) := by decide +kernel
theorem dX12_brush_10 : decode cX12_brush 10 = .ok (.iload_n 3, 1) := by decide +kernel
theorem dX12_brush_11 : decode cX12_brush 11 = .ok (.invokevirtual 266, 3) := by decide +kernel
theorem dX12_brush_14 : decode cX12_brush 14 = .ok (.ifCond .eq 29, 3) := by decide +kernel
theorem dX12_brush_17 : decode cX12_brush 17 = .ok (.iload 4, 2) := by decide +kernel
theorem dX12_brush_19 : decode cX12_brush 19 = .ok (.i2l, 1) := by decide +kernel
theorem dX12_brush_20 : decode cX12_brush 20 = .ok (.lconst 0, 1) := by decide +kernel
theorem dX12_brush_21 : decode cX12_brush 21 = .ok (.ldc2_w 453, 3) := by decide +kernel
theorem dX12_brush_24 : decode cX12_brush 24 = .ok (.invokestatic 281, 3) := by decide +kernel
theorem dX12_brush_27 : decode cX12_brush 27 = .ok (.ifCond .eq 16, 3) := by decide +kernel
theorem dX12_brush_30 : decode cX12_brush 30 = .ok (.iload 5, 2) := by decide +kernel
theorem dX12_brush_32 : decode cX12_brush 32 = .ok (.i2l, 1) := by decide +kernel
theorem dX12_brush_33 : decode cX12_brush 33 = .ok (.lconst 1, 1) := by decide +kernel
theorem dX12_brush_34 : decode cX12_brush 34 = .ok (.ldc2_w 316, 3) := by decide +kernel
theorem dX12_brush_37 : decode cX12_brush 37 = .ok (.invokestatic 281, 3) := by decide +kernel
theorem dX12_brush_40 : decode cX12_brush 40 = .ok (.ifCond .ne 9, 3) := by decide +kernel
theorem dX12_brush_43 : decode cX12_brush 43 = .ok (.aload_n 0, 1) := by decide +kernel
theorem dX12_brush_44 : decode cX12_brush 44 = .ok (.iconst 1, 1) := by decide +kernel
theorem dX12_brush_45 : decode cX12_brush 45 = .ok (.invokevirtual 98, 3) := by decide +kernel
theorem dX12_brush_48 : decode cX12_brush 48 = .ok (.ireturn, 1) := by decide +kernel
theorem dX12_brush_49 : decode cX12_brush 49 = .ok (.aload_n 0, 1) := by decide +kernel
theorem dX12_brush_50 : decode cX12_brush 50 = .ok (.getfield 7, 3) := by decide +kernel
theorem dX12_brush_53 : decode cX12_brush 53 = .ok (.iconst 3, 1) := by decide +kernel
theorem dX12_brush_54 : decode cX12_brush 54 = .ok (.iaload, 1) := by decide +kernel
theorem dX12_brush_55 : decode cX12_brush 55 = .ok (.iload 5, 2) := by decide +kernel
theorem dX12_brush_57 : decode cX12_brush 57 = .ok (.iadd, 1) := by decide +kernel
theorem dX12_brush_58 : decode cX12_brush 58 = .ok (.bipush 99, 2) := by decide +kernel
theorem dX12_brush_60 : decode cX12_brush 60 = .ok (.if_icmp .le 9, 3) := by decide +kernel
theorem dX12_brush_63 : decode cX12_brush 63 = .ok (.aload_n 0, 1) := by decide +kernel
theorem dX12_brush_64 : decode cX12_brush 64 = .ok (.iconst 4, 1) := by decide +kernel
theorem dX12_brush_65 : decode cX12_brush 65 = .ok (.invokevirtual 98, 3) := by decide +kernel
theorem dX12_brush_68 : decode cX12_brush 68 = .ok (.ireturn, 1) := by decide +kernel
theorem dX12_brush_69 : decode cX12_brush 69 = .ok (.aload_n 0, 1) := by decide +kernel
theorem dX12_brush_70 : decode cX12_brush 70 = .ok (.invokevirtual 441, 3) := by decide +kernel
theorem dX12_brush_73 : decode cX12_brush 73 = .ok (.iconst 0, 1) := by decide +kernel
theorem dX12_brush_74 : decode cX12_brush 74 = .ok (.istore 6, 2) := by decide +kernel
theorem dX12_brush_76 : decode cX12_brush 76 = .ok (.iload 6, 2) := by decide +kernel
theorem dX12_brush_78 : decode cX12_brush 78 = .ok (.iload 5, 2) := by decide +kernel
theorem dX12_brush_80 : decode cX12_brush 80 = .ok (.if_icmp .ge 16, 3) := by decide +kernel
theorem dX12_brush_83 : decode cX12_brush 83 = .ok (.aload_n 0, 1) := by decide +kernel
theorem dX12_brush_84 : decode cX12_brush 84 = .ok (.iload_n 3, 1) := by decide +kernel
theorem dX12_brush_85 : decode cX12_brush 85 = .ok (.iload 4, 2) := by decide +kernel
theorem dX12_brush_87 : decode cX12_brush 87 = .ok (.invokevirtual 318, 3) := by decide +kernel
theorem dX12_brush_90 : decode cX12_brush 90 = .ok (.iinc 6 1, 3) := by decide +kernel
theorem dX12_brush_93 : decode cX12_brush 93 = .ok (.goto (-17), 3) := by decide +kernel
theorem dX12_brush_96 : decode cX12_brush 96 = .ok (.aload_n 0, 1) := by decide +kernel
theorem dX12_brush_97 : decode cX12_brush 97 = .ok (.iload_n 1, 1) := by decide +kernel
theorem dX12_brush_98 : decode cX12_brush 98 = .ok (.iload_n 2, 1) := by decide +kernel
theorem dX12_brush_99 : decode cX12_brush 99 = .ok (.invokevirtual 381, 3) := by decide +kernel
theorem dX12_brush_102 : decode cX12_brush 102 = .ok (.istore 6, 2) := by decide +kernel
theorem dX12_brush_104 : decode cX12_brush 104 = .ok (.iload 6, 2) := by decide +kernel
theorem dX12_brush_106 : decode cX12_brush 106 = .ok (.iconst (-1), 1) := by decide +kernel
theorem dX12_brush_107 : decode cX12_brush 107 = .ok (.if_icmp .ne 7, 3) := by decide +kernel
theorem dX12_brush_110 : decode cX12_brush 110 = .ok (.lconst 0, 1) := by decide +kernel
theorem dX12_brush_111 : decode cX12_brush 111 = .ok (.goto 10, 3) := by decide +kernel
theorem dX12_brush_114 : decode cX12_brush 114 = .ok (.aload_n 0, 1) := by decide +kernel
theorem dX12_brush_115 : decode cX12_brush 115 = .ok (.iconst 0, 1) := by decide +kernel
theorem dX12_brush_116 : decode cX12_brush 116 = .ok (.iload 6, 2) := by decide +kernel
theorem dX12_brush_118 : decode cX12_brush 118 = .ok (.invokevirtual 308, 3) := by decide +kernel
theorem dX12_brush_121 : decode cX12_brush 121 = .ok (.lstore 7, 2) := by decide +kernel
theorem dX12_brush_123 : decode cX12_brush 123 = .ok (.aload_n 0, 1) := by decide +kernel
theorem dX12_brush_124 : decode cX12_brush 124 = .ok (.invokevirtual 444, 3) := by decide +kernel
theorem dX12_brush_127 : decode cX12_brush 127 = .ok (.iload 6, 2) := by decide +kernel
theorem dX12_brush_129 : decode cX12_brush 129 = .ok (.iconst (-1), 1) := by decide +kernel
theorem dX12_brush_130 : decode cX12_brush 130 = .ok (.if_icmp .ne 12, 3) := by decide +kernel
theorem dX12_brush_133 : decode cX12_brush 133 = .ok (.aload_n 0, 1) := by decide +kernel
theorem dX12_brush_134 : decode cX12_brush 134 = .ok (.bipush 6, 2) := by decide +kernel
theorem dX12_brush_136 : decode cX12_brush 136 = .ok (.invokevirtual 98, 3) := by decide +kernel
theorem dX12_brush_139 : decode cX12_brush 139 = .ok (.goto 12, 3) := by decide +kernel
theorem dX12_brush_142 : decode cX12_brush 142 = .ok (.aload_n 0, 1) := by decide +kernel
theorem dX12_brush_143 : decode cX12_brush 143 = .ok (.lload 7, 2) := by decide +kernel
theorem dX12_brush_145 : decode cX12_brush 145 = .ok (.ldc2_w 300, 3) := by decide +kernel
theorem dX12_brush_148 : decode cX12_brush 148 = .ok (.invokevirtual 312, 3) := by decide +kernel
theorem dX12_brush_151 : decode cX12_brush 151 = .ok (.ireturn, 1) := by decide +kernel
theorem dX12_lighten_0 : decode cX12_lighten 0 = .ok (.aload_n 0, 1) := by decide +kernel
theorem dX12_lighten_1 : decode cX12_lighten 1 = .ok (.iload_n 1, 1) := by decide +kernel
theorem dX12_lighten_2 : decode cX12_lighten 2 = .ok (.iload_n 2, 1) := by decide +kernel
theorem dX12_lighten_3 : decode cX12_lighten 3 = .ok (.invokevirtual 378, 3) := by decide +kernel
theorem dX12_lighten_6 : decode cX12_lighten 6 = .ok (.ifCond .eq 15, 3) := by decide +kernel
theorem dX12_lighten_9 : decode cX12_lighten 9 = .ok (.iload_n 3, 1) := by decide +kernel
theorem dX12_lighten_10 : decode cX12_lighten 10 = .ok (.i2l, 1) := by decide +kernel
theorem dX12_lighten_11 : decode cX12_lighten 11 = .ok (.lconst 1, 1) := by decide +kernel
theorem dX12_lighten_12 : decode cX12_lighten 12 = .ok (.ldc2_w 453, 3) := by decide +kernel
theorem dX12_lighten_15 : decode cX12_lighten 15 = .ok (.invokestatic 281, 3) := by decide +kernel
theorem dX12_lighten_18 : decode cX12_lighten 18 = .ok (.ifCond .ne 9, 3) := by decide +kernel
theorem dX12_lighten_21 : decode cX12_lighten 21 = .ok (.aload_n 0, 1) := by decide +kernel
theorem dX12_lighten_22 : decode cX12_lighten 22 = .ok (.iconst 1, 1) := by decide +kernel
theorem dX12_lighten_23 : decode cX12_lighten 23 = .ok (.invokevirtual 185, 3) := by decide +kernel
theorem dX12_lighten_26 : decode cX12_lighten 26 = .ok (.ireturn, 1) := by decide +kernel
theorem dX12_lighten_27 : decode cX12_lighten 27 = .ok (.aload_n 0, 1) := by decide +kernel
theorem dX12_lighten_28 : decode cX12_lighten 28 = .ok (.getfield 7, 3) := by decide +kernel
theorem dX12_lighten_31 : decode cX12_lighten 31 = .ok (.iconst 4, 1) := by decide +kernel
theorem dX12_lighten_32 : decode cX12_lighten 32 = .ok (.iaload, 1) := by decide +kernel
theorem dX12_lighten_33 : decode cX12_lighten 33 = .ok (.istore 4, 2) := by decide +kernel
theorem dX12_lighten_35 : decode cX12_lighten 35 = .ok (.iconst (-1), 1) := by decide +kernel
theorem dX12_lighten_36 : decode cX12_lighten 36 = .ok (.istore 5, 2) := by decide +kernel
theorem dX12_lighten_38 : decode cX12_lighten 38 = .ok (.iconst 0, 1) := by decide +kernel
theorem dX12_lighten_39 : decode cX12_lighten 39 = .ok (.istore 6, 2) := by decide +kernel
theorem dX12_lighten_41 : decode cX12_lighten 41 = .ok (.iload 6, 2) := by decide +kernel
theorem dX12_lighten_43 : decode cX12_lighten 43 = .ok (.aload_n 0, 1) := by decide +kernel
theorem dX12_lighten_44 : decode cX12_lighten 44 = .ok (.getfield 7, 3) := by decide +kernel
theorem dX12_lighten_47 : decode cX12_lighten 47 = .ok (.bipush 6, 2) := by decide +kernel
theorem dX12_lighten_49 : decode cX12_lighten 49 = .ok (.iaload, 1) := by decide +kernel
theorem dX12_lighten_50 : decode cX12_lighten 50 = .ok (.if_icmp .gt 62, 3) := by decide +kernel
theorem dX12_lighten_53 : decode cX12_lighten 53 = .ok (.iload 5, 2) := by decide +kernel
theorem dX12_lighten_55 : decode cX12_lighten 55 = .ok (.iconst (-1), 1) := by decide +kernel
theorem dX12_lighten_56 : decode cX12_lighten 56 = .ok (.if_icmp .ne 56, 3) := by decide +kernel
theorem dX12_lighten_59 : decode cX12_lighten 59 = .ok (.aload_n 0, 1) := by decide +kernel
theorem dX12_lighten_60 : decode cX12_lighten 60 = .ok (.getfield 7, 3) := by decide +kernel
theorem dX12_lighten_63 : decode cX12_lighten 63 = .ok (.iconst 4, 1) := by decide +kernel
theorem dX12_lighten_64 : decode cX12_lighten 64 = .ok (.iload 6, 2) := by decide +kernel
theorem dX12_lighten_66 : decode cX12_lighten 66 = .ok (.iastore, 1) := by decide +kernel
theorem dX12_lighten_67 : decode cX12_lighten 67 = .ok (.aload_n 0, 1) := by decide +kernel
theorem dX12_lighten_68 : decode cX12_lighten 68 = .ok (.iload_n 1, 1) := by decide +kernel
theorem dX12_lighten_69 : decode cX12_lighten 69 = .ok (.iload_n 2, 1) := by decide +kernel
theorem dX12_lighten_70 : decode cX12_lighten 70 = .ok (.invokevirtual 381, 3) := by decide +kernel
theorem dX12_lighten_73 : decode cX12_lighten 73 = .ok (.istore 7, 2) := by decide +kernel
theorem dX12_lighten_75 : decode cX12_lighten 75 = .ok (.iload 7, 2) := by decide +kernel
theorem dX12_lighten_77 : decode cX12_lighten 77 = .ok (.iconst (-1), 1) := by decide +kernel
theorem dX12_lighten_78 : decode cX12_lighten 78 = .ok (.if_icmp .eq 28, 3) := by decide +kernel
theorem dX12_lighten_81 : decode cX12_lighten 81 = .ok (.ldc2_w 453, 3) := by decide +kernel
theorem dX12_lighten_84 : decode cX12_lighten 84 = .ok (.aload_n 0, 1) := by decide +kernel
theorem dX12_lighten_85 : decode cX12_lighten 85 = .ok (.iconst 0, 1) := by decide +kernel
theorem dX12_lighten_86 : decode cX12_lighten 86 = .ok (.iload 7, 2) := by decide +kernel
theorem dX12_lighten_88 : decode cX12_lighten 88 = .ok (.invokevirtual 308, 3) := by decide +kernel
theorem dX12_lighten_91 : decode cX12_lighten 91 = .ok (.lmul, 1) := by decide +kernel
theorem dX12_lighten_92 : decode cX12_lighten 92 = .ok (.iload_n 3, 1) := by decide +kernel
theorem dX12_lighten_93 : decode cX12_lighten 93 = .ok (.i2l, 1) := by decide +kernel
theorem dX12_lighten_94 : decode cX12_lighten 94 = .ok (.ldc2_w 300, 3) := by decide +kernel
theorem dX12_lighten_97 : decode cX12_lighten 97 = .ok (.lmul, 1) := by decide +kernel
theorem dX12_lighten_98 : decode cX12_lighten 98 = .ok (.lcmp, 1) := by decide +kernel
theorem dX12_lighten_99 : decode cX12_lighten 99 = .ok (.ifCond .lt 7, 3) := by decide +kernel
theorem dX12_lighten_102 : decode cX12_lighten 102 = .ok (.iload 6, 2) := by decide +kernel
theorem dX12_lighten_104 : decode cX12_lighten 104 = .ok (.istore 5, 2) := by decide +kernel
theorem dX12_lighten_106 : decode cX12_lighten 106 = .ok (.iinc 6 1, 3) := by decide +kernel
theorem dX12_lighten_109 : decode cX12_lighten 109 = .ok (.goto (-68), 3) := by decide +kernel
theorem dX12_lighten_112 : decode cX12_lighten 112 = .ok (.aload_n 0, 1) := by decide +kernel
theorem dX12_lighten_113 : decode cX12_lighten 113 = .ok (.getfield 7, 3) := by decide +kernel
theorem dX12_lighten_116 : decode cX12_lighten 116 = .ok (.iconst 4, 1) := by decide +kernel
theorem dX12_lighten_117 : decode cX12_lighten 117 = .ok (.iload 4, 2) := by decide +kernel
theorem dX12_lighten_119 : decode cX12_lighten 119 = .ok (.iastore, 1) := by decide +kernel
theorem dX12_lighten_120 : decode cX12_lighten 120 = .ok (.iload 5, 2) := by decide +kernel
theorem dX12_lighten_122 : decode cX12_lighten 122 = .ok (.iconst (-1), 1) := by decide +kernel
theorem dX12_lighten_123 : decode cX12_lighten 123 = .ok (.if_icmp .ne 12, 3) := by decide +kernel
theorem dX12_lighten_126 : decode cX12_lighten 126 = .ok (.aload_n 0, 1) := by decide +kernel
theorem dX12_lighten_127 : decode cX12_lighten 127 = .ok (.bipush 6, 2) := by decide +kernel
theorem dX12_lighten_129 : decode cX12_lighten 129 = .ok (.invokevirtual 185, 3) := by decide +kernel
theorem dX12_lighten_132 : decode cX12_lighten 132 = .ok (.goto 9, 3) := by decide +kernel
theorem dX12_lighten_135 : decode cX12_lighten 135 = .ok (.aload_n 0, 1) := by decide +kernel
theorem dX12_lighten_136 : decode cX12_lighten 136 = .ok (.iload 5, 2) := by decide +kernel
theorem dX12_lighten_138 : decode cX12_lighten 138 = .ok (.invokevirtual 188, 3) := by decide +kernel
theorem dX12_lighten_141 : decode cX12_lighten 141 = .ok (.ireturn, 1) := by decide +kernel
theorem dX12_draw_0 : decode cX12_draw 0 = .ok (.aload_n 0, 1) := by decide +kernel
theorem dX12_draw_1 : decode cX12_draw 1 = .ok (.aload_n 0, 1) := by decide +kernel
theorem dX12_draw_2 : decode cX12_draw 2 = .ok (.getfield 455, 3) := by decide +kernel
theorem dX12_draw_5 : decode cX12_draw 5 = .ok (.sipush 3541, 3) := by decide +kernel
theorem dX12_draw_8 : decode cX12_draw 8 = .ok (.imul, 1) := by decide +kernel
theorem dX12_draw_9 : decode cX12_draw 9 = .ok (.sipush 8713, 3) := by decide +kernel
theorem dX12_draw_12 : decode cX12_draw 12 = .ok (.iadd, 1) := by decide +kernel
theorem dX12_draw_13 : decode cX12_draw 13 = .ok (.ldc_w 458, 3) := by decide +kernel
theorem dX12_draw_16 : decode cX12_draw 16 = .ok (.irem, 1) := by decide +kernel
theorem dX12_draw_17 : decode cX12_draw 17 = .ok (.putfield 455, 3) := by decide +kernel
theorem dX12_draw_20 : decode cX12_draw 20 = .ok (.aload_n 0, 1) := by decide +kernel
theorem dX12_draw_21 : decode cX12_draw 21 = .ok (.getfield 455, 3) := by decide +kernel
theorem dX12_draw_24 : decode cX12_draw 24 = .ok (.bipush 8, 2) := by decide +kernel
theorem dX12_draw_26 : decode cX12_draw 26 = .ok (.idiv, 1) := by decide +kernel
theorem dX12_draw_27 : decode cX12_draw 27 = .ok (.iload_n 1, 1) := by decide +kernel
theorem dX12_draw_28 : decode cX12_draw 28 = .ok (.irem, 1) := by decide +kernel
theorem dX12_draw_29 : decode cX12_draw 29 = .ok (.ireturn, 1) := by decide +kernel
theorem dX12_drawTruth_0 : decode cX12_drawTruth 0 = .ok (.aload_n 0, 1) := by decide +kernel
theorem dX12_drawTruth_1 : decode cX12_drawTruth 1 = .ok (.sipush 1000, 3) := by decide +kernel
theorem dX12_drawTruth_4 : decode cX12_drawTruth 4 = .ok (.invokevirtual 459, 3) := by decide +kernel
theorem dX12_drawTruth_7 : decode cX12_drawTruth 7 = .ok (.istore_n 1, 1) := by decide +kernel
theorem dX12_drawTruth_8 : decode cX12_drawTruth 8 = .ok (.lconst 0, 1) := by decide +kernel
theorem dX12_drawTruth_9 : decode cX12_drawTruth 9 = .ok (.lstore_n 2, 1) := by decide +kernel
theorem dX12_drawTruth_10 : decode cX12_drawTruth 10 = .ok (.aload_n 0, 1) := by decide +kernel
theorem dX12_drawTruth_11 : decode cX12_drawTruth 11 = .ok (.iconst 0, 1) := by decide +kernel
theorem dX12_drawTruth_12 : decode cX12_drawTruth 12 = .ok (.putfield 462, 3) := by decide +kernel
theorem dX12_drawTruth_15 : decode cX12_drawTruth 15 = .ok (.iconst 0, 1) := by decide +kernel
theorem dX12_drawTruth_16 : decode cX12_drawTruth 16 = .ok (.istore 4, 2) := by decide +kernel
theorem dX12_drawTruth_18 : decode cX12_drawTruth 18 = .ok (.iload 4, 2) := by decide +kernel
theorem dX12_drawTruth_20 : decode cX12_drawTruth 20 = .ok (.aload_n 0, 1) := by decide +kernel
theorem dX12_drawTruth_21 : decode cX12_drawTruth 21 = .ok (.invokevirtual 263, 3) := by decide +kernel
theorem dX12_drawTruth_24 : decode cX12_drawTruth 24 = .ok (.if_icmp .ge 42, 3) := by decide +kernel
theorem dX12_drawTruth_27 : decode cX12_drawTruth 27 = .ok (.lload_n 2, 1) := by decide +kernel
theorem dX12_drawTruth_28 : decode cX12_drawTruth 28 = .ok (.aload_n 0, 1) := by decide +kernel
theorem dX12_drawTruth_29 : decode cX12_drawTruth 29 = .ok (.getfield 7, 3) := by decide +kernel
theorem dX12_drawTruth_32 : decode cX12_drawTruth 32 = .ok (.sipush 168, 3) := by decide +kernel
theorem dX12_drawTruth_35 : decode cX12_drawTruth 35 = .ok (.iload 4, 2) := by decide +kernel
theorem dX12_drawTruth_37 : decode cX12_drawTruth 37 = .ok (.iadd, 1) := by decide +kernel
theorem dX12_drawTruth_38 : decode cX12_drawTruth 38 = .ok (.iaload, 1) := by decide +kernel
theorem dX12_drawTruth_39 : decode cX12_drawTruth 39 = .ok (.i2l, 1) := by decide +kernel
theorem dX12_drawTruth_40 : decode cX12_drawTruth 40 = .ok (.ladd, 1) := by decide +kernel
theorem dX12_drawTruth_41 : decode cX12_drawTruth 41 = .ok (.lstore_n 2, 1) := by decide +kernel
theorem dX12_drawTruth_42 : decode cX12_drawTruth 42 = .ok (.aload_n 0, 1) := by decide +kernel
theorem dX12_drawTruth_43 : decode cX12_drawTruth 43 = .ok (.iload 4, 2) := by decide +kernel
theorem dX12_drawTruth_45 : decode cX12_drawTruth 45 = .ok (.putfield 462, 3) := by decide +kernel
theorem dX12_drawTruth_48 : decode cX12_drawTruth 48 = .ok (.lload_n 2, 1) := by decide +kernel
theorem dX12_drawTruth_49 : decode cX12_drawTruth 49 = .ok (.ldc2_w 465, 3) := by decide +kernel
theorem dX12_drawTruth_52 : decode cX12_drawTruth 52 = .ok (.ldiv, 1) := by decide +kernel
theorem dX12_drawTruth_53 : decode cX12_drawTruth 53 = .ok (.iload_n 1, 1) := by decide +kernel
theorem dX12_drawTruth_54 : decode cX12_drawTruth 54 = .ok (.i2l, 1) := by decide +kernel
theorem dX12_drawTruth_55 : decode cX12_drawTruth 55 = .ok (.lcmp, 1) := by decide +kernel
theorem dX12_drawTruth_56 : decode cX12_drawTruth 56 = .ok (.ifCond .le 4, 3) := by decide +kernel
theorem dX12_drawTruth_59 : decode cX12_drawTruth 59 = .ok (.return_, 1) := by decide +kernel
theorem dX12_drawTruth_60 : decode cX12_drawTruth 60 = .ok (.iinc 4 1, 3) := by decide +kernel
theorem dX12_drawTruth_63 : decode cX12_drawTruth 63 = .ok (.goto (-45), 3) := by decide +kernel
theorem dX12_drawTruth_66 : decode cX12_drawTruth 66 = .ok (.return_, 1) := by decide +kernel
theorem dX12_soundsAt_0 : decode cX12_soundsAt 0 = .ok (.aload_n 0, 1) := by decide +kernel
theorem dX12_soundsAt_1 : decode cX12_soundsAt 1 = .ok (.dup, 1) := by decide +kernel
theorem dX12_soundsAt_2 : decode cX12_soundsAt 2 = .ok (.getfield 467, 3) := by decide +kernel
theorem dX12_soundsAt_5 : decode cX12_soundsAt 5 = .ok (.bipush 30, 2) := by decide +kernel
theorem dX12_soundsAt_7 : decode cX12_soundsAt 7 = .ok (.iadd, 1) := by decide +kernel
theorem dX12_soundsAt_8 : decode cX12_soundsAt 8 = .ok (.putfield 467, 3) := by decide +kernel
theorem dX12_soundsAt_11 : decode cX12_soundsAt 11 = .ok (.aload_n 0, 1) := by decide +kernel
theorem dX12_soundsAt_12 : decode cX12_soundsAt 12 = .ok (.dup, 1) := by decide +kernel
theorem dX12_soundsAt_13 : decode cX12_soundsAt 13 = .ok (.getfield 470, 3) := by decide +kernel
theorem dX12_soundsAt_16 : decode cX12_soundsAt 16 = .ok (.iconst 1, 1) := by decide +kernel
theorem dX12_soundsAt_17 : decode cX12_soundsAt 17 = .ok (.iadd, 1) := by decide +kernel
theorem dX12_soundsAt_18 : decode cX12_soundsAt 18 = .ok (.putfield 470, 3) := by decide +kernel
theorem dX12_soundsAt_21 : decode cX12_soundsAt 21 = .ok (.aload_n 0, 1) := by decide +kernel
theorem dX12_soundsAt_22 : decode cX12_soundsAt 22 = .ok (.bipush 32, 2) := by decide +kernel
theorem dX12_soundsAt_24 : decode cX12_soundsAt 24 = .ok (.invokevirtual 459, 3) := by decide +kernel
theorem dX12_soundsAt_27 : decode cX12_soundsAt 27 = .ok (.istore_n 2, 1) := by decide +kernel
theorem dX12_soundsAt_28 : decode cX12_soundsAt 28 = .ok (.aload_n 0, 1) := by decide +kernel
theorem dX12_soundsAt_29 : decode cX12_soundsAt 29 = .ok (.iload_n 1, 1) := by decide +kernel
theorem dX12_soundsAt_30 : decode cX12_soundsAt 30 = .ok (.aload_n 0, 1) := by decide +kernel
theorem dX12_soundsAt_31 : decode cX12_soundsAt 31 = .ok (.getfield 462, 3) := by decide +kernel
theorem dX12_soundsAt_34 : decode cX12_soundsAt 34 = .ok (.invokevirtual 291, 3) := by decide +kernel
theorem dX12_soundsAt_37 : decode cX12_soundsAt 37 = .ok (.istore_n 3, 1) := by decide +kernel
theorem dX12_soundsAt_38 : decode cX12_soundsAt 38 = .ok (.aload_n 0, 1) := by decide +kernel
theorem dX12_soundsAt_39 : decode cX12_soundsAt 39 = .ok (.iload_n 1, 1) := by decide +kernel
theorem dX12_soundsAt_40 : decode cX12_soundsAt 40 = .ok (.iload_n 2, 1) := by decide +kernel
theorem dX12_soundsAt_41 : decode cX12_soundsAt 41 = .ok (.iconst 2, 1) := by decide +kernel
theorem dX12_soundsAt_42 : decode cX12_soundsAt 42 = .ok (.aload_n 0, 1) := by decide +kernel
theorem dX12_soundsAt_43 : decode cX12_soundsAt 43 = .ok (.getfield 7, 3) := by decide +kernel
theorem dX12_soundsAt_46 : decode cX12_soundsAt 46 = .ok (.bipush 11, 2) := by decide +kernel
theorem dX12_soundsAt_48 : decode cX12_soundsAt 48 = .ok (.iaload, 1) := by decide +kernel
theorem dX12_soundsAt_49 : decode cX12_soundsAt 49 = .ok (.imul, 1) := by decide +kernel
theorem dX12_soundsAt_50 : decode cX12_soundsAt 50 = .ok (.if_icmp .ge 7, 3) := by decide +kernel
theorem dX12_soundsAt_53 : decode cX12_soundsAt 53 = .ok (.iload_n 3, 1) := by decide +kernel
theorem dX12_soundsAt_54 : decode cX12_soundsAt 54 = .ok (.goto 26, 3) := by decide +kernel
theorem dX12_soundsAt_57 : decode cX12_soundsAt 57 = .ok (.iload_n 2, 1) := by decide +kernel
theorem dX12_soundsAt_58 : decode cX12_soundsAt 58 = .ok (.bipush 16, 2) := by decide +kernel
theorem dX12_soundsAt_60 : decode cX12_soundsAt 60 = .ok (.aload_n 0, 1) := by decide +kernel
theorem dX12_soundsAt_61 : decode cX12_soundsAt 61 = .ok (.getfield 7, 3) := by decide +kernel
theorem dX12_soundsAt_64 : decode cX12_soundsAt 64 = .ok (.bipush 11, 2) := by decide +kernel
theorem dX12_soundsAt_66 : decode cX12_soundsAt 66 = .ok (.iaload, 1) := by decide +kernel
theorem dX12_soundsAt_67 : decode cX12_soundsAt 67 = .ok (.iadd, 1) := by decide +kernel
theorem dX12_soundsAt_68 : decode cX12_soundsAt 68 = .ok (.if_icmp .ge 9, 3) := by decide +kernel
theorem dX12_soundsAt_71 : decode cX12_soundsAt 71 = .ok (.iload_n 3, 1) := by decide +kernel
theorem dX12_soundsAt_72 : decode cX12_soundsAt 72 = .ok (.iconst 1, 1) := by decide +kernel
theorem dX12_soundsAt_73 : decode cX12_soundsAt 73 = .ok (.iadd, 1) := by decide +kernel
theorem dX12_soundsAt_74 : decode cX12_soundsAt 74 = .ok (.goto 6, 3) := by decide +kernel
theorem dX12_soundsAt_77 : decode cX12_soundsAt 77 = .ok (.iload_n 3, 1) := by decide +kernel
theorem dX12_soundsAt_78 : decode cX12_soundsAt 78 = .ok (.iconst 1, 1) := by decide +kernel
theorem dX12_soundsAt_79 : decode cX12_soundsAt 79 = .ok (.isub, 1) := by decide +kernel
theorem dX12_soundsAt_80 : decode cX12_soundsAt 80 = .ok (.invokevirtual 326, 3) := by decide +kernel
theorem dX12_soundsAt_83 : decode cX12_soundsAt 83 = .ok (.pop, 1) := by decide +kernel
theorem dX12_soundsAt_84 : decode cX12_soundsAt 84 = .ok (.return_, 1) := by decide +kernel
theorem dX12_coloursAt_0 : decode cX12_coloursAt 0 = .ok (.aload_n 0, 1) := by decide +kernel
theorem dX12_coloursAt_1 : decode cX12_coloursAt 1 = .ok (.dup, 1) := by decide +kernel
theorem dX12_coloursAt_2 : decode cX12_coloursAt 2 = .ok (.getfield 467, 3) := by decide +kernel
theorem dX12_coloursAt_5 : decode cX12_coloursAt 5 = .ok (.iconst 5, 1) := by decide +kernel
theorem dX12_coloursAt_6 : decode cX12_coloursAt 6 = .ok (.iadd, 1) := by decide +kernel
theorem dX12_coloursAt_7 : decode cX12_coloursAt 7 = .ok (.putfield 467, 3) := by decide +kernel
theorem dX12_coloursAt_10 : decode cX12_coloursAt 10 = .ok (.aload_n 0, 1) := by decide +kernel
theorem dX12_coloursAt_11 : decode cX12_coloursAt 11 = .ok (.getfield 462, 3) := by decide +kernel
theorem dX12_coloursAt_14 : decode cX12_coloursAt 14 = .ok (.iload_n 2, 1) := by decide +kernel
theorem dX12_coloursAt_15 : decode cX12_coloursAt 15 = .ok (.ishr, 1) := by decide +kernel
theorem dX12_coloursAt_16 : decode cX12_coloursAt 16 = .ok (.iconst 1, 1) := by decide +kernel
theorem dX12_coloursAt_17 : decode cX12_coloursAt 17 = .ok (.iand, 1) := by decide +kernel
theorem dX12_coloursAt_18 : decode cX12_coloursAt 18 = .ok (.iconst 1, 1) := by decide +kernel
theorem dX12_coloursAt_19 : decode cX12_coloursAt 19 = .ok (.if_icmp .ne 7, 3) := by decide +kernel
theorem dX12_coloursAt_22 : decode cX12_coloursAt 22 = .ok (.iconst 1, 1) := by decide +kernel
theorem dX12_coloursAt_23 : decode cX12_coloursAt 23 = .ok (.goto 4, 3) := by decide +kernel
theorem dX12_coloursAt_26 : decode cX12_coloursAt 26 = .ok (.iconst 0, 1) := by decide +kernel
theorem dX12_coloursAt_27 : decode cX12_coloursAt 27 = .ok (.istore_n 3, 1) := by decide +kernel
theorem dX12_coloursAt_28 : decode cX12_coloursAt 28 = .ok (.aload_n 0, 1) := by decide +kernel
theorem dX12_coloursAt_29 : decode cX12_coloursAt 29 = .ok (.iload_n 1, 1) := by decide +kernel
theorem dX12_coloursAt_30 : decode cX12_coloursAt 30 = .ok (.aload_n 0, 1) := by decide +kernel
theorem dX12_coloursAt_31 : decode cX12_coloursAt 31 = .ok (.bipush 16, 2) := by decide +kernel
theorem dX12_coloursAt_33 : decode cX12_coloursAt 33 = .ok (.invokevirtual 459, 3) := by decide +kernel
theorem dX12_coloursAt_36 : decode cX12_coloursAt 36 = .ok (.aload_n 0, 1) := by decide +kernel
theorem dX12_coloursAt_37 : decode cX12_coloursAt 37 = .ok (.getfield 7, 3) := by decide +kernel
theorem dX12_coloursAt_40 : decode cX12_coloursAt 40 = .ok (.bipush 12, 2) := by decide +kernel
theorem dX12_coloursAt_42 : decode cX12_coloursAt 42 = .ok (.iaload, 1) := by decide +kernel
theorem dX12_coloursAt_43 : decode cX12_coloursAt 43 = .ok (.if_icmp .ge 7, 3) := by decide +kernel
theorem dX12_coloursAt_46 : decode cX12_coloursAt 46 = .ok (.iload_n 3, 1) := by decide +kernel
theorem dX12_coloursAt_47 : decode cX12_coloursAt 47 = .ok (.goto 12, 3) := by decide +kernel
theorem dX12_coloursAt_50 : decode cX12_coloursAt 50 = .ok (.iload_n 3, 1) := by decide +kernel
theorem dX12_coloursAt_51 : decode cX12_coloursAt 51 = .ok (.ifCond .ne 7, 3) := by decide +kernel
theorem dX12_coloursAt_54 : decode cX12_coloursAt 54 = .ok (.iconst 1, 1) := by decide +kernel
theorem dX12_coloursAt_55 : decode cX12_coloursAt 55 = .ok (.goto 4, 3) := by decide +kernel
theorem dX12_coloursAt_58 : decode cX12_coloursAt 58 = .ok (.iconst 0, 1) := by decide +kernel
theorem dX12_coloursAt_59 : decode cX12_coloursAt 59 = .ok (.invokevirtual 329, 3) := by decide +kernel
theorem dX12_coloursAt_62 : decode cX12_coloursAt 62 = .ok (.pop, 1) := by decide +kernel
theorem dX12_coloursAt_63 : decode cX12_coloursAt 63 = .ok (.return_, 1) := by decide +kernel
theorem dX12_waits_0 : decode cX12_waits 0 = .ok (.aload_n 0, 1) := by decide +kernel
theorem dX12_waits_1 : decode cX12_waits 1 = .ok (.dup, 1) := by decide +kernel
theorem dX12_waits_2 : decode cX12_waits 2 = .ok (.getfield 467, 3) := by decide +kernel
theorem dX12_waits_5 : decode cX12_waits 5 = .ok (.sipush 1440, 3) := by decide +kernel
theorem dX12_waits_8 : decode cX12_waits 8 = .ok (.iadd, 1) := by decide +kernel
theorem dX12_waits_9 : decode cX12_waits 9 = .ok (.putfield 467, 3) := by decide +kernel
theorem dX12_waits_12 : decode cX12_waits 12 = .ok (.aload_n 0, 1) := by decide +kernel
theorem dX12_waits_13 : decode cX12_waits 13 = .ok (.dup, 1) := by decide +kernel
theorem dX12_waits_14 : decode cX12_waits 14 = .ok (.getfield 473, 3) := by decide +kernel
theorem dX12_waits_17 : decode cX12_waits 17 = .ok (.iconst 1, 1) := by decide +kernel
theorem dX12_waits_18 : decode cX12_waits 18 = .ok (.iadd, 1) := by decide +kernel
theorem dX12_waits_19 : decode cX12_waits 19 = .ok (.putfield 473, 3) := by decide +kernel
theorem dX12_waits_22 : decode cX12_waits 22 = .ok (.iconst 0, 1) := by decide +kernel
theorem dX12_waits_23 : decode cX12_waits 23 = .ok (.istore_n 1, 1) := by decide +kernel
theorem dX12_waits_24 : decode cX12_waits 24 = .ok (.iload_n 1, 1) := by decide +kernel
theorem dX12_waits_25 : decode cX12_waits 25 = .ok (.aload_n 0, 1) := by decide +kernel
theorem dX12_waits_26 : decode cX12_waits 26 = .ok (.getfield 7, 3) := by decide +kernel
theorem dX12_waits_29 : decode cX12_waits 29 = .ok (.iconst 2, 1) := by decide +kernel
theorem dX12_waits_30 : decode cX12_waits 30 = .ok (.iaload, 1) := by decide +kernel
theorem dX12_waits_31 : decode cX12_waits 31 = .ok (.if_icmp .ge 62, 3) := by decide +kernel
theorem dX12_waits_34 : decode cX12_waits 34 = .ok (.aload_n 0, 1) := by decide +kernel
theorem dX12_waits_35 : decode cX12_waits 35 = .ok (.getfield 462, 3) := by decide +kernel
theorem dX12_waits_38 : decode cX12_waits 38 = .ok (.iload_n 1, 1) := by decide +kernel
theorem dX12_waits_39 : decode cX12_waits 39 = .ok (.ishr, 1) := by decide +kernel
theorem dX12_waits_40 : decode cX12_waits 40 = .ok (.iconst 1, 1) := by decide +kernel
theorem dX12_waits_41 : decode cX12_waits 41 = .ok (.iand, 1) := by decide +kernel
theorem dX12_waits_42 : decode cX12_waits 42 = .ok (.iconst 1, 1) := by decide +kernel
theorem dX12_waits_43 : decode cX12_waits 43 = .ok (.if_icmp .ne 7, 3) := by decide +kernel
theorem dX12_waits_46 : decode cX12_waits 46 = .ok (.iconst 1, 1) := by decide +kernel
theorem dX12_waits_47 : decode cX12_waits 47 = .ok (.goto 4, 3) := by decide +kernel
theorem dX12_waits_50 : decode cX12_waits 50 = .ok (.iconst 0, 1) := by decide +kernel
theorem dX12_waits_51 : decode cX12_waits 51 = .ok (.istore_n 2, 1) := by decide +kernel
theorem dX12_waits_52 : decode cX12_waits 52 = .ok (.aload_n 0, 1) := by decide +kernel
theorem dX12_waits_53 : decode cX12_waits 53 = .ok (.bipush 16, 2) := by decide +kernel
theorem dX12_waits_55 : decode cX12_waits 55 = .ok (.invokevirtual 459, 3) := by decide +kernel
theorem dX12_waits_58 : decode cX12_waits 58 = .ok (.aload_n 0, 1) := by decide +kernel
theorem dX12_waits_59 : decode cX12_waits 59 = .ok (.iload_n 1, 1) := by decide +kernel
theorem dX12_waits_60 : decode cX12_waits 60 = .ok (.iload_n 2, 1) := by decide +kernel
theorem dX12_waits_61 : decode cX12_waits 61 = .ok (.ifCond .eq 7, 3) := by decide +kernel
theorem dX12_waits_64 : decode cX12_waits 64 = .ok (.iconst 2, 1) := by decide +kernel
theorem dX12_waits_65 : decode cX12_waits 65 = .ok (.goto 4, 3) := by decide +kernel
theorem dX12_waits_68 : decode cX12_waits 68 = .ok (.iconst 3, 1) := by decide +kernel
theorem dX12_waits_69 : decode cX12_waits 69 = .ok (.invokevirtual 269, 3) := by decide +kernel
theorem dX12_waits_72 : decode cX12_waits 72 = .ok (.if_icmp .ge 15, 3) := by decide +kernel
theorem dX12_waits_75 : decode cX12_waits 75 = .ok (.aload_n 0, 1) := by decide +kernel
theorem dX12_waits_76 : decode cX12_waits 76 = .ok (.dup, 1) := by decide +kernel
theorem dX12_waits_77 : decode cX12_waits 77 = .ok (.getfield 462, 3) := by decide +kernel
theorem dX12_waits_80 : decode cX12_waits 80 = .ok (.iconst 1, 1) := by decide +kernel
theorem dX12_waits_81 : decode cX12_waits 81 = .ok (.iload_n 1, 1) := by decide +kernel
theorem dX12_waits_82 : decode cX12_waits 82 = .ok (.ishl, 1) := by decide +kernel
theorem dX12_waits_83 : decode cX12_waits 83 = .ok (.ixor, 1) := by decide +kernel
theorem dX12_waits_84 : decode cX12_waits 84 = .ok (.putfield 462, 3) := by decide +kernel
theorem dX12_waits_87 : decode cX12_waits 87 = .ok (.iinc 1 1, 3) := by decide +kernel
theorem dX12_waits_90 : decode cX12_waits 90 = .ok (.goto (-66), 3) := by decide +kernel
theorem dX12_waits_93 : decode cX12_waits 93 = .ok (.aload_n 0, 1) := by decide +kernel
theorem dX12_waits_94 : decode cX12_waits 94 = .ok (.iconst (-1), 1) := by decide +kernel
theorem dX12_waits_95 : decode cX12_waits 95 = .ok (.iconst 0, 1) := by decide +kernel
theorem dX12_waits_96 : decode cX12_waits 96 = .ok (.invokevirtual 318, 3) := by decide +kernel
theorem dX12_waits_99 : decode cX12_waits 99 = .ok (.return_, 1) := by decide +kernel
theorem dX12_holds_0 : decode cX12_holds 0 = .ok (.iload_n 1, 1) := by decide +kernel
theorem dX12_holds_1 : decode cX12_holds 1 = .ok (.bipush 11, 2) := by decide +kernel
theorem dX12_holds_3 : decode cX12_holds 3 = .ok (.if_icmp .ne 46, 3) := by decide +kernel
theorem dX12_holds_6 : decode cX12_holds 6 = .ok (.aload_n 0, 1) := by decide +kernel
theorem dX12_holds_7 : decode cX12_holds 7 = .ok (.iload 4, 2) := by decide +kernel
theorem dX12_holds_9 : decode cX12_holds 9 = .ok (.iload 5, 2) := by decide +kernel
theorem dX12_holds_11 : decode cX12_holds 11 = .ok (.invokevirtual 381, 3) := by decide +kernel
theorem dX12_holds_14 : decode cX12_holds 14 = .ok (.istore 6, 2) := by decide +kernel
theorem dX12_holds_16 : decode cX12_holds 16 = .ok (.iload 6, 2) := by decide +kernel
theorem dX12_holds_18 : decode cX12_holds 18 = .ok (.iconst (-1), 1) := by decide +kernel
theorem dX12_holds_19 : decode cX12_holds 19 = .ok (.if_icmp .eq 28, 3) := by decide +kernel
theorem dX12_holds_22 : decode cX12_holds 22 = .ok (.ldc2_w 453, 3) := by decide +kernel
theorem dX12_holds_25 : decode cX12_holds 25 = .ok (.aload_n 0, 1) := by decide +kernel
theorem dX12_holds_26 : decode cX12_holds 26 = .ok (.iconst 0, 1) := by decide +kernel
theorem dX12_holds_27 : decode cX12_holds 27 = .ok (.iload 6, 2) := by decide +kernel
theorem dX12_holds_29 : decode cX12_holds 29 = .ok (.invokevirtual 308, 3) := by decide +kernel
theorem dX12_holds_32 : decode cX12_holds 32 = .ok (.lmul, 1) := by decide +kernel
theorem dX12_holds_33 : decode cX12_holds 33 = .ok (.iload_n 3, 1) := by decide +kernel
theorem dX12_holds_34 : decode cX12_holds 34 = .ok (.i2l, 1) := by decide +kernel
theorem dX12_holds_35 : decode cX12_holds 35 = .ok (.ldc2_w 300, 3) := by decide +kernel
theorem dX12_holds_38 : decode cX12_holds 38 = .ok (.lmul, 1) := by decide +kernel
theorem dX12_holds_39 : decode cX12_holds 39 = .ok (.lcmp, 1) := by decide +kernel
theorem dX12_holds_40 : decode cX12_holds 40 = .ok (.ifCond .lt 7, 3) := by decide +kernel
theorem dX12_holds_43 : decode cX12_holds 43 = .ok (.iconst 1, 1) := by decide +kernel
theorem dX12_holds_44 : decode cX12_holds 44 = .ok (.goto 4, 3) := by decide +kernel
theorem dX12_holds_47 : decode cX12_holds 47 = .ok (.iconst 0, 1) := by decide +kernel
theorem dX12_holds_48 : decode cX12_holds 48 = .ok (.ireturn, 1) := by decide +kernel
theorem dX12_holds_49 : decode cX12_holds 49 = .ok (.aload_n 0, 1) := by decide +kernel
theorem dX12_holds_50 : decode cX12_holds 50 = .ok (.iload_n 2, 1) := by decide +kernel
theorem dX12_holds_51 : decode cX12_holds 51 = .ok (.invokevirtual 266, 3) := by decide +kernel
theorem dX12_holds_54 : decode cX12_holds 54 = .ok (.ifCond .ne 5, 3) := by decide +kernel
theorem dX12_holds_57 : decode cX12_holds 57 = .ok (.iconst 0, 1) := by decide +kernel
theorem dX12_holds_58 : decode cX12_holds 58 = .ok (.ireturn, 1) := by decide +kernel
theorem dX12_holds_59 : decode cX12_holds 59 = .ok (.ldc2_w 453, 3) := by decide +kernel
theorem dX12_holds_62 : decode cX12_holds 62 = .ok (.aload_n 0, 1) := by decide +kernel
theorem dX12_holds_63 : decode cX12_holds 63 = .ok (.iconst 1, 1) := by decide +kernel
theorem dX12_holds_64 : decode cX12_holds 64 = .ok (.iload_n 2, 1) := by decide +kernel
theorem dX12_holds_65 : decode cX12_holds 65 = .ok (.ishl, 1) := by decide +kernel
theorem dX12_holds_66 : decode cX12_holds 66 = .ok (.iconst 0, 1) := by decide +kernel
theorem dX12_holds_67 : decode cX12_holds 67 = .ok (.invokevirtual 308, 3) := by decide +kernel
theorem dX12_holds_70 : decode cX12_holds 70 = .ok (.lmul, 1) := by decide +kernel
theorem dX12_holds_71 : decode cX12_holds 71 = .ok (.lstore 6, 2) := by decide +kernel
theorem dX12_holds_73 : decode cX12_holds 73 = .ok (.iload_n 1, 1) := by decide +kernel
theorem dX12_holds_74 : decode cX12_holds 74 = .ok (.bipush 9, 2) := by decide +kernel
theorem dX12_holds_76 : decode cX12_holds 76 = .ok (.if_icmp .ne 23, 3) := by decide +kernel
theorem dX12_holds_79 : decode cX12_holds 79 = .ok (.lload 6, 2) := by decide +kernel
theorem dX12_holds_81 : decode cX12_holds 81 = .ok (.iload_n 3, 1) := by decide +kernel
theorem dX12_holds_82 : decode cX12_holds 82 = .ok (.i2l, 1) := by decide +kernel
theorem dX12_holds_83 : decode cX12_holds 83 = .ok (.ldc2_w 300, 3) := by decide +kernel
theorem dX12_holds_86 : decode cX12_holds 86 = .ok (.lmul, 1) := by decide +kernel
theorem dX12_holds_87 : decode cX12_holds 87 = .ok (.lcmp, 1) := by decide +kernel
theorem dX12_holds_88 : decode cX12_holds 88 = .ok (.ifCond .lt 7, 3) := by decide +kernel
theorem dX12_holds_91 : decode cX12_holds 91 = .ok (.iconst 1, 1) := by decide +kernel
theorem dX12_holds_92 : decode cX12_holds 92 = .ok (.goto 24, 3) := by decide +kernel
theorem dX12_holds_95 : decode cX12_holds 95 = .ok (.iconst 0, 1) := by decide +kernel
theorem dX12_holds_96 : decode cX12_holds 96 = .ok (.goto 20, 3) := by decide +kernel
theorem dX12_holds_99 : decode cX12_holds 99 = .ok (.lload 6, 2) := by decide +kernel
theorem dX12_holds_101 : decode cX12_holds 101 = .ok (.iload_n 3, 1) := by decide +kernel
theorem dX12_holds_102 : decode cX12_holds 102 = .ok (.i2l, 1) := by decide +kernel
theorem dX12_holds_103 : decode cX12_holds 103 = .ok (.ldc2_w 300, 3) := by decide +kernel
theorem dX12_holds_106 : decode cX12_holds 106 = .ok (.lmul, 1) := by decide +kernel
theorem dX12_holds_107 : decode cX12_holds 107 = .ok (.lcmp, 1) := by decide +kernel
theorem dX12_holds_108 : decode cX12_holds 108 = .ok (.ifCond .gt 7, 3) := by decide +kernel
theorem dX12_holds_111 : decode cX12_holds 111 = .ok (.iconst 1, 1) := by decide +kernel
theorem dX12_holds_112 : decode cX12_holds 112 = .ok (.goto 4, 3) := by decide +kernel
theorem dX12_holds_115 : decode cX12_holds 115 = .ok (.iconst 0, 1) := by decide +kernel
theorem dX12_holds_116 : decode cX12_holds 116 = .ok (.ireturn, 1) := by decide +kernel
theorem dX12_goes_0 : decode cX12_goes 0 = .ok (.aload_n 0, 1) := by decide +kernel
theorem dX12_goes_1 : decode cX12_goes 1 = .ok (.aload_n 0, 1) := by decide +kernel
theorem dX12_goes_2 : decode cX12_goes 2 = .ok (.iload_n 1, 1) := by decide +kernel
theorem dX12_goes_3 : decode cX12_goes 3 = .ok (.iload_n 2, 1) := by decide +kernel
theorem dX12_goes_4 : decode cX12_goes 4 = .ok (.invokevirtual 381, 3) := by decide +kernel
theorem dX12_goes_7 : decode cX12_goes 7 = .ok (.putfield 476, 3) := by decide +kernel
theorem dX12_goes_10 : decode cX12_goes 10 = .ok (.aload_n 0, 1) := by decide +kernel
theorem dX12_goes_11 : decode cX12_goes 11 = .ok (.iconst 2, 1) := by decide +kernel
theorem dX12_goes_12 : decode cX12_goes 12 = .ok (.putfield 78, 3) := by decide +kernel
theorem dX12_goes_15 : decode cX12_goes 15 = .ok (.aload_n 0, 1) := by decide +kernel
theorem dX12_goes_16 : decode cX12_goes 16 = .ok (.getfield 476, 3) := by decide +kernel
theorem dX12_goes_19 : decode cX12_goes 19 = .ok (.iconst (-1), 1) := by decide +kernel
theorem dX12_goes_20 : decode cX12_goes 20 = .ok (.if_icmp .ne 4, 3) := by decide +kernel
theorem dX12_goes_23 : decode cX12_goes 23 = .ok (.return_, 1) := by decide +kernel
theorem dX12_goes_24 : decode cX12_goes 24 = .ok (.aload_n 0, 1) := by decide +kernel
theorem dX12_goes_25 : decode cX12_goes 25 = .ok (.dup, 1) := by decide +kernel
theorem dX12_goes_26 : decode cX12_goes 26 = .ok (.getfield 467, 3) := by decide +kernel
theorem dX12_goes_29 : decode cX12_goes 29 = .ok (.aload_n 0, 1) := by decide +kernel
theorem dX12_goes_30 : decode cX12_goes 30 = .ok (.getfield 63, 3) := by decide +kernel
theorem dX12_goes_33 : decode cX12_goes 33 = .ok (.aload_n 0, 1) := by decide +kernel
theorem dX12_goes_34 : decode cX12_goes 34 = .ok (.getfield 476, 3) := by decide +kernel
theorem dX12_goes_37 : decode cX12_goes 37 = .ok (.iaload, 1) := by decide +kernel
theorem dX12_goes_38 : decode cX12_goes 38 = .ok (.aload_n 0, 1) := by decide +kernel
theorem dX12_goes_39 : decode cX12_goes 39 = .ok (.getfield 7, 3) := by decide +kernel
theorem dX12_goes_42 : decode cX12_goes 42 = .ok (.bipush 10, 2) := by decide +kernel
theorem dX12_goes_44 : decode cX12_goes 44 = .ok (.iaload, 1) := by decide +kernel
theorem dX12_goes_45 : decode cX12_goes 45 = .ok (.aload_n 0, 1) := by decide +kernel
theorem dX12_goes_46 : decode cX12_goes 46 = .ok (.getfield 476, 3) := by decide +kernel
theorem dX12_goes_49 : decode cX12_goes 49 = .ok (.aload_n 0, 1) := by decide +kernel
theorem dX12_goes_50 : decode cX12_goes 50 = .ok (.getfield 462, 3) := by decide +kernel
theorem dX12_goes_53 : decode cX12_goes 53 = .ok (.iand, 1) := by decide +kernel
theorem dX12_goes_54 : decode cX12_goes 54 = .ok (.invokestatic 447, 3) := by decide +kernel
theorem dX12_goes_57 : decode cX12_goes 57 = .ok (.imul, 1) := by decide +kernel
theorem dX12_goes_58 : decode cX12_goes 58 = .ok (.iadd, 1) := by decide +kernel
theorem dX12_goes_59 : decode cX12_goes 59 = .ok (.iadd, 1) := by decide +kernel
theorem dX12_goes_60 : decode cX12_goes 60 = .ok (.putfield 467, 3) := by decide +kernel
theorem dX12_goes_63 : decode cX12_goes 63 = .ok (.aload_n 0, 1) := by decide +kernel
theorem dX12_goes_64 : decode cX12_goes 64 = .ok (.aload_n 0, 1) := by decide +kernel
theorem dX12_goes_65 : decode cX12_goes 65 = .ok (.getfield 476, 3) := by decide +kernel
theorem dX12_goes_68 : decode cX12_goes 68 = .ok (.aload_n 0, 1) := by decide +kernel
theorem dX12_goes_69 : decode cX12_goes 69 = .ok (.getfield 462, 3) := by decide +kernel
theorem dX12_goes_72 : decode cX12_goes 72 = .ok (.iand, 1) := by decide +kernel
theorem dX12_goes_73 : decode cX12_goes 73 = .ok (.ifCond .ne 7, 3) := by decide +kernel
theorem dX12_goes_76 : decode cX12_goes 76 = .ok (.iconst 0, 1) := by decide +kernel
theorem dX12_goes_77 : decode cX12_goes 77 = .ok (.goto 4, 3) := by decide +kernel
theorem dX12_goes_80 : decode cX12_goes 80 = .ok (.iconst 1, 1) := by decide +kernel
theorem dX12_goes_81 : decode cX12_goes 81 = .ok (.putfield 78, 3) := by decide +kernel
theorem dX12_goes_84 : decode cX12_goes 84 = .ok (.return_, 1) := by decide +kernel
theorem dX12_does_0 : decode cX12_does 0 = .ok (.sipush 200, 3) := by decide +kernel
theorem dX12_does_3 : decode cX12_does 3 = .ok (.iconst 4, 1) := by decide +kernel
theorem dX12_does_4 : decode cX12_does 4 = .ok (.iload_n 1, 1) := by decide +kernel
theorem dX12_does_5 : decode cX12_does 5 = .ok (.imul, 1) := by decide +kernel
theorem dX12_does_6 : decode cX12_does 6 = .ok (.iadd, 1) := by decide +kernel
theorem dX12_does_7 : decode cX12_does 7 = .ok (.istore 4, 2) := by decide +kernel
theorem dX12_does_9 : decode cX12_does 9 = .ok (.aload_n 0, 1) := by decide +kernel
theorem dX12_does_10 : decode cX12_does 10 = .ok (.getfield 7, 3) := by decide +kernel
theorem dX12_does_13 : decode cX12_does 13 = .ok (.iload 4, 2) := by decide +kernel
theorem dX12_does_15 : decode cX12_does 15 = .ok (.iaload, 1) := by decide +kernel
theorem dX12_does_16 : decode cX12_does 16 = .ok (.istore 5, 2) := by decide +kernel
theorem dX12_does_18 : decode cX12_does 18 = .ok (.aload_n 0, 1) := by decide +kernel
theorem dX12_does_19 : decode cX12_does 19 = .ok (.getfield 7, 3) := by decide +kernel
theorem dX12_does_22 : decode cX12_does 22 = .ok (.iload 4, 2) := by decide +kernel
theorem dX12_does_24 : decode cX12_does 24 = .ok (.iconst 1, 1) := by decide +kernel
theorem dX12_does_25 : decode cX12_does 25 = .ok (.iadd, 1) := by decide +kernel
theorem dX12_does_26 : decode cX12_does 26 = .ok (.iaload, 1) := by decide +kernel
theorem dX12_does_27 : decode cX12_does 27 = .ok (.istore 6, 2) := by decide +kernel
theorem dX12_does_29 : decode cX12_does 29 = .ok (.aload_n 0, 1) := by decide +kernel
theorem dX12_does_30 : decode cX12_does 30 = .ok (.getfield 7, 3) := by decide +kernel
theorem dX12_does_33 : decode cX12_does 33 = .ok (.iload 4, 2) := by decide +kernel
theorem dX12_does_35 : decode cX12_does 35 = .ok (.iconst 2, 1) := by decide +kernel
theorem dX12_does_36 : decode cX12_does 36 = .ok (.iadd, 1) := by decide +kernel
theorem dX12_does_37 : decode cX12_does 37 = .ok (.iaload, 1) := by decide +kernel
theorem dX12_does_38 : decode cX12_does 38 = .ok (.istore 7, 2) := by decide +kernel
theorem dX12_does_40 : decode cX12_does 40 = .ok (.aload_n 0, 1) := by decide +kernel
theorem dX12_does_41 : decode cX12_does 41 = .ok (.iload 6, 2) := by decide +kernel
theorem dX12_does_43 : decode cX12_does 43 = .ok (.invokevirtual 266, 3) := by decide +kernel
theorem dX12_does_46 : decode cX12_does 46 = .ok (.ifCond .eq 12, 3) := by decide +kernel
theorem dX12_does_49 : decode cX12_does 49 = .ok (.aload_n 0, 1) := by decide +kernel
theorem dX12_does_50 : decode cX12_does 50 = .ok (.iload 6, 2) := by decide +kernel
theorem dX12_does_52 : decode cX12_does 52 = .ok (.invokevirtual 272, 3) := by decide +kernel
theorem dX12_does_55 : decode cX12_does 55 = .ok (.goto 4, 3) := by decide +kernel
theorem dX12_does_58 : decode cX12_does 58 = .ok (.iconst (-1), 1) := by decide +kernel
theorem dX12_does_59 : decode cX12_does 59 = .ok (.istore 8, 2) := by decide +kernel
theorem dX12_does_61 : decode cX12_does 61 = .ok (.iload 5, 2) := by decide +kernel
theorem dX12_does_63 : decode cX12_does 63 = .ok (.ifCond .ne 15, 3) := by decide +kernel
theorem dX12_does_66 : decode cX12_does 66 = .ok (.iload 8, 2) := by decide +kernel
theorem dX12_does_68 : decode cX12_does 68 = .ok (.iconst (-1), 1) := by decide +kernel
theorem dX12_does_69 : decode cX12_does 69 = .ok (.if_icmp .eq 9, 3) := by decide +kernel
theorem dX12_does_72 : decode cX12_does 72 = .ok (.aload_n 0, 1) := by decide +kernel
theorem dX12_does_73 : decode cX12_does 73 = .ok (.iload 8, 2) := by decide +kernel
theorem dX12_does_75 : decode cX12_does 75 = .ok (.invokevirtual 479, 3) := by decide +kernel
theorem dX12_does_78 : decode cX12_does 78 = .ok (.iload 5, 2) := by decide +kernel
theorem dX12_does_80 : decode cX12_does 80 = .ok (.iconst 1, 1) := by decide +kernel
theorem dX12_does_81 : decode cX12_does 81 = .ok (.if_icmp .ne 17, 3) := by decide +kernel
theorem dX12_does_84 : decode cX12_does 84 = .ok (.iload 8, 2) := by decide +kernel
theorem dX12_does_86 : decode cX12_does 86 = .ok (.iconst (-1), 1) := by decide +kernel
theorem dX12_does_87 : decode cX12_does 87 = .ok (.if_icmp .eq 11, 3) := by decide +kernel
theorem dX12_does_90 : decode cX12_does 90 = .ok (.aload_n 0, 1) := by decide +kernel
theorem dX12_does_91 : decode cX12_does 91 = .ok (.iload 8, 2) := by decide +kernel
theorem dX12_does_93 : decode cX12_does 93 = .ok (.iload 6, 2) := by decide +kernel
theorem dX12_does_95 : decode cX12_does 95 = .ok (.invokevirtual 482, 3) := by decide +kernel
theorem dX12_does_98 : decode cX12_does 98 = .ok (.iload 5, 2) := by decide +kernel
theorem dX12_does_100 : decode cX12_does 100 = .ok (.iconst 2, 1) := by decide +kernel
theorem dX12_does_101 : decode cX12_does 101 = .ok (.if_icmp .ne 23, 3) := by decide +kernel
theorem dX12_does_104 : decode cX12_does 104 = .ok (.iconst 0, 1) := by decide +kernel
theorem dX12_does_105 : decode cX12_does 105 = .ok (.istore 9, 2) := by decide +kernel
theorem dX12_does_107 : decode cX12_does 107 = .ok (.iload 9, 2) := by decide +kernel
theorem dX12_does_109 : decode cX12_does 109 = .ok (.iload 7, 2) := by decide +kernel
theorem dX12_does_111 : decode cX12_does 111 = .ok (.if_icmp .ge 13, 3) := by decide +kernel
theorem dX12_does_114 : decode cX12_does 114 = .ok (.aload_n 0, 1) := by decide +kernel
theorem dX12_does_115 : decode cX12_does 115 = .ok (.invokevirtual 485, 3) := by decide +kernel
theorem dX12_does_118 : decode cX12_does 118 = .ok (.iinc 9 1, 3) := by decide +kernel
theorem dX12_does_121 : decode cX12_does 121 = .ok (.goto (-14), 3) := by decide +kernel
theorem dX12_does_124 : decode cX12_does 124 = .ok (.iload 5, 2) := by decide +kernel
theorem dX12_does_126 : decode cX12_does 126 = .ok (.iconst 3, 1) := by decide +kernel
theorem dX12_does_127 : decode cX12_does 127 = .ok (.if_icmp .ne 57, 3) := by decide +kernel
theorem dX12_does_130 : decode cX12_does 130 = .ok (.iload 7, 2) := by decide +kernel
theorem dX12_does_132 : decode cX12_does 132 = .ok (.aload_n 0, 1) := by decide +kernel
theorem dX12_does_133 : decode cX12_does 133 = .ok (.getfield 7, 3) := by decide +kernel
theorem dX12_does_136 : decode cX12_does 136 = .ok (.bipush 6, 2) := by decide +kernel
theorem dX12_does_138 : decode cX12_does 138 = .ok (.iaload, 1) := by decide +kernel
theorem dX12_does_139 : decode cX12_does 139 = .ok (.invokestatic 147, 3) := by decide +kernel
theorem dX12_does_142 : decode cX12_does 142 = .ok (.aload_n 0, 1) := by decide +kernel
theorem dX12_does_143 : decode cX12_does 143 = .ok (.getfield 7, 3) := by decide +kernel
theorem dX12_does_146 : decode cX12_does 146 = .ok (.iconst 4, 1) := by decide +kernel
theorem dX12_does_147 : decode cX12_does 147 = .ok (.iaload, 1) := by decide +kernel
theorem dX12_does_148 : decode cX12_does 148 = .ok (.isub, 1) := by decide +kernel
theorem dX12_does_149 : decode cX12_does 149 = .ok (.istore 9, 2) := by decide +kernel
theorem dX12_does_151 : decode cX12_does 151 = .ok (.aload_n 0, 1) := by decide +kernel
theorem dX12_does_152 : decode cX12_does 152 = .ok (.getfield 7, 3) := by decide +kernel
theorem dX12_does_155 : decode cX12_does 155 = .ok (.iconst 4, 1) := by decide +kernel
theorem dX12_does_156 : decode cX12_does 156 = .ok (.dup2, 1) := by decide +kernel
theorem dX12_does_157 : decode cX12_does 157 = .ok (.iaload, 1) := by decide +kernel
theorem dX12_does_158 : decode cX12_does 158 = .ok (.iconst 0, 1) := by decide +kernel
theorem dX12_does_159 : decode cX12_does 159 = .ok (.iload 9, 2) := by decide +kernel
theorem dX12_does_161 : decode cX12_does 161 = .ok (.invokestatic 488, 3) := by decide +kernel
theorem dX12_does_164 : decode cX12_does 164 = .ok (.iadd, 1) := by decide +kernel
theorem dX12_does_165 : decode cX12_does 165 = .ok (.iastore, 1) := by decide +kernel
theorem dX12_does_166 : decode cX12_does 166 = .ok (.aload_n 0, 1) := by decide +kernel
theorem dX12_does_167 : decode cX12_does 167 = .ok (.dup, 1) := by decide +kernel
theorem dX12_does_168 : decode cX12_does 168 = .ok (.getfield 467, 3) := by decide +kernel
theorem dX12_does_171 : decode cX12_does 171 = .ok (.bipush 20, 2) := by decide +kernel
theorem dX12_does_173 : decode cX12_does 173 = .ok (.iconst 0, 1) := by decide +kernel
theorem dX12_does_174 : decode cX12_does 174 = .ok (.iload 9, 2) := by decide +kernel
theorem dX12_does_176 : decode cX12_does 176 = .ok (.invokestatic 488, 3) := by decide +kernel
theorem dX12_does_179 : decode cX12_does 179 = .ok (.imul, 1) := by decide +kernel
theorem dX12_does_180 : decode cX12_does 180 = .ok (.iadd, 1) := by decide +kernel
theorem dX12_does_181 : decode cX12_does 181 = .ok (.putfield 467, 3) := by decide +kernel
theorem dX12_does_184 : decode cX12_does 184 = .ok (.iload 5, 2) := by decide +kernel
theorem dX12_does_186 : decode cX12_does 186 = .ok (.bipush 40, 2) := by decide +kernel
theorem dX12_does_188 : decode cX12_does 188 = .ok (.if_icmp .lt 33, 3) := by decide +kernel
theorem dX12_does_191 : decode cX12_does 191 = .ok (.aload_n 0, 1) := by decide +kernel
theorem dX12_does_192 : decode cX12_does 192 = .ok (.iload 5, 2) := by decide +kernel
theorem dX12_does_194 : decode cX12_does 194 = .ok (.bipush 40, 2) := by decide +kernel
theorem dX12_does_196 : decode cX12_does 196 = .ok (.isub, 1) := by decide +kernel
theorem dX12_does_197 : decode cX12_does 197 = .ok (.iload 6, 2) := by decide +kernel
theorem dX12_does_199 : decode cX12_does 199 = .ok (.iload 7, 2) := by decide +kernel
theorem dX12_does_201 : decode cX12_does 201 = .ok (.iload_n 2, 1) := by decide +kernel
theorem dX12_does_202 : decode cX12_does 202 = .ok (.iload_n 3, 1) := by decide +kernel
theorem dX12_does_203 : decode cX12_does 203 = .ok (.invokevirtual 490, 3) := by decide +kernel
theorem dX12_does_206 : decode cX12_does 206 = .ok (.ifCond .ne 15, 3) := by decide +kernel
theorem dX12_does_209 : decode cX12_does 209 = .ok (.aload_n 0, 1) := by decide +kernel
theorem dX12_does_210 : decode cX12_does 210 = .ok (.getfield 7, 3) := by decide +kernel
theorem dX12_does_213 : decode cX12_does 213 = .ok (.iload 4, 2) := by decide +kernel
theorem dX12_does_215 : decode cX12_does 215 = .ok (.iconst 3, 1) := by decide +kernel
theorem dX12_does_216 : decode cX12_does 216 = .ok (.iadd, 1) := by decide +kernel
theorem dX12_does_217 : decode cX12_does 217 = .ok (.iaload, 1) := by decide +kernel
theorem dX12_does_218 : decode cX12_does 218 = .ok (.iconst 1, 1) := by decide +kernel
theorem dX12_does_219 : decode cX12_does 219 = .ok (.iadd, 1) := by decide +kernel
theorem dX12_does_220 : decode cX12_does 220 = .ok (.ireturn, 1) := by decide +kernel
theorem dX12_does_221 : decode cX12_does 221 = .ok (.iload 5, 2) := by decide +kernel
theorem dX12_does_223 : decode cX12_does 223 = .ok (.iconst 5, 1) := by decide +kernel
theorem dX12_does_224 : decode cX12_does 224 = .ok (.if_icmp .ne 13, 3) := by decide +kernel
theorem dX12_does_227 : decode cX12_does 227 = .ok (.aload_n 0, 1) := by decide +kernel
theorem dX12_does_228 : decode cX12_does 228 = .ok (.getfield 81, 3) := by decide +kernel
theorem dX12_does_231 : decode cX12_does 231 = .ok (.iload_n 1, 1) := by decide +kernel
theorem dX12_does_232 : decode cX12_does 232 = .ok (.iload 7, 2) := by decide +kernel
theorem dX12_does_234 : decode cX12_does 234 = .ok (.iconst 1, 1) := by decide +kernel
theorem dX12_does_235 : decode cX12_does 235 = .ok (.isub, 1) := by decide +kernel
theorem dX12_does_236 : decode cX12_does 236 = .ok (.iastore, 1) := by decide +kernel
theorem dX12_does_237 : decode cX12_does 237 = .ok (.iload 5, 2) := by decide +kernel
theorem dX12_does_239 : decode cX12_does 239 = .ok (.bipush 7, 2) := by decide +kernel
theorem dX12_does_241 : decode cX12_does 241 = .ok (.if_icmp .ne 9, 3) := by decide +kernel
theorem dX12_does_244 : decode cX12_does 244 = .ok (.aload_n 0, 1) := by decide +kernel
theorem dX12_does_245 : decode cX12_does 245 = .ok (.iload_n 2, 1) := by decide +kernel
theorem dX12_does_246 : decode cX12_does 246 = .ok (.iload_n 3, 1) := by decide +kernel
theorem dX12_does_247 : decode cX12_does 247 = .ok (.invokevirtual 494, 3) := by decide +kernel
theorem dX12_does_250 : decode cX12_does 250 = .ok (.iload 5, 2) := by decide +kernel
theorem dX12_does_252 : decode cX12_does 252 = .ok (.bipush 7, 2) := by decide +kernel
theorem dX12_does_254 : decode cX12_does 254 = .ok (.if_icmp .eq 10, 3) := by decide +kernel
theorem dX12_does_257 : decode cX12_does 257 = .ok (.iload 5, 2) := by decide +kernel
theorem dX12_does_259 : decode cX12_does 259 = .ok (.bipush 8, 2) := by decide +kernel
theorem dX12_does_261 : decode cX12_does 261 = .ok (.if_icmp .ne 7, 3) := by decide +kernel
theorem dX12_does_264 : decode cX12_does 264 = .ok (.iconst (-1), 1) := by decide +kernel
theorem dX12_does_265 : decode cX12_does 265 = .ok (.goto 6, 3) := by decide +kernel
theorem dX12_does_268 : decode cX12_does 268 = .ok (.iload_n 1, 1) := by decide +kernel
theorem dX12_does_269 : decode cX12_does 269 = .ok (.iconst 1, 1) := by decide +kernel
theorem dX12_does_270 : decode cX12_does 270 = .ok (.iadd, 1) := by decide +kernel
theorem dX12_does_271 : decode cX12_does 271 = .ok (.ireturn, 1) := by decide +kernel
theorem dX12_behindEnds_0 : decode cX12_behindEnds 0 = .ok (.iload_n 1, 1) := by decide +kernel
theorem dX12_behindEnds_1 : decode cX12_behindEnds 1 = .ok (.istore_n 2, 1) := by decide +kernel
theorem dX12_behindEnds_2 : decode cX12_behindEnds 2 = .ok (.iload_n 2, 1) := by decide +kernel
theorem dX12_behindEnds_3 : decode cX12_behindEnds 3 = .ok (.ifCond .lt 111, 3) := by decide +kernel
theorem dX12_behindEnds_6 : decode cX12_behindEnds 6 = .ok (.iload_n 2, 1) := by decide +kernel
theorem dX12_behindEnds_7 : decode cX12_behindEnds 7 = .ok (.aload_n 0, 1) := by decide +kernel
theorem dX12_behindEnds_8 : decode cX12_behindEnds 8 = .ok (.getfield 7, 3) := by decide +kernel
theorem dX12_behindEnds_11 : decode cX12_behindEnds 11 = .ok (.bipush 14, 2) := by decide +kernel
theorem dX12_behindEnds_13 : decode cX12_behindEnds 13 = .ok (.iaload, 1) := by decide +kernel
theorem dX12_behindEnds_14 : decode cX12_behindEnds 14 = .ok (.if_icmp .ge 100, 3) := by decide +kernel
theorem dX12_behindEnds_17 : decode cX12_behindEnds 17 = .ok (.aload_n 0, 1) := by decide +kernel
theorem dX12_behindEnds_18 : decode cX12_behindEnds 18 = .ok (.getfield 7, 3) := by decide +kernel
theorem dX12_behindEnds_21 : decode cX12_behindEnds 21 = .ok (.sipush 200, 3) := by decide +kernel
theorem dX12_behindEnds_24 : decode cX12_behindEnds 24 = .ok (.iconst 4, 1) := by decide +kernel
theorem dX12_behindEnds_25 : decode cX12_behindEnds 25 = .ok (.iload_n 2, 1) := by decide +kernel
theorem dX12_behindEnds_26 : decode cX12_behindEnds 26 = .ok (.imul, 1) := by decide +kernel
theorem dX12_behindEnds_27 : decode cX12_behindEnds 27 = .ok (.iadd, 1) := by decide +kernel
theorem dX12_behindEnds_28 : decode cX12_behindEnds 28 = .ok (.iaload, 1) := by decide +kernel
theorem dX12_behindEnds_29 : decode cX12_behindEnds 29 = .ok (.bipush 6, 2) := by decide +kernel
theorem dX12_behindEnds_31 : decode cX12_behindEnds 31 = .ok (.if_icmp .ne 83, 3) := by decide +kernel
theorem dX12_behindEnds_34 : decode cX12_behindEnds 34 = .ok (.aload_n 0, 1) := by decide +kernel
theorem dX12_behindEnds_35 : decode cX12_behindEnds 35 = .ok (.getfield 7, 3) := by decide +kernel
theorem dX12_behindEnds_38 : decode cX12_behindEnds 38 = .ok (.sipush 200, 3) := by decide +kernel
theorem dX12_behindEnds_41 : decode cX12_behindEnds 41 = .ok (.iconst 4, 1) := by decide +kernel
theorem dX12_behindEnds_42 : decode cX12_behindEnds 42 = .ok (.iload_n 2, 1) := by decide +kernel
theorem dX12_behindEnds_43 : decode cX12_behindEnds 43 = .ok (.imul, 1) := by decide +kernel
theorem dX12_behindEnds_44 : decode cX12_behindEnds 44 = .ok (.iadd, 1) := by decide +kernel
theorem dX12_behindEnds_45 : decode cX12_behindEnds 45 = .ok (.iconst 3, 1) := by decide +kernel
theorem dX12_behindEnds_46 : decode cX12_behindEnds 46 = .ok (.iadd, 1) := by decide +kernel
theorem dX12_behindEnds_47 : decode cX12_behindEnds 47 = .ok (.iaload, 1) := by decide +kernel
theorem dX12_behindEnds_48 : decode cX12_behindEnds 48 = .ok (.istore_n 3, 1) := by decide +kernel
theorem dX12_behindEnds_49 : decode cX12_behindEnds 49 = .ok (.aload_n 0, 1) := by decide +kernel
theorem dX12_behindEnds_50 : decode cX12_behindEnds 50 = .ok (.getfield 7, 3) := by decide +kernel
theorem dX12_behindEnds_53 : decode cX12_behindEnds 53 = .ok (.sipush 200, 3) := by decide +kernel
theorem dX12_behindEnds_56 : decode cX12_behindEnds 56 = .ok (.iconst 4, 1) := by decide +kernel
theorem dX12_behindEnds_57 : decode cX12_behindEnds 57 = .ok (.iload_n 3, 1) := by decide +kernel
theorem dX12_behindEnds_58 : decode cX12_behindEnds 58 = .ok (.imul, 1) := by decide +kernel
theorem dX12_behindEnds_59 : decode cX12_behindEnds 59 = .ok (.iadd, 1) := by decide +kernel
theorem dX12_behindEnds_60 : decode cX12_behindEnds 60 = .ok (.iaload, 1) := by decide +kernel
theorem dX12_behindEnds_61 : decode cX12_behindEnds 61 = .ok (.iconst 5, 1) := by decide +kernel
theorem dX12_behindEnds_62 : decode cX12_behindEnds 62 = .ok (.if_icmp .ne 16, 3) := by decide +kernel
theorem dX12_behindEnds_65 : decode cX12_behindEnds 65 = .ok (.aload_n 0, 1) := by decide +kernel
theorem dX12_behindEnds_66 : decode cX12_behindEnds 66 = .ok (.getfield 81, 3) := by decide +kernel
theorem dX12_behindEnds_69 : decode cX12_behindEnds 69 = .ok (.iload_n 3, 1) := by decide +kernel
theorem dX12_behindEnds_70 : decode cX12_behindEnds 70 = .ok (.iaload, 1) := by decide +kernel
theorem dX12_behindEnds_71 : decode cX12_behindEnds 71 = .ok (.ifCond .le 7, 3) := by decide +kernel
theorem dX12_behindEnds_74 : decode cX12_behindEnds 74 = .ok (.iconst 1, 1) := by decide +kernel
theorem dX12_behindEnds_75 : decode cX12_behindEnds 75 = .ok (.goto 4, 3) := by decide +kernel
theorem dX12_behindEnds_78 : decode cX12_behindEnds 78 = .ok (.iconst 0, 1) := by decide +kernel
theorem dX12_behindEnds_79 : decode cX12_behindEnds 79 = .ok (.istore 4, 2) := by decide +kernel
theorem dX12_behindEnds_81 : decode cX12_behindEnds 81 = .ok (.iload 4, 2) := by decide +kernel
theorem dX12_behindEnds_83 : decode cX12_behindEnds 83 = .ok (.ifCond .eq 13, 3) := by decide +kernel
theorem dX12_behindEnds_86 : decode cX12_behindEnds 86 = .ok (.aload_n 0, 1) := by decide +kernel
theorem dX12_behindEnds_87 : decode cX12_behindEnds 87 = .ok (.getfield 81, 3) := by decide +kernel
theorem dX12_behindEnds_90 : decode cX12_behindEnds 90 = .ok (.iload_n 3, 1) := by decide +kernel
theorem dX12_behindEnds_91 : decode cX12_behindEnds 91 = .ok (.dup2, 1) := by decide +kernel
theorem dX12_behindEnds_92 : decode cX12_behindEnds 92 = .ok (.iaload, 1) := by decide +kernel
theorem dX12_behindEnds_93 : decode cX12_behindEnds 93 = .ok (.iconst 1, 1) := by decide +kernel
theorem dX12_behindEnds_94 : decode cX12_behindEnds 94 = .ok (.isub, 1) := by decide +kernel
theorem dX12_behindEnds_95 : decode cX12_behindEnds 95 = .ok (.iastore, 1) := by decide +kernel
theorem dX12_behindEnds_96 : decode cX12_behindEnds 96 = .ok (.iload 4, 2) := by decide +kernel
theorem dX12_behindEnds_98 : decode cX12_behindEnds 98 = .ok (.ifCond .eq 9, 3) := by decide +kernel
theorem dX12_behindEnds_101 : decode cX12_behindEnds 101 = .ok (.iload_n 3, 1) := by decide +kernel
theorem dX12_behindEnds_102 : decode cX12_behindEnds 102 = .ok (.iconst 1, 1) := by decide +kernel
theorem dX12_behindEnds_103 : decode cX12_behindEnds 103 = .ok (.iadd, 1) := by decide +kernel
theorem dX12_behindEnds_104 : decode cX12_behindEnds 104 = .ok (.goto 6, 3) := by decide +kernel
theorem dX12_behindEnds_107 : decode cX12_behindEnds 107 = .ok (.iload_n 2, 1) := by decide +kernel
theorem dX12_behindEnds_108 : decode cX12_behindEnds 108 = .ok (.iconst 1, 1) := by decide +kernel
theorem dX12_behindEnds_109 : decode cX12_behindEnds 109 = .ok (.iadd, 1) := by decide +kernel
theorem dX12_behindEnds_110 : decode cX12_behindEnds 110 = .ok (.istore_n 2, 1) := by decide +kernel
theorem dX12_behindEnds_111 : decode cX12_behindEnds 111 = .ok (.goto (-109), 3) := by decide +kernel
theorem dX12_behindEnds_114 : decode cX12_behindEnds 114 = .ok (.iload_n 2, 1) := by decide +kernel
theorem dX12_behindEnds_115 : decode cX12_behindEnds 115 = .ok (.ireturn, 1) := by decide +kernel
theorem dX12_plays_0 : decode cX12_plays 0 = .ok (.aload_n 0, 1) := by decide +kernel
theorem dX12_plays_1 : decode cX12_plays 1 = .ok (.invokevirtual 441, 3) := by decide +kernel
theorem dX12_plays_4 : decode cX12_plays 4 = .ok (.aload_n 0, 1) := by decide +kernel
theorem dX12_plays_5 : decode cX12_plays 5 = .ok (.iload_n 3, 1) := by decide +kernel
theorem dX12_plays_6 : decode cX12_plays 6 = .ok (.putfield 455, 3) := by decide +kernel
theorem dX12_plays_9 : decode cX12_plays 9 = .ok (.aload_n 0, 1) := by decide +kernel
theorem dX12_plays_10 : decode cX12_plays 10 = .ok (.iconst 0, 1) := by decide +kernel
theorem dX12_plays_11 : decode cX12_plays 11 = .ok (.putfield 467, 3) := by decide +kernel
theorem dX12_plays_14 : decode cX12_plays 14 = .ok (.aload_n 0, 1) := by decide +kernel
theorem dX12_plays_15 : decode cX12_plays 15 = .ok (.iconst 0, 1) := by decide +kernel
theorem dX12_plays_16 : decode cX12_plays 16 = .ok (.putfield 497, 3) := by decide +kernel
theorem dX12_plays_19 : decode cX12_plays 19 = .ok (.aload_n 0, 1) := by decide +kernel
theorem dX12_plays_20 : decode cX12_plays 20 = .ok (.iconst 0, 1) := by decide +kernel
theorem dX12_plays_21 : decode cX12_plays 21 = .ok (.putfield 470, 3) := by decide +kernel
theorem dX12_plays_24 : decode cX12_plays 24 = .ok (.aload_n 0, 1) := by decide +kernel
theorem dX12_plays_25 : decode cX12_plays 25 = .ok (.iconst 0, 1) := by decide +kernel
theorem dX12_plays_26 : decode cX12_plays 26 = .ok (.putfield 473, 3) := by decide +kernel
theorem dX12_plays_29 : decode cX12_plays 29 = .ok (.aload_n 0, 1) := by decide +kernel
theorem dX12_plays_30 : decode cX12_plays 30 = .ok (.iconst (-1), 1) := by decide +kernel
theorem dX12_plays_31 : decode cX12_plays 31 = .ok (.putfield 476, 3) := by decide +kernel
theorem dX12_plays_34 : decode cX12_plays 34 = .ok (.aload_n 0, 1) := by decide +kernel
theorem dX12_plays_35 : decode cX12_plays 35 = .ok (.iconst 3, 1) := by decide +kernel
theorem dX12_plays_36 : decode cX12_plays 36 = .ok (.putfield 78, 3) := by decide +kernel
theorem dX12_plays_39 : decode cX12_plays 39 = .ok (.aload_n 0, 1) := by decide +kernel
theorem dX12_plays_40 : decode cX12_plays 40 = .ok (.invokevirtual 500, 3) := by decide +kernel
theorem dX12_plays_43 : decode cX12_plays 43 = .ok (.iconst 0, 1) := by decide +kernel
theorem dX12_plays_44 : decode cX12_plays 44 = .ok (.istore 4, 2) := by decide +kernel
theorem dX12_plays_46 : decode cX12_plays 46 = .ok (.iload 4, 2) := by decide +kernel
theorem dX12_plays_48 : decode cX12_plays 48 = .ok (.iconst (-1), 1) := by decide +kernel
theorem dX12_plays_49 : decode cX12_plays 49 = .ok (.if_icmp .eq 51, 3) := by decide +kernel
theorem dX12_plays_52 : decode cX12_plays 52 = .ok (.iload 4, 2) := by decide +kernel
theorem dX12_plays_54 : decode cX12_plays 54 = .ok (.aload_n 0, 1) := by decide +kernel
theorem dX12_plays_55 : decode cX12_plays 55 = .ok (.getfield 7, 3) := by decide +kernel
theorem dX12_plays_58 : decode cX12_plays 58 = .ok (.bipush 14, 2) := by decide +kernel
theorem dX12_plays_60 : decode cX12_plays 60 = .ok (.iaload, 1) := by decide +kernel
theorem dX12_plays_61 : decode cX12_plays 61 = .ok (.if_icmp .ge 39, 3) := by decide +kernel
theorem dX12_plays_64 : decode cX12_plays 64 = .ok (.aload_n 0, 1) := by decide +kernel
theorem dX12_plays_65 : decode cX12_plays 65 = .ok (.getfield 497, 3) := by decide +kernel
theorem dX12_plays_68 : decode cX12_plays 68 = .ok (.bipush 100, 2) := by decide +kernel
theorem dX12_plays_70 : decode cX12_plays 70 = .ok (.if_icmp .ge 30, 3) := by decide +kernel
theorem dX12_plays_73 : decode cX12_plays 73 = .ok (.aload_n 0, 1) := by decide +kernel
theorem dX12_plays_74 : decode cX12_plays 74 = .ok (.aload_n 0, 1) := by decide +kernel
theorem dX12_plays_75 : decode cX12_plays 75 = .ok (.iload 4, 2) := by decide +kernel
theorem dX12_plays_77 : decode cX12_plays 77 = .ok (.iload_n 1, 1) := by decide +kernel
theorem dX12_plays_78 : decode cX12_plays 78 = .ok (.iload_n 2, 1) := by decide +kernel
theorem dX12_plays_79 : decode cX12_plays 79 = .ok (.invokevirtual 503, 3) := by decide +kernel
theorem dX12_plays_82 : decode cX12_plays 82 = .ok (.invokevirtual 506, 3) := by decide +kernel
theorem dX12_plays_85 : decode cX12_plays 85 = .ok (.istore 4, 2) := by decide +kernel
theorem dX12_plays_87 : decode cX12_plays 87 = .ok (.aload_n 0, 1) := by decide +kernel
theorem dX12_plays_88 : decode cX12_plays 88 = .ok (.dup, 1) := by decide +kernel
theorem dX12_plays_89 : decode cX12_plays 89 = .ok (.getfield 497, 3) := by decide +kernel
theorem dX12_plays_92 : decode cX12_plays 92 = .ok (.iconst 1, 1) := by decide +kernel
theorem dX12_plays_93 : decode cX12_plays 93 = .ok (.iadd, 1) := by decide +kernel
theorem dX12_plays_94 : decode cX12_plays 94 = .ok (.putfield 497, 3) := by decide +kernel
theorem dX12_plays_97 : decode cX12_plays 97 = .ok (.goto (-51), 3) := by decide +kernel
theorem dX12_plays_100 : decode cX12_plays 100 = .ok (.aload_n 0, 1) := by decide +kernel
theorem dX12_plays_101 : decode cX12_plays 101 = .ok (.iload 4, 2) := by decide +kernel
theorem dX12_plays_103 : decode cX12_plays 103 = .ok (.iconst (-1), 1) := by decide +kernel
theorem dX12_plays_104 : decode cX12_plays 104 = .ok (.if_icmp .eq 19, 3) := by decide +kernel
theorem dX12_plays_107 : decode cX12_plays 107 = .ok (.iload 4, 2) := by decide +kernel
theorem dX12_plays_109 : decode cX12_plays 109 = .ok (.aload_n 0, 1) := by decide +kernel
theorem dX12_plays_110 : decode cX12_plays 110 = .ok (.getfield 7, 3) := by decide +kernel
theorem dX12_plays_113 : decode cX12_plays 113 = .ok (.bipush 14, 2) := by decide +kernel
theorem dX12_plays_115 : decode cX12_plays 115 = .ok (.iaload, 1) := by decide +kernel
theorem dX12_plays_116 : decode cX12_plays 116 = .ok (.if_icmp .ge 7, 3) := by decide +kernel
theorem dX12_plays_119 : decode cX12_plays 119 = .ok (.iconst 1, 1) := by decide +kernel
theorem dX12_plays_120 : decode cX12_plays 120 = .ok (.goto 4, 3) := by decide +kernel
theorem dX12_plays_123 : decode cX12_plays 123 = .ok (.iconst 0, 1) := by decide +kernel
theorem dX12_plays_124 : decode cX12_plays 124 = .ok (.putfield 509, 3) := by decide +kernel
theorem dX12_plays_127 : decode cX12_plays 127 = .ok (.aload_n 0, 1) := by decide +kernel
theorem dX12_plays_128 : decode cX12_plays 128 = .ok (.invokevirtual 444, 3) := by decide +kernel
theorem dX12_plays_131 : decode cX12_plays 131 = .ok (.return_, 1) := by decide +kernel
theorem dX12_play_0 : decode cX12_play 0 = .ok (.aload_n 0, 1) := by decide +kernel
theorem dX12_play_1 : decode cX12_play 1 = .ok (.iload_n 1, 1) := by decide +kernel
theorem dX12_play_2 : decode cX12_play 2 = .ok (.iload_n 2, 1) := by decide +kernel
theorem dX12_play_3 : decode cX12_play 3 = .ok (.invokevirtual 378, 3) := by decide +kernel
theorem dX12_play_6 : decode cX12_play 6 = .ok (.ifCond .eq 15, 3) := by decide +kernel
theorem dX12_play_9 : decode cX12_play 9 = .ok (.iload_n 3, 1) := by decide +kernel
theorem dX12_play_10 : decode cX12_play 10 = .ok (.i2l, 1) := by decide +kernel
theorem dX12_play_11 : decode cX12_play 11 = .ok (.lconst 0, 1) := by decide +kernel
theorem dX12_play_12 : decode cX12_play 12 = .ok (.ldc2_w 512, 3) := by decide +kernel
theorem dX12_play_15 : decode cX12_play 15 = .ok (.invokestatic 281, 3) := by decide +kernel
theorem dX12_play_18 : decode cX12_play 18 = .ok (.ifCond .ne 9, 3) := by decide +kernel
theorem dX12_play_21 : decode cX12_play 21 = .ok (.aload_n 0, 1) := by decide +kernel
theorem dX12_play_22 : decode cX12_play 22 = .ok (.iconst 1, 1) := by decide +kernel
theorem dX12_play_23 : decode cX12_play 23 = .ok (.invokevirtual 185, 3) := by decide +kernel
theorem dX12_play_26 : decode cX12_play 26 = .ok (.ireturn, 1) := by decide +kernel
theorem dX12_play_27 : decode cX12_play 27 = .ok (.aload_n 0, 1) := by decide +kernel
theorem dX12_play_28 : decode cX12_play 28 = .ok (.iload_n 1, 1) := by decide +kernel
theorem dX12_play_29 : decode cX12_play 29 = .ok (.iload_n 2, 1) := by decide +kernel
theorem dX12_play_30 : decode cX12_play 30 = .ok (.iload_n 3, 1) := by decide +kernel
theorem dX12_play_31 : decode cX12_play 31 = .ok (.invokevirtual 514, 3) := by decide +kernel
theorem dX12_play_34 : decode cX12_play 34 = .ok (.aload_n 0, 1) := by decide +kernel
theorem dX12_play_35 : decode cX12_play 35 = .ok (.invokevirtual 517, 3) := by decide +kernel
theorem dX12_play_38 : decode cX12_play 38 = .ok (.aload_n 0, 1) := by decide +kernel
theorem dX12_play_39 : decode cX12_play 39 = .ok (.aload_n 0, 1) := by decide +kernel
theorem dX12_play_40 : decode cX12_play 40 = .ok (.getfield 78, 3) := by decide +kernel
theorem dX12_play_43 : decode cX12_play 43 = .ok (.invokevirtual 188, 3) := by decide +kernel
theorem dX12_play_46 : decode cX12_play 46 = .ok (.ireturn, 1) := by decide +kernel
theorem dX12_tellsPlayed_0 : decode cX12_tellsPlayed 0 = .ok (.aload_n 0, 1) := by decide +kernel
theorem dX12_tellsPlayed_1 : decode cX12_tellsPlayed 1 = .ok (.getfield 84, 3) := by decide +kernel
theorem dX12_tellsPlayed_4 : decode cX12_tellsPlayed 4 = .ok (.iconst 0, 1) := by decide +kernel
theorem dX12_tellsPlayed_5 : decode cX12_tellsPlayed 5 = .ok (.aload_n 0, 1) := by decide +kernel
theorem dX12_tellsPlayed_6 : decode cX12_tellsPlayed 6 = .ok (.getfield 467, 3) := by decide +kernel
theorem dX12_tellsPlayed_9 : decode cX12_tellsPlayed 9 = .ok (.iastore, 1) := by decide +kernel
theorem dX12_tellsPlayed_10 : decode cX12_tellsPlayed 10 = .ok (.aload_n 0, 1) := by decide +kernel
theorem dX12_tellsPlayed_11 : decode cX12_tellsPlayed 11 = .ok (.getfield 84, 3) := by decide +kernel
theorem dX12_tellsPlayed_14 : decode cX12_tellsPlayed 14 = .ok (.iconst 1, 1) := by decide +kernel
theorem dX12_tellsPlayed_15 : decode cX12_tellsPlayed 15 = .ok (.aload_n 0, 1) := by decide +kernel
theorem dX12_tellsPlayed_16 : decode cX12_tellsPlayed 16 = .ok (.getfield 497, 3) := by decide +kernel
theorem dX12_tellsPlayed_19 : decode cX12_tellsPlayed 19 = .ok (.iastore, 1) := by decide +kernel
theorem dX12_tellsPlayed_20 : decode cX12_tellsPlayed 20 = .ok (.aload_n 0, 1) := by decide +kernel
theorem dX12_tellsPlayed_21 : decode cX12_tellsPlayed 21 = .ok (.getfield 84, 3) := by decide +kernel
theorem dX12_tellsPlayed_24 : decode cX12_tellsPlayed 24 = .ok (.iconst 2, 1) := by decide +kernel
theorem dX12_tellsPlayed_25 : decode cX12_tellsPlayed 25 = .ok (.aload_n 0, 1) := by decide +kernel
theorem dX12_tellsPlayed_26 : decode cX12_tellsPlayed 26 = .ok (.getfield 470, 3) := by decide +kernel
theorem dX12_tellsPlayed_29 : decode cX12_tellsPlayed 29 = .ok (.iastore, 1) := by decide +kernel
theorem dX12_tellsPlayed_30 : decode cX12_tellsPlayed 30 = .ok (.aload_n 0, 1) := by decide +kernel
theorem dX12_tellsPlayed_31 : decode cX12_tellsPlayed 31 = .ok (.getfield 84, 3) := by decide +kernel
theorem dX12_tellsPlayed_34 : decode cX12_tellsPlayed 34 = .ok (.iconst 3, 1) := by decide +kernel
theorem dX12_tellsPlayed_35 : decode cX12_tellsPlayed 35 = .ok (.aload_n 0, 1) := by decide +kernel
theorem dX12_tellsPlayed_36 : decode cX12_tellsPlayed 36 = .ok (.getfield 473, 3) := by decide +kernel
theorem dX12_tellsPlayed_39 : decode cX12_tellsPlayed 39 = .ok (.iastore, 1) := by decide +kernel
theorem dX12_tellsPlayed_40 : decode cX12_tellsPlayed 40 = .ok (.aload_n 0, 1) := by decide +kernel
theorem dX12_tellsPlayed_41 : decode cX12_tellsPlayed 41 = .ok (.getfield 84, 3) := by decide +kernel
theorem dX12_tellsPlayed_44 : decode cX12_tellsPlayed 44 = .ok (.iconst 4, 1) := by decide +kernel
theorem dX12_tellsPlayed_45 : decode cX12_tellsPlayed 45 = .ok (.aload_n 0, 1) := by decide +kernel
theorem dX12_tellsPlayed_46 : decode cX12_tellsPlayed 46 = .ok (.getfield 462, 3) := by decide +kernel
theorem dX12_tellsPlayed_49 : decode cX12_tellsPlayed 49 = .ok (.iastore, 1) := by decide +kernel
theorem dX12_tellsPlayed_50 : decode cX12_tellsPlayed 50 = .ok (.aload_n 0, 1) := by decide +kernel
theorem dX12_tellsPlayed_51 : decode cX12_tellsPlayed 51 = .ok (.getfield 84, 3) := by decide +kernel
theorem dX12_tellsPlayed_54 : decode cX12_tellsPlayed 54 = .ok (.iconst 5, 1) := by decide +kernel
theorem dX12_tellsPlayed_55 : decode cX12_tellsPlayed 55 = .ok (.aload_n 0, 1) := by decide +kernel
theorem dX12_tellsPlayed_56 : decode cX12_tellsPlayed 56 = .ok (.getfield 476, 3) := by decide +kernel
theorem dX12_tellsPlayed_59 : decode cX12_tellsPlayed 59 = .ok (.iastore, 1) := by decide +kernel
theorem dX12_tellsPlayed_60 : decode cX12_tellsPlayed 60 = .ok (.aload_n 0, 1) := by decide +kernel
theorem dX12_tellsPlayed_61 : decode cX12_tellsPlayed 61 = .ok (.getfield 84, 3) := by decide +kernel
theorem dX12_tellsPlayed_64 : decode cX12_tellsPlayed 64 = .ok (.bipush 6, 2) := by decide +kernel
theorem dX12_tellsPlayed_66 : decode cX12_tellsPlayed 66 = .ok (.aload_n 0, 1) := by decide +kernel
theorem dX12_tellsPlayed_67 : decode cX12_tellsPlayed 67 = .ok (.getfield 509, 3) := by decide +kernel
theorem dX12_tellsPlayed_70 : decode cX12_tellsPlayed 70 = .ok (.iastore, 1) := by decide +kernel
theorem dX12_tellsPlayed_71 : decode cX12_tellsPlayed 71 = .ok (.aload_n 0, 1) := by decide +kernel
theorem dX12_tellsPlayed_72 : decode cX12_tellsPlayed 72 = .ok (.iconst 1, 1) := by decide +kernel
theorem dX12_tellsPlayed_73 : decode cX12_tellsPlayed 73 = .ok (.putfield 520, 3) := by decide +kernel
theorem dX12_tellsPlayed_76 : decode cX12_tellsPlayed 76 = .ok (.return_, 1) := by decide +kernel
theorem dX12_played_0 : decode cX12_played 0 = .ok (.iload_n 1, 1) := by decide +kernel
theorem dX12_played_1 : decode cX12_played 1 = .ok (.ifCond .lt 9, 3) := by decide +kernel
theorem dX12_played_4 : decode cX12_played 4 = .ok (.iload_n 1, 1) := by decide +kernel
theorem dX12_played_5 : decode cX12_played 5 = .ok (.bipush 6, 2) := by decide +kernel
theorem dX12_played_7 : decode cX12_played 7 = .ok (.if_icmp .le 11, 3) := by decide +kernel
theorem dX12_played_10 : decode cX12_played 10 = .ok (.aload_n 0, 1) := by decide +kernel
theorem dX12_played_11 : decode cX12_played 11 = .ok (.iconst 1, 1) := by decide +kernel
theorem dX12_played_12 : decode cX12_played 12 = .ok (.invokevirtual 185, 3) := by decide +kernel
theorem dX12_played_15 : decode cX12_played 15 = .ok (.goto 29, 3) := by decide +kernel
theorem dX12_played_18 : decode cX12_played 18 = .ok (.aload_n 0, 1) := by decide +kernel
theorem dX12_played_19 : decode cX12_played 19 = .ok (.getfield 520, 3) := by decide +kernel
theorem dX12_played_22 : decode cX12_played 22 = .ok (.ifCond .ne 12, 3) := by decide +kernel
theorem dX12_played_25 : decode cX12_played 25 = .ok (.aload_n 0, 1) := by decide +kernel
theorem dX12_played_26 : decode cX12_played 26 = .ok (.bipush 6, 2) := by decide +kernel
theorem dX12_played_28 : decode cX12_played 28 = .ok (.invokevirtual 185, 3) := by decide +kernel
theorem dX12_played_31 : decode cX12_played 31 = .ok (.goto 13, 3) := by decide +kernel
theorem dX12_played_34 : decode cX12_played 34 = .ok (.aload_n 0, 1) := by decide +kernel
theorem dX12_played_35 : decode cX12_played 35 = .ok (.aload_n 0, 1) := by decide +kernel
theorem dX12_played_36 : decode cX12_played 36 = .ok (.getfield 84, 3) := by decide +kernel
theorem dX12_played_39 : decode cX12_played 39 = .ok (.iload_n 1, 1) := by decide +kernel
theorem dX12_played_40 : decode cX12_played 40 = .ok (.iaload, 1) := by decide +kernel
theorem dX12_played_41 : decode cX12_played 41 = .ok (.invokevirtual 188, 3) := by decide +kernel
theorem dX12_played_44 : decode cX12_played 44 = .ok (.ireturn, 1) := by decide +kernel
theorem dX12_tally_0 : decode cX12_tally 0 = .ok (.aload_n 0, 1) := by decide +kernel
theorem dX12_tally_1 : decode cX12_tally 1 = .ok (.iload_n 1, 1) := by decide +kernel
theorem dX12_tally_2 : decode cX12_tally 2 = .ok (.iload_n 2, 1) := by decide +kernel
theorem dX12_tally_3 : decode cX12_tally 3 = .ok (.invokevirtual 378, 3) := by decide +kernel
theorem dX12_tally_6 : decode cX12_tally 6 = .ok (.ifCond .eq 51, 3) := by decide +kernel
theorem dX12_tally_9 : decode cX12_tally 9 = .ok (.iload_n 3, 1) := by decide +kernel
theorem dX12_tally_10 : decode cX12_tally 10 = .ok (.i2l, 1) := by decide +kernel
theorem dX12_tally_11 : decode cX12_tally 11 = .ok (.lconst 0, 1) := by decide +kernel
theorem dX12_tally_12 : decode cX12_tally 12 = .ok (.ldc2_w 512, 3) := by decide +kernel
theorem dX12_tally_15 : decode cX12_tally 15 = .ok (.invokestatic 281, 3) := by decide +kernel
theorem dX12_tally_18 : decode cX12_tally 18 = .ok (.ifCond .eq 39, 3) := by decide +kernel
theorem dX12_tally_21 : decode cX12_tally 21 = .ok (.iload 4, 2) := by decide +kernel
theorem dX12_tally_23 : decode cX12_tally 23 = .ok (.i2l, 1) := by decide +kernel
theorem dX12_tally_24 : decode cX12_tally 24 = .ok (.lconst 1, 1) := by decide +kernel
theorem dX12_tally_25 : decode cX12_tally 25 = .ok (.ldc2_w 324, 3) := by decide +kernel
theorem dX12_tally_28 : decode cX12_tally 28 = .ok (.invokestatic 281, 3) := by decide +kernel
theorem dX12_tally_31 : decode cX12_tally 31 = .ok (.ifCond .eq 26, 3) := by decide +kernel
theorem dX12_tally_34 : decode cX12_tally 34 = .ok (.iload_n 3, 1) := by decide +kernel
theorem dX12_tally_35 : decode cX12_tally 35 = .ok (.iload 4, 2) := by decide +kernel
theorem dX12_tally_37 : decode cX12_tally 37 = .ok (.iadd, 1) := by decide +kernel
theorem dX12_tally_38 : decode cX12_tally 38 = .ok (.iconst 1, 1) := by decide +kernel
theorem dX12_tally_39 : decode cX12_tally 39 = .ok (.isub, 1) := by decide +kernel
theorem dX12_tally_40 : decode cX12_tally 40 = .ok (.sipush 9999, 3) := by decide +kernel
theorem dX12_tally_43 : decode cX12_tally 43 = .ok (.if_icmp .gt 14, 3) := by decide +kernel
theorem dX12_tally_46 : decode cX12_tally 46 = .ok (.iload 5, 2) := by decide +kernel
theorem dX12_tally_48 : decode cX12_tally 48 = .ok (.ifCond .lt 9, 3) := by decide +kernel
theorem dX12_tally_51 : decode cX12_tally 51 = .ok (.iload 5, 2) := by decide +kernel
theorem dX12_tally_53 : decode cX12_tally 53 = .ok (.iconst 3, 1) := by decide +kernel
theorem dX12_tally_54 : decode cX12_tally 54 = .ok (.if_icmp .le 9, 3) := by decide +kernel
theorem dX12_tally_57 : decode cX12_tally 57 = .ok (.aload_n 0, 1) := by decide +kernel
theorem dX12_tally_58 : decode cX12_tally 58 = .ok (.iconst 1, 1) := by decide +kernel
theorem dX12_tally_59 : decode cX12_tally 59 = .ok (.invokevirtual 185, 3) := by decide +kernel
theorem dX12_tally_62 : decode cX12_tally 62 = .ok (.ireturn, 1) := by decide +kernel
theorem dX12_tally_63 : decode cX12_tally 63 = .ok (.iconst 0, 1) := by decide +kernel
theorem dX12_tally_64 : decode cX12_tally 64 = .ok (.istore 6, 2) := by decide +kernel
theorem dX12_tally_66 : decode cX12_tally 66 = .ok (.iconst 0, 1) := by decide +kernel
theorem dX12_tally_67 : decode cX12_tally 67 = .ok (.istore 7, 2) := by decide +kernel
theorem dX12_tally_69 : decode cX12_tally 69 = .ok (.iload 7, 2) := by decide +kernel
theorem dX12_tally_71 : decode cX12_tally 71 = .ok (.iload 4, 2) := by decide +kernel
theorem dX12_tally_73 : decode cX12_tally 73 = .ok (.if_icmp .ge 38, 3) := by decide +kernel
theorem dX12_tally_76 : decode cX12_tally 76 = .ok (.aload_n 0, 1) := by decide +kernel
theorem dX12_tally_77 : decode cX12_tally 77 = .ok (.iload_n 1, 1) := by decide +kernel
theorem dX12_tally_78 : decode cX12_tally 78 = .ok (.iload_n 2, 1) := by decide +kernel
theorem dX12_tally_79 : decode cX12_tally 79 = .ok (.iload_n 3, 1) := by decide +kernel
theorem dX12_tally_80 : decode cX12_tally 80 = .ok (.iload 7, 2) := by decide +kernel
theorem dX12_tally_82 : decode cX12_tally 82 = .ok (.iadd, 1) := by decide +kernel
theorem dX12_tally_83 : decode cX12_tally 83 = .ok (.invokevirtual 514, 3) := by decide +kernel
theorem dX12_tally_86 : decode cX12_tally 86 = .ok (.iload 6, 2) := by decide +kernel
theorem dX12_tally_88 : decode cX12_tally 88 = .ok (.aload_n 0, 1) := by decide +kernel
theorem dX12_tally_89 : decode cX12_tally 89 = .ok (.getfield 78, 3) := by decide +kernel
theorem dX12_tally_92 : decode cX12_tally 92 = .ok (.iload 5, 2) := by decide +kernel
theorem dX12_tally_94 : decode cX12_tally 94 = .ok (.if_icmp .ne 7, 3) := by decide +kernel
theorem dX12_tally_97 : decode cX12_tally 97 = .ok (.iconst 1, 1) := by decide +kernel
theorem dX12_tally_98 : decode cX12_tally 98 = .ok (.goto 4, 3) := by decide +kernel
theorem dX12_tally_101 : decode cX12_tally 101 = .ok (.iconst 0, 1) := by decide +kernel
theorem dX12_tally_102 : decode cX12_tally 102 = .ok (.iadd, 1) := by decide +kernel
theorem dX12_tally_103 : decode cX12_tally 103 = .ok (.istore 6, 2) := by decide +kernel
theorem dX12_tally_105 : decode cX12_tally 105 = .ok (.iinc 7 1, 3) := by decide +kernel
theorem dX12_tally_108 : decode cX12_tally 108 = .ok (.goto (-39), 3) := by decide +kernel
theorem dX12_tally_111 : decode cX12_tally 111 = .ok (.aload_n 0, 1) := by decide +kernel
theorem dX12_tally_112 : decode cX12_tally 112 = .ok (.iload 6, 2) := by decide +kernel
theorem dX12_tally_114 : decode cX12_tally 114 = .ok (.invokevirtual 188, 3) := by decide +kernel
theorem dX12_tally_117 : decode cX12_tally 117 = .ok (.ireturn, 1) := by decide +kernel
theorem dX12_copies_0 : decode cX12_copies 0 = .ok (.iconst 0, 1) := by decide +kernel
theorem dX12_copies_1 : decode cX12_copies 1 = .ok (.istore_n 3, 1) := by decide +kernel
theorem dX12_copies_2 : decode cX12_copies 2 = .ok (.iload_n 3, 1) := by decide +kernel
theorem dX12_copies_3 : decode cX12_copies 3 = .ok (.sipush 440, 3) := by decide +kernel
theorem dX12_copies_6 : decode cX12_copies 6 = .ok (.if_icmp .ge 33, 3) := by decide +kernel
theorem dX12_copies_9 : decode cX12_copies 9 = .ok (.aload_n 0, 1) := by decide +kernel
theorem dX12_copies_10 : decode cX12_copies 10 = .ok (.getfield 7, 3) := by decide +kernel
theorem dX12_copies_13 : decode cX12_copies 13 = .ok (.sipush 440, 3) := by decide +kernel
theorem dX12_copies_16 : decode cX12_copies 16 = .ok (.iload_n 2, 1) := by decide +kernel
theorem dX12_copies_17 : decode cX12_copies 17 = .ok (.imul, 1) := by decide +kernel
theorem dX12_copies_18 : decode cX12_copies 18 = .ok (.iload_n 3, 1) := by decide +kernel
theorem dX12_copies_19 : decode cX12_copies 19 = .ok (.iadd, 1) := by decide +kernel
theorem dX12_copies_20 : decode cX12_copies 20 = .ok (.aload_n 0, 1) := by decide +kernel
theorem dX12_copies_21 : decode cX12_copies 21 = .ok (.getfield 7, 3) := by decide +kernel
theorem dX12_copies_24 : decode cX12_copies 24 = .ok (.sipush 440, 3) := by decide +kernel
theorem dX12_copies_27 : decode cX12_copies 27 = .ok (.iload_n 1, 1) := by decide +kernel
theorem dX12_copies_28 : decode cX12_copies 28 = .ok (.imul, 1) := by decide +kernel
theorem dX12_copies_29 : decode cX12_copies 29 = .ok (.iload_n 3, 1) := by decide +kernel
theorem dX12_copies_30 : decode cX12_copies 30 = .ok (.iadd, 1) := by decide +kernel
theorem dX12_copies_31 : decode cX12_copies 31 = .ok (.iaload, 1) := by decide +kernel
theorem dX12_copies_32 : decode cX12_copies 32 = .ok (.iastore, 1) := by decide +kernel
theorem dX12_copies_33 : decode cX12_copies 33 = .ok (.iinc 3 1, 3) := by decide +kernel
theorem dX12_copies_36 : decode cX12_copies 36 = .ok (.goto (-34), 3) := by decide +kernel
theorem dX12_copies_39 : decode cX12_copies 39 = .ok (.iconst 0, 1) := by decide +kernel
theorem dX12_copies_40 : decode cX12_copies 40 = .ok (.istore_n 3, 1) := by decide +kernel
theorem dX12_copies_41 : decode cX12_copies 41 = .ok (.iload_n 3, 1) := by decide +kernel
theorem dX12_copies_42 : decode cX12_copies 42 = .ok (.iconst 5, 1) := by decide +kernel
theorem dX12_copies_43 : decode cX12_copies 43 = .ok (.if_icmp .ge 29, 3) := by decide +kernel
theorem dX12_copies_46 : decode cX12_copies 46 = .ok (.aload_n 0, 1) := by decide +kernel
theorem dX12_copies_47 : decode cX12_copies 47 = .ok (.getfield 13, 3) := by decide +kernel
theorem dX12_copies_50 : decode cX12_copies 50 = .ok (.iconst 5, 1) := by decide +kernel
theorem dX12_copies_51 : decode cX12_copies 51 = .ok (.iload_n 2, 1) := by decide +kernel
theorem dX12_copies_52 : decode cX12_copies 52 = .ok (.imul, 1) := by decide +kernel
theorem dX12_copies_53 : decode cX12_copies 53 = .ok (.iload_n 3, 1) := by decide +kernel
theorem dX12_copies_54 : decode cX12_copies 54 = .ok (.iadd, 1) := by decide +kernel
theorem dX12_copies_55 : decode cX12_copies 55 = .ok (.aload_n 0, 1) := by decide +kernel
theorem dX12_copies_56 : decode cX12_copies 56 = .ok (.getfield 13, 3) := by decide +kernel
theorem dX12_copies_59 : decode cX12_copies 59 = .ok (.iconst 5, 1) := by decide +kernel
theorem dX12_copies_60 : decode cX12_copies 60 = .ok (.iload_n 1, 1) := by decide +kernel
theorem dX12_copies_61 : decode cX12_copies 61 = .ok (.imul, 1) := by decide +kernel
theorem dX12_copies_62 : decode cX12_copies 62 = .ok (.iload_n 3, 1) := by decide +kernel
theorem dX12_copies_63 : decode cX12_copies 63 = .ok (.iadd, 1) := by decide +kernel
theorem dX12_copies_64 : decode cX12_copies 64 = .ok (.laload, 1) := by decide +kernel
theorem dX12_copies_65 : decode cX12_copies 65 = .ok (.lastore, 1) := by decide +kernel
theorem dX12_copies_66 : decode cX12_copies 66 = .ok (.iinc 3 1, 3) := by decide +kernel
theorem dX12_copies_69 : decode cX12_copies 69 = .ok (.goto (-28), 3) := by decide +kernel
theorem dX12_copies_72 : decode cX12_copies 72 = .ok (.return_, 1) := by decide +kernel
theorem dX12_mark_0 : decode cX12_mark 0 = .ok (.aload_n 0, 1) := by decide +kernel
theorem dX12_mark_1 : decode cX12_mark 1 = .ok (.getfield 524, 3) := by decide +kernel
theorem dX12_mark_4 : decode cX12_mark 4 = .ok (.iconst 3, 1) := by decide +kernel
theorem dX12_mark_5 : decode cX12_mark 5 = .ok (.if_icmp .ne 9, 3) := by decide +kernel
theorem dX12_mark_8 : decode cX12_mark 8 = .ok (.aload_n 0, 1) := by decide +kernel
theorem dX12_mark_9 : decode cX12_mark 9 = .ok (.iconst 4, 1) := by decide +kernel
theorem dX12_mark_10 : decode cX12_mark 10 = .ok (.invokevirtual 185, 3) := by decide +kernel
theorem dX12_mark_13 : decode cX12_mark 13 = .ok (.ireturn, 1) := by decide +kernel
theorem dX12_mark_14 : decode cX12_mark 14 = .ok (.aload_n 0, 1) := by decide +kernel
theorem dX12_mark_15 : decode cX12_mark 15 = .ok (.dup, 1) := by decide +kernel
theorem dX12_mark_16 : decode cX12_mark 16 = .ok (.getfield 524, 3) := by decide +kernel
theorem dX12_mark_19 : decode cX12_mark 19 = .ok (.iconst 1, 1) := by decide +kernel
theorem dX12_mark_20 : decode cX12_mark 20 = .ok (.iadd, 1) := by decide +kernel
theorem dX12_mark_21 : decode cX12_mark 21 = .ok (.putfield 524, 3) := by decide +kernel
theorem dX12_mark_24 : decode cX12_mark 24 = .ok (.aload_n 0, 1) := by decide +kernel
theorem dX12_mark_25 : decode cX12_mark 25 = .ok (.iconst 0, 1) := by decide +kernel
theorem dX12_mark_26 : decode cX12_mark 26 = .ok (.aload_n 0, 1) := by decide +kernel
theorem dX12_mark_27 : decode cX12_mark 27 = .ok (.getfield 524, 3) := by decide +kernel
theorem dX12_mark_30 : decode cX12_mark 30 = .ok (.invokevirtual 527, 3) := by decide +kernel
theorem dX12_mark_33 : decode cX12_mark 33 = .ok (.aload_n 0, 1) := by decide +kernel
theorem dX12_mark_34 : decode cX12_mark 34 = .ok (.aload_n 0, 1) := by decide +kernel
theorem dX12_mark_35 : decode cX12_mark 35 = .ok (.getfield 524, 3) := by decide +kernel
theorem dX12_mark_38 : decode cX12_mark 38 = .ok (.invokevirtual 188, 3) := by decide +kernel
theorem dX12_mark_41 : decode cX12_mark 41 = .ok (.ireturn, 1) := by decide +kernel
theorem dX12_back_0 : decode cX12_back 0 = .ok (.aload_n 0, 1) := by decide +kernel
theorem dX12_back_1 : decode cX12_back 1 = .ok (.getfield 524, 3) := by decide +kernel
theorem dX12_back_4 : decode cX12_back 4 = .ok (.ifCond .ne 10, 3) := by decide +kernel
theorem dX12_back_7 : decode cX12_back 7 = .ok (.aload_n 0, 1) := by decide +kernel
theorem dX12_back_8 : decode cX12_back 8 = .ok (.bipush 6, 2) := by decide +kernel
theorem dX12_back_10 : decode cX12_back 10 = .ok (.invokevirtual 185, 3) := by decide +kernel
theorem dX12_back_13 : decode cX12_back 13 = .ok (.ireturn, 1) := by decide +kernel
theorem dX12_back_14 : decode cX12_back 14 = .ok (.aload_n 0, 1) := by decide +kernel
theorem dX12_back_15 : decode cX12_back 15 = .ok (.aload_n 0, 1) := by decide +kernel
theorem dX12_back_16 : decode cX12_back 16 = .ok (.getfield 524, 3) := by decide +kernel
theorem dX12_back_19 : decode cX12_back 19 = .ok (.iconst 0, 1) := by decide +kernel
theorem dX12_back_20 : decode cX12_back 20 = .ok (.invokevirtual 527, 3) := by decide +kernel
theorem dX12_back_23 : decode cX12_back 23 = .ok (.aload_n 0, 1) := by decide +kernel
theorem dX12_back_24 : decode cX12_back 24 = .ok (.dup, 1) := by decide +kernel
theorem dX12_back_25 : decode cX12_back 25 = .ok (.getfield 524, 3) := by decide +kernel
theorem dX12_back_28 : decode cX12_back 28 = .ok (.iconst 1, 1) := by decide +kernel
theorem dX12_back_29 : decode cX12_back 29 = .ok (.isub, 1) := by decide +kernel
theorem dX12_back_30 : decode cX12_back 30 = .ok (.putfield 524, 3) := by decide +kernel
theorem dX12_back_33 : decode cX12_back 33 = .ok (.aload_n 0, 1) := by decide +kernel
theorem dX12_back_34 : decode cX12_back 34 = .ok (.dup, 1) := by decide +kernel
theorem dX12_back_35 : decode cX12_back 35 = .ok (.getfield 240, 3) := by decide +kernel
theorem dX12_back_38 : decode cX12_back 38 = .ok (.iconst 1, 1) := by decide +kernel
theorem dX12_back_39 : decode cX12_back 39 = .ok (.iadd, 1) := by decide +kernel
theorem dX12_back_40 : decode cX12_back 40 = .ok (.putfield 240, 3) := by decide +kernel
theorem dX12_back_43 : decode cX12_back 43 = .ok (.aload_n 0, 1) := by decide +kernel
theorem dX12_back_44 : decode cX12_back 44 = .ok (.aload_n 0, 1) := by decide +kernel
theorem dX12_back_45 : decode cX12_back 45 = .ok (.getfield 524, 3) := by decide +kernel
theorem dX12_back_48 : decode cX12_back 48 = .ok (.invokevirtual 188, 3) := by decide +kernel
theorem dX12_back_51 : decode cX12_back 51 = .ok (.ireturn, 1) := by decide +kernel
theorem dJ6_bitCount_0f7a4_0 : decode cJ6_bitCount_0f7a4 0 = .ok (.iload_n 0, 1) := by decide +kernel
theorem dJ6_bitCount_0f7a4_1 : decode cJ6_bitCount_0f7a4 1 = .ok (.iload_n 0, 1) := by decide +kernel
theorem dJ6_bitCount_0f7a4_2 : decode cJ6_bitCount_0f7a4 2 = .ok (.iconst 1, 1) := by decide +kernel
theorem dJ6_bitCount_0f7a4_3 : decode cJ6_bitCount_0f7a4 3 = .ok (.iushr, 1) := by decide +kernel
theorem dJ6_bitCount_0f7a4_4 : decode cJ6_bitCount_0f7a4 4 = .ok (.ldc_w 265, 3) := by decide +kernel
theorem dJ6_bitCount_0f7a4_7 : decode cJ6_bitCount_0f7a4 7 = .ok (.iand, 1) := by decide +kernel
theorem dJ6_bitCount_0f7a4_8 : decode cJ6_bitCount_0f7a4 8 = .ok (.isub, 1) := by decide +kernel
theorem dJ6_bitCount_0f7a4_9 : decode cJ6_bitCount_0f7a4 9 = .ok (.istore_n 0, 1) := by decide +kernel
theorem dJ6_bitCount_0f7a4_10 : decode cJ6_bitCount_0f7a4 10 = .ok (.iload_n 0, 1) := by decide +kernel
theorem dJ6_bitCount_0f7a4_11 : decode cJ6_bitCount_0f7a4 11 = .ok (.ldc_w 266, 3) := by decide +kernel
theorem dJ6_bitCount_0f7a4_14 : decode cJ6_bitCount_0f7a4 14 = .ok (.iand, 1) := by decide +kernel
theorem dJ6_bitCount_0f7a4_15 : decode cJ6_bitCount_0f7a4 15 = .ok (.iload_n 0, 1) := by decide +kernel
theorem dJ6_bitCount_0f7a4_16 : decode cJ6_bitCount_0f7a4 16 = .ok (.iconst 2, 1) := by decide +kernel
theorem dJ6_bitCount_0f7a4_17 : decode cJ6_bitCount_0f7a4 17 = .ok (.iushr, 1) := by decide +kernel
theorem dJ6_bitCount_0f7a4_18 : decode cJ6_bitCount_0f7a4 18 = .ok (.ldc_w 266, 3) := by decide +kernel
theorem dJ6_bitCount_0f7a4_21 : decode cJ6_bitCount_0f7a4 21 = .ok (.iand, 1) := by decide +kernel
theorem dJ6_bitCount_0f7a4_22 : decode cJ6_bitCount_0f7a4 22 = .ok (.iadd, 1) := by decide +kernel
theorem dJ6_bitCount_0f7a4_23 : decode cJ6_bitCount_0f7a4 23 = .ok (.istore_n 0, 1) := by decide +kernel
theorem dJ6_bitCount_0f7a4_24 : decode cJ6_bitCount_0f7a4 24 = .ok (.iload_n 0, 1) := by decide +kernel
theorem dJ6_bitCount_0f7a4_25 : decode cJ6_bitCount_0f7a4 25 = .ok (.iload_n 0, 1) := by decide +kernel
theorem dJ6_bitCount_0f7a4_26 : decode cJ6_bitCount_0f7a4 26 = .ok (.iconst 4, 1) := by decide +kernel
theorem dJ6_bitCount_0f7a4_27 : decode cJ6_bitCount_0f7a4 27 = .ok (.iushr, 1) := by decide +kernel
theorem dJ6_bitCount_0f7a4_28 : decode cJ6_bitCount_0f7a4 28 = .ok (.iadd, 1) := by decide +kernel
theorem dJ6_bitCount_0f7a4_29 : decode cJ6_bitCount_0f7a4 29 = .ok (.ldc_w 267, 3) := by decide +kernel
theorem dJ6_bitCount_0f7a4_32 : decode cJ6_bitCount_0f7a4 32 = .ok (.iand, 1) := by decide +kernel
theorem dJ6_bitCount_0f7a4_33 : decode cJ6_bitCount_0f7a4 33 = .ok (.istore_n 0, 1) := by decide +kernel
theorem dJ6_bitCount_0f7a4_34 : decode cJ6_bitCount_0f7a4 34 = .ok (.iload_n 0, 1) := by decide +kernel
theorem dJ6_bitCount_0f7a4_35 : decode cJ6_bitCount_0f7a4 35 = .ok (.iload_n 0, 1) := by decide +kernel
theorem dJ6_bitCount_0f7a4_36 : decode cJ6_bitCount_0f7a4 36 = .ok (.bipush 8, 2) := by decide +kernel
theorem dJ6_bitCount_0f7a4_38 : decode cJ6_bitCount_0f7a4 38 = .ok (.iushr, 1) := by decide +kernel
theorem dJ6_bitCount_0f7a4_39 : decode cJ6_bitCount_0f7a4 39 = .ok (.iadd, 1) := by decide +kernel
theorem dJ6_bitCount_0f7a4_40 : decode cJ6_bitCount_0f7a4 40 = .ok (.istore_n 0, 1) := by decide +kernel
theorem dJ6_bitCount_0f7a4_41 : decode cJ6_bitCount_0f7a4 41 = .ok (.iload_n 0, 1) := by decide +kernel
theorem dJ6_bitCount_0f7a4_42 : decode cJ6_bitCount_0f7a4 42 = .ok (.iload_n 0, 1) := by decide +kernel
theorem dJ6_bitCount_0f7a4_43 : decode cJ6_bitCount_0f7a4 43 = .ok (.bipush 16, 2) := by decide +kernel
theorem dJ6_bitCount_0f7a4_45 : decode cJ6_bitCount_0f7a4 45 = .ok (.iushr, 1) := by decide +kernel
theorem dJ6_bitCount_0f7a4_46 : decode cJ6_bitCount_0f7a4 46 = .ok (.iadd, 1) := by decide +kernel
theorem dJ6_bitCount_0f7a4_47 : decode cJ6_bitCount_0f7a4 47 = .ok (.istore_n 0, 1) := by decide +kernel
theorem dJ6_bitCount_0f7a4_48 : decode cJ6_bitCount_0f7a4 48 = .ok (.iload_n 0, 1) := by decide +kernel
theorem dJ6_bitCount_0f7a4_49 : decode cJ6_bitCount_0f7a4 49 = .ok (.bipush 63, 2) := by decide +kernel
theorem dJ6_bitCount_0f7a4_51 : decode cJ6_bitCount_0f7a4 51 = .ok (.iand, 1) := by decide +kernel
theorem dJ6_bitCount_0f7a4_52 : decode cJ6_bitCount_0f7a4 52 = .ok (.ireturn, 1) := by decide +kernel
theorem dJ9_abs_0f7a4_0 : decode cJ9_abs_0f7a4 0 = .ok (.iload_n 0, 1) := by decide +kernel
theorem dJ9_abs_0f7a4_1 : decode cJ9_abs_0f7a4 1 = .ok (.ifCond .ge 8, 3) := by decide +kernel
theorem dJ9_abs_0f7a4_4 : decode cJ9_abs_0f7a4 4 = .ok (.iload_n 0, 1) := by decide +kernel
theorem dJ9_abs_0f7a4_5 : decode cJ9_abs_0f7a4 5 = .ok (.ineg, 1) := by decide +kernel
theorem dJ9_abs_0f7a4_6 : decode cJ9_abs_0f7a4 6 = .ok (.goto 4, 3) := by decide +kernel
theorem dJ9_abs_0f7a4_9 : decode cJ9_abs_0f7a4 9 = .ok (.iload_n 0, 1) := by decide +kernel
theorem dJ9_abs_0f7a4_10 : decode cJ9_abs_0f7a4 10 = .ok (.ireturn, 1) := by decide +kernel
theorem dJ9_max_7cf53_0 : decode cJ9_max_7cf53 0 = .ok (.iload_n 0, 1) := by decide +kernel
theorem dJ9_max_7cf53_1 : decode cJ9_max_7cf53 1 = .ok (.iload_n 1, 1) := by decide +kernel
theorem dJ9_max_7cf53_2 : decode cJ9_max_7cf53 2 = .ok (.if_icmp .lt 7, 3) := by decide +kernel
theorem dJ9_max_7cf53_5 : decode cJ9_max_7cf53 5 = .ok (.iload_n 0, 1) := by decide +kernel
theorem dJ9_max_7cf53_6 : decode cJ9_max_7cf53 6 = .ok (.goto 4, 3) := by decide +kernel
theorem dJ9_max_7cf53_9 : decode cJ9_max_7cf53 9 = .ok (.iload_n 1, 1) := by decide +kernel
theorem dJ9_max_7cf53_10 : decode cJ9_max_7cf53 10 = .ok (.ireturn, 1) := by decide +kernel
theorem dJ9_max_f86c9_0 : decode cJ9_max_f86c9 0 = .ok (.lload_n 0, 1) := by decide +kernel
theorem dJ9_max_f86c9_1 : decode cJ9_max_f86c9 1 = .ok (.lload_n 2, 1) := by decide +kernel
theorem dJ9_max_f86c9_2 : decode cJ9_max_f86c9 2 = .ok (.lcmp, 1) := by decide +kernel
theorem dJ9_max_f86c9_3 : decode cJ9_max_f86c9 3 = .ok (.ifCond .lt 7, 3) := by decide +kernel
theorem dJ9_max_f86c9_6 : decode cJ9_max_f86c9 6 = .ok (.lload_n 0, 1) := by decide +kernel
theorem dJ9_max_f86c9_7 : decode cJ9_max_f86c9 7 = .ok (.goto 4, 3) := by decide +kernel
theorem dJ9_max_f86c9_10 : decode cJ9_max_f86c9 10 = .ok (.lload_n 2, 1) := by decide +kernel
theorem dJ9_max_f86c9_11 : decode cJ9_max_f86c9 11 = .ok (.lreturn, 1) := by decide +kernel
theorem dJ9_min_7cf53_0 : decode cJ9_min_7cf53 0 = .ok (.iload_n 0, 1) := by decide +kernel
theorem dJ9_min_7cf53_1 : decode cJ9_min_7cf53 1 = .ok (.iload_n 1, 1) := by decide +kernel
theorem dJ9_min_7cf53_2 : decode cJ9_min_7cf53 2 = .ok (.if_icmp .gt 7, 3) := by decide +kernel
theorem dJ9_min_7cf53_5 : decode cJ9_min_7cf53 5 = .ok (.iload_n 0, 1) := by decide +kernel
theorem dJ9_min_7cf53_6 : decode cJ9_min_7cf53 6 = .ok (.goto 4, 3) := by decide +kernel
theorem dJ9_min_7cf53_9 : decode cJ9_min_7cf53 9 = .ok (.iload_n 1, 1) := by decide +kernel
theorem dJ9_min_7cf53_10 : decode cJ9_min_7cf53 10 = .ok (.ireturn, 1) := by decide +kernel
theorem dJ0_length_8abf5_0 : decode cJ0_length_8abf5 0 = .ok (.aload_n 0, 1) := by decide +kernel
theorem dJ0_length_8abf5_1 : decode cJ0_length_8abf5 1 = .ok (.getfield 9, 3) := by decide +kernel
theorem dJ0_length_8abf5_4 : decode cJ0_length_8abf5 4 = .ok (.arraylength, 1) := by decide +kernel
theorem dJ0_length_8abf5_5 : decode cJ0_length_8abf5 5 = .ok (.aload_n 0, 1) := by decide +kernel
theorem dJ0_length_8abf5_6 : decode cJ0_length_8abf5 6 = .ok (.invokevirtual 335, 3) := by decide +kernel
theorem dJ0_length_8abf5_9 : decode cJ0_length_8abf5 9 = .ok (.ishr, 1) := by decide +kernel
theorem dJ0_length_8abf5_10 : decode cJ0_length_8abf5 10 = .ok (.ireturn, 1) := by decide +kernel
theorem dJ0_charAt_5068e_0 : decode cJ0_charAt_5068e 0 = .ok (.aload_n 0, 1) := by decide +kernel
theorem dJ0_charAt_5068e_1 : decode cJ0_charAt_5068e 1 = .ok (.invokevirtual 492, 3) := by decide +kernel
theorem dJ0_charAt_5068e_4 : decode cJ0_charAt_5068e 4 = .ok (.ifCond .eq 12, 3) := by decide +kernel
theorem dJ0_charAt_5068e_7 : decode cJ0_charAt_5068e 7 = .ok (.aload_n 0, 1) := by decide +kernel
theorem dJ0_charAt_5068e_8 : decode cJ0_charAt_5068e 8 = .ok (.getfield 9, 3) := by decide +kernel
theorem dJ0_charAt_5068e_11 : decode cJ0_charAt_5068e 11 = .ok (.iload_n 1, 1) := by decide +kernel
theorem dJ0_charAt_5068e_12 : decode cJ0_charAt_5068e 12 = .ok (.invokestatic 495, 3) := by decide +kernel
theorem dJ0_charAt_5068e_15 : decode cJ0_charAt_5068e 15 = .ok (.ireturn, 1) := by decide +kernel
theorem dJ0_charAt_5068e_16 : decode cJ0_charAt_5068e 16 = .ok (.aload_n 0, 1) := by decide +kernel
theorem dJ0_charAt_5068e_17 : decode cJ0_charAt_5068e 17 = .ok (.getfield 9, 3) := by decide +kernel
theorem dJ0_charAt_5068e_20 : decode cJ0_charAt_5068e 20 = .ok (.iload_n 1, 1) := by decide +kernel
theorem dJ0_charAt_5068e_21 : decode cJ0_charAt_5068e 21 = .ok (.invokestatic 498, 3) := by decide +kernel
theorem dJ0_charAt_5068e_24 : decode cJ0_charAt_5068e 24 = .ok (.ireturn, 1) := by decide +kernel
theorem dJ0_coder_7d493_0 : decode cJ0_coder_7d493 0 = .ok (.getstatic 38, 3) := by decide +kernel
theorem dJ0_coder_7d493_3 : decode cJ0_coder_7d493 3 = .ok (.ifCond .eq 10, 3) := by decide +kernel
theorem dJ0_coder_7d493_6 : decode cJ0_coder_7d493 6 = .ok (.aload_n 0, 1) := by decide +kernel
theorem dJ0_coder_7d493_7 : decode cJ0_coder_7d493 7 = .ok (.getfield 15, 3) := by decide +kernel
theorem dJ0_coder_7d493_10 : decode cJ0_coder_7d493 10 = .ok (.goto 4, 3) := by decide +kernel
theorem dJ0_coder_7d493_13 : decode cJ0_coder_7d493 13 = .ok (.iconst 1, 1) := by decide +kernel
theorem dJ0_coder_7d493_14 : decode cJ0_coder_7d493 14 = .ok (.ireturn, 1) := by decide +kernel
theorem dJ0_isLatin1_aae02_0 : decode cJ0_isLatin1_aae02 0 = .ok (.getstatic 38, 3) := by decide +kernel
theorem dJ0_isLatin1_aae02_3 : decode cJ0_isLatin1_aae02 3 = .ok (.ifCond .eq 14, 3) := by decide +kernel
theorem dJ0_isLatin1_aae02_6 : decode cJ0_isLatin1_aae02 6 = .ok (.aload_n 0, 1) := by decide +kernel
theorem dJ0_isLatin1_aae02_7 : decode cJ0_isLatin1_aae02 7 = .ok (.getfield 15, 3) := by decide +kernel
theorem dJ0_isLatin1_aae02_10 : decode cJ0_isLatin1_aae02 10 = .ok (.ifCond .ne 7, 3) := by decide +kernel
theorem dJ0_isLatin1_aae02_13 : decode cJ0_isLatin1_aae02 13 = .ok (.iconst 1, 1) := by decide +kernel
theorem dJ0_isLatin1_aae02_14 : decode cJ0_isLatin1_aae02 14 = .ok (.goto 4, 3) := by decide +kernel
theorem dJ0_isLatin1_aae02_17 : decode cJ0_isLatin1_aae02 17 = .ok (.iconst 0, 1) := by decide +kernel
theorem dJ0_isLatin1_aae02_18 : decode cJ0_isLatin1_aae02 18 = .ok (.ireturn, 1) := by decide +kernel
theorem dJ0_checkIndex_df160_0 : decode cJ0_checkIndex_df160 0 = .ok (.iload_n 0, 1) := by decide +kernel
theorem dJ0_checkIndex_df160_1 : decode cJ0_checkIndex_df160 1 = .ok (.iload_n 1, 1) := by decide +kernel
theorem dJ0_checkIndex_df160_2 : decode cJ0_checkIndex_df160 2 = .ok (.getstatic 1053, 3) := by decide +kernel
theorem dJ0_checkIndex_df160_5 : decode cJ0_checkIndex_df160 5 = .ok (.invokestatic 1059, 3) := by decide +kernel
theorem dJ0_checkIndex_df160_8 : decode cJ0_checkIndex_df160 8 = .ok (.pop, 1) := by decide +kernel
theorem dJ0_checkIndex_df160_9 : decode cJ0_checkIndex_df160 9 = .ok (.return_, 1) := by decide +kernel
theorem dJ1_charAt_3b067_0 : decode cJ1_charAt_3b067 0 = .ok (.iload_n 1, 1) := by decide +kernel
theorem dJ1_charAt_3b067_1 : decode cJ1_charAt_3b067 1 = .ok (.aload_n 0, 1) := by decide +kernel
theorem dJ1_charAt_3b067_2 : decode cJ1_charAt_3b067 2 = .ok (.arraylength, 1) := by decide +kernel
theorem dJ1_charAt_3b067_3 : decode cJ1_charAt_3b067 3 = .ok (.invokestatic 9, 3) := by decide +kernel
theorem dJ1_charAt_3b067_6 : decode cJ1_charAt_3b067 6 = .ok (.aload_n 0, 1) := by decide +kernel
theorem dJ1_charAt_3b067_7 : decode cJ1_charAt_3b067 7 = .ok (.iload_n 1, 1) := by decide +kernel
theorem dJ1_charAt_3b067_8 : decode cJ1_charAt_3b067 8 = .ok (.baload, 1) := by decide +kernel
theorem dJ1_charAt_3b067_9 : decode cJ1_charAt_3b067 9 = .ok (.sipush 255, 3) := by decide +kernel
theorem dJ1_charAt_3b067_12 : decode cJ1_charAt_3b067 12 = .ok (.iand, 1) := by decide +kernel
theorem dJ1_charAt_3b067_13 : decode cJ1_charAt_3b067 13 = .ok (.i2c, 1) := by decide +kernel
theorem dJ1_charAt_3b067_14 : decode cJ1_charAt_3b067 14 = .ok (.ireturn, 1) := by decide +kernel
theorem dJ2_getChar_3b067_0 : decode cJ2_getChar_3b067 0 = .ok (.getstatic 44, 3) := by decide +kernel
theorem dJ2_getChar_3b067_3 : decode cJ2_getChar_3b067 3 = .ok (.ifCond .ne 25, 3) := by decide +kernel
theorem dJ2_getChar_3b067_6 : decode cJ2_getChar_3b067 6 = .ok (.iload_n 1, 1) := by decide +kernel
theorem dJ2_getChar_3b067_7 : decode cJ2_getChar_3b067 7 = .ok (.ifCond .lt 11, 3) := by decide +kernel
theorem dJ2_getChar_3b067_10 : decode cJ2_getChar_3b067 10 = .ok (.iload_n 1, 1) := by decide +kernel
theorem dJ2_getChar_3b067_11 : decode cJ2_getChar_3b067 11 = .ok (.aload_n 0, 1) := by decide +kernel
theorem dJ2_getChar_3b067_12 : decode cJ2_getChar_3b067 12 = .ok (.invokestatic 48, 3) := by decide +kernel
theorem dJ2_getChar_3b067_15 : decode cJ2_getChar_3b067 15 = .ok (.if_icmp .lt 13, 3) := by decide +kernel
theorem dJ2_getChar_3b067_18 : decode cJ2_getChar_3b067 18 = .ok (.new 52, 3) := by decide +kernel
theorem dJ2_getChar_3b067_21 : decode cJ2_getChar_3b067 21 = .ok (.dup, 1) := by decide +kernel
theorem dJ2_getChar_3b067_22 : decode cJ2_getChar_3b067 22 = .ok (.ldc 54, 2) := by decide +kernel
theorem dJ2_getChar_3b067_24 : decode cJ2_getChar_3b067 24 = .ok (.invokespecial 56, 3) := by decide +kernel
theorem dJ2_getChar_3b067_27 : decode cJ2_getChar_3b067 27 = .ok (.athrow, 1) := by decide +kernel
theorem dJ2_getChar_3b067_28 : decode cJ2_getChar_3b067 28 = .ok (.iload_n 1, 1) := by decide +kernel
theorem dJ2_getChar_3b067_29 : decode cJ2_getChar_3b067 29 = .ok (.iconst 1, 1) := by decide +kernel
theorem dJ2_getChar_3b067_30 : decode cJ2_getChar_3b067 30 = .ok (.ishl, 1) := by decide +kernel
theorem dJ2_getChar_3b067_31 : decode cJ2_getChar_3b067 31 = .ok (.istore_n 1, 1) := by decide +kernel
theorem dJ2_getChar_3b067_32 : decode cJ2_getChar_3b067 32 = .ok (.aload_n 0, 1) := by decide +kernel
theorem dJ2_getChar_3b067_33 : decode cJ2_getChar_3b067 33 = .ok (.iload_n 1, 1) := by decide +kernel
theorem dJ2_getChar_3b067_34 : decode cJ2_getChar_3b067 34 = .ok (.iinc 1 1, 3) := by decide +kernel
theorem dJ2_getChar_3b067_37 : decode cJ2_getChar_3b067 37 = .ok (.baload, 1) := by decide +kernel
theorem dJ2_getChar_3b067_38 : decode cJ2_getChar_3b067 38 = .ok (.sipush 255, 3) := by decide +kernel
theorem dJ2_getChar_3b067_41 : decode cJ2_getChar_3b067 41 = .ok (.iand, 1) := by decide +kernel
theorem dJ2_getChar_3b067_42 : decode cJ2_getChar_3b067 42 = .ok (.getstatic 59, 3) := by decide +kernel
theorem dJ2_getChar_3b067_45 : decode cJ2_getChar_3b067 45 = .ok (.ishl, 1) := by decide +kernel
theorem dJ2_getChar_3b067_46 : decode cJ2_getChar_3b067 46 = .ok (.aload_n 0, 1) := by decide +kernel
theorem dJ2_getChar_3b067_47 : decode cJ2_getChar_3b067 47 = .ok (.iload_n 1, 1) := by decide +kernel
theorem dJ2_getChar_3b067_48 : decode cJ2_getChar_3b067 48 = .ok (.baload, 1) := by decide +kernel
theorem dJ2_getChar_3b067_49 : decode cJ2_getChar_3b067 49 = .ok (.sipush 255, 3) := by decide +kernel
theorem dJ2_getChar_3b067_52 : decode cJ2_getChar_3b067 52 = .ok (.iand, 1) := by decide +kernel
theorem dJ2_getChar_3b067_53 : decode cJ2_getChar_3b067 53 = .ok (.getstatic 63, 3) := by decide +kernel
theorem dJ2_getChar_3b067_56 : decode cJ2_getChar_3b067 56 = .ok (.ishl, 1) := by decide +kernel
theorem dJ2_getChar_3b067_57 : decode cJ2_getChar_3b067 57 = .ok (.ior, 1) := by decide +kernel
theorem dJ2_getChar_3b067_58 : decode cJ2_getChar_3b067 58 = .ok (.i2c, 1) := by decide +kernel
theorem dJ2_getChar_3b067_59 : decode cJ2_getChar_3b067 59 = .ok (.ireturn, 1) := by decide +kernel
theorem dJ2_length_9d52b_0 : decode cJ2_length_9d52b 0 = .ok (.aload_n 0, 1) := by decide +kernel
theorem dJ2_length_9d52b_1 : decode cJ2_length_9d52b 1 = .ok (.arraylength, 1) := by decide +kernel
theorem dJ2_length_9d52b_2 : decode cJ2_length_9d52b 2 = .ok (.iconst 1, 1) := by decide +kernel
theorem dJ2_length_9d52b_3 : decode cJ2_length_9d52b 3 = .ok (.ishr, 1) := by decide +kernel
theorem dJ2_length_9d52b_4 : decode cJ2_length_9d52b 4 = .ok (.ireturn, 1) := by decide +kernel
theorem dJ2_charAt_3b067_0 : decode cJ2_charAt_3b067 0 = .ok (.iload_n 1, 1) := by decide +kernel
theorem dJ2_charAt_3b067_1 : decode cJ2_charAt_3b067 1 = .ok (.aload_n 0, 1) := by decide +kernel
theorem dJ2_charAt_3b067_2 : decode cJ2_charAt_3b067 2 = .ok (.invokestatic 67, 3) := by decide +kernel
theorem dJ2_charAt_3b067_5 : decode cJ2_charAt_3b067 5 = .ok (.aload_n 0, 1) := by decide +kernel
theorem dJ2_charAt_3b067_6 : decode cJ2_charAt_3b067 6 = .ok (.iload_n 1, 1) := by decide +kernel
theorem dJ2_charAt_3b067_7 : decode cJ2_charAt_3b067 7 = .ok (.invokestatic 71, 3) := by decide +kernel
theorem dJ2_charAt_3b067_10 : decode cJ2_charAt_3b067 10 = .ok (.ireturn, 1) := by decide +kernel
theorem dJ2_checkIndex_2214a_0 : decode cJ2_checkIndex_2214a 0 = .ok (.iload_n 0, 1) := by decide +kernel
theorem dJ2_checkIndex_2214a_1 : decode cJ2_checkIndex_2214a 1 = .ok (.aload_n 1, 1) := by decide +kernel
theorem dJ2_checkIndex_2214a_2 : decode cJ2_checkIndex_2214a 2 = .ok (.invokestatic 48, 3) := by decide +kernel
theorem dJ2_checkIndex_2214a_5 : decode cJ2_checkIndex_2214a 5 = .ok (.invokestatic 414, 3) := by decide +kernel
theorem dJ2_checkIndex_2214a_8 : decode cJ2_checkIndex_2214a 8 = .ok (.return_, 1) := by decide +kernel
theorem dJ7_fill_d0a16_0 : decode cJ7_fill_d0a16 0 = .ok (.iconst 0, 1) := by decide +kernel
theorem dJ7_fill_d0a16_1 : decode cJ7_fill_d0a16 1 = .ok (.istore_n 3, 1) := by decide +kernel
theorem dJ7_fill_d0a16_2 : decode cJ7_fill_d0a16 2 = .ok (.aload_n 0, 1) := by decide +kernel
theorem dJ7_fill_d0a16_3 : decode cJ7_fill_d0a16 3 = .ok (.arraylength, 1) := by decide +kernel
theorem dJ7_fill_d0a16_4 : decode cJ7_fill_d0a16 4 = .ok (.istore 4, 2) := by decide +kernel
theorem dJ7_fill_d0a16_6 : decode cJ7_fill_d0a16 6 = .ok (.iload_n 3, 1) := by decide +kernel
theorem dJ7_fill_d0a16_7 : decode cJ7_fill_d0a16 7 = .ok (.iload 4, 2) := by decide +kernel
theorem dJ7_fill_d0a16_9 : decode cJ7_fill_d0a16 9 = .ok (.if_icmp .ge 13, 3) := by decide +kernel
theorem dJ7_fill_d0a16_12 : decode cJ7_fill_d0a16 12 = .ok (.aload_n 0, 1) := by decide +kernel
theorem dJ7_fill_d0a16_13 : decode cJ7_fill_d0a16 13 = .ok (.iload_n 3, 1) := by decide +kernel
theorem dJ7_fill_d0a16_14 : decode cJ7_fill_d0a16 14 = .ok (.lload_n 1, 1) := by decide +kernel
theorem dJ7_fill_d0a16_15 : decode cJ7_fill_d0a16 15 = .ok (.lastore, 1) := by decide +kernel
theorem dJ7_fill_d0a16_16 : decode cJ7_fill_d0a16 16 = .ok (.iinc 3 1, 3) := by decide +kernel
theorem dJ7_fill_d0a16_19 : decode cJ7_fill_d0a16 19 = .ok (.goto (-13), 3) := by decide +kernel
theorem dJ7_fill_d0a16_22 : decode cJ7_fill_d0a16 22 = .ok (.return_, 1) := by decide +kernel
theorem dJ7_fill_53178_0 : decode cJ7_fill_53178 0 = .ok (.iconst 0, 1) := by decide +kernel
theorem dJ7_fill_53178_1 : decode cJ7_fill_53178 1 = .ok (.istore_n 2, 1) := by decide +kernel
theorem dJ7_fill_53178_2 : decode cJ7_fill_53178 2 = .ok (.aload_n 0, 1) := by decide +kernel
theorem dJ7_fill_53178_3 : decode cJ7_fill_53178 3 = .ok (.arraylength, 1) := by decide +kernel
theorem dJ7_fill_53178_4 : decode cJ7_fill_53178 4 = .ok (.istore_n 3, 1) := by decide +kernel
theorem dJ7_fill_53178_5 : decode cJ7_fill_53178 5 = .ok (.iload_n 2, 1) := by decide +kernel
theorem dJ7_fill_53178_6 : decode cJ7_fill_53178 6 = .ok (.iload_n 3, 1) := by decide +kernel
theorem dJ7_fill_53178_7 : decode cJ7_fill_53178 7 = .ok (.if_icmp .ge 13, 3) := by decide +kernel
theorem dJ7_fill_53178_10 : decode cJ7_fill_53178 10 = .ok (.aload_n 0, 1) := by decide +kernel
theorem dJ7_fill_53178_11 : decode cJ7_fill_53178 11 = .ok (.iload_n 2, 1) := by decide +kernel
theorem dJ7_fill_53178_12 : decode cJ7_fill_53178 12 = .ok (.iload_n 1, 1) := by decide +kernel
theorem dJ7_fill_53178_13 : decode cJ7_fill_53178 13 = .ok (.iastore, 1) := by decide +kernel
theorem dJ7_fill_53178_14 : decode cJ7_fill_53178 14 = .ok (.iinc 2 1, 3) := by decide +kernel
theorem dJ7_fill_53178_17 : decode cJ7_fill_53178 17 = .ok (.goto (-12), 3) := by decide +kernel
theorem dJ7_fill_53178_20 : decode cJ7_fill_53178 20 = .ok (.return_, 1) := by decide +kernel
theorem dJ3_checkIndex_8e157_0 : decode cJ3_checkIndex_8e157 0 = .ok (.iload_n 0, 1) := by decide +kernel
theorem dJ3_checkIndex_8e157_1 : decode cJ3_checkIndex_8e157 1 = .ok (.ifCond .lt 8, 3) := by decide +kernel
theorem dJ3_checkIndex_8e157_4 : decode cJ3_checkIndex_8e157 4 = .ok (.iload_n 0, 1) := by decide +kernel
theorem dJ3_checkIndex_8e157_5 : decode cJ3_checkIndex_8e157 5 = .ok (.iload_n 1, 1) := by decide +kernel
theorem dJ3_checkIndex_8e157_6 : decode cJ3_checkIndex_8e157 6 = .ok (.if_icmp .lt 10, 3) := by decide +kernel
theorem dJ3_checkIndex_8e157_9 : decode cJ3_checkIndex_8e157 9 = .ok (.aload_n 2, 1) := by decide +kernel
theorem dJ3_checkIndex_8e157_10 : decode cJ3_checkIndex_8e157 10 = .ok (.iload_n 0, 1) := by decide +kernel
theorem dJ3_checkIndex_8e157_11 : decode cJ3_checkIndex_8e157 11 = .ok (.iload_n 1, 1) := by decide +kernel
theorem dJ3_checkIndex_8e157_12 : decode cJ3_checkIndex_8e157 12 = .ok (.invokestatic 95, 3) := by decide +kernel
theorem dJ3_checkIndex_8e157_15 : decode cJ3_checkIndex_8e157 15 = .ok (.athrow, 1) := by decide +kernel
theorem dJ3_checkIndex_8e157_16 : decode cJ3_checkIndex_8e157 16 = .ok (.iload_n 0, 1) := by decide +kernel
theorem dJ3_checkIndex_8e157_17 : decode cJ3_checkIndex_8e157 17 = .ok (.ireturn, 1) := by decide +kernel
theorem dL_law_0 : decode cL_law 0 = .ok (.new 7, 3) := by decide +kernel
theorem dL_law_3 : decode cL_law 3 = .ok (.dup, 1) := by decide +kernel
theorem dL_law_4 : decode cL_law 4 = .ok (.invokespecial 9, 3) := by decide +kernel
theorem dL_law_7 : decode cL_law 7 = .ok (.astore_n 1, 1) := by decide +kernel
theorem dL_law_8 : decode cL_law 8 = .ok (.new 10, 3) := by decide +kernel
theorem dL_law_11 : decode cL_law 11 = .ok (.dup, 1) := by decide +kernel
theorem dL_law_12 : decode cL_law 12 = .ok (.invokespecial 12, 3) := by decide +kernel
theorem dL_law_15 : decode cL_law 15 = .ok (.astore_n 2, 1) := by decide +kernel
theorem dL_law_16 : decode cL_law 16 = .ok (.iconst 0, 1) := by decide +kernel
theorem dL_law_17 : decode cL_law 17 = .ok (.istore_n 3, 1) := by decide +kernel
theorem dL_law_18 : decode cL_law 18 = .ok (.iload_n 3, 1) := by decide +kernel
theorem dL_law_19 : decode cL_law 19 = .ok (.aload_n 0, 1) := by decide +kernel
theorem dL_law_20 : decode cL_law 20 = .ok (.arraylength, 1) := by decide +kernel
theorem dL_law_21 : decode cL_law 21 = .ok (.bipush 6, 2) := by decide +kernel
theorem dL_law_23 : decode cL_law 23 = .ok (.isub, 1) := by decide +kernel
theorem dL_law_24 : decode cL_law 24 = .ok (.if_icmp .gt 1731, 3) := by decide +kernel
theorem dL_law_27 : decode cL_law 27 = .ok (.aload_n 0, 1) := by decide +kernel
theorem dL_law_28 : decode cL_law 28 = .ok (.iload_n 3, 1) := by decide +kernel
theorem dL_law_29 : decode cL_law 29 = .ok (.iaload, 1) := by decide +kernel
theorem dL_law_30 : decode cL_law 30 = .ok (.bipush 63, 2) := by decide +kernel
theorem dL_law_32 : decode cL_law 32 = .ok (.iand, 1) := by decide +kernel
theorem dL_law_33 : decode cL_law 33 = .ok (.tableswitch 1716 0 45 #[199, 212, 226, 240, 283, 356, 390, 453, 516, 539, 562, 585, 608, 641, 664, 687, 720, 743, 766, 789, 812, 835, 868, 917, 940, 953, 986, 1029, 1062, 1105, 1138, 1171, 1184, 1207, 1250, 1293, 1346, 1389, 1422, 1455, 1518, 1561, 1604, 1627, 1690, 1703], 199) := by decide +kernel
theorem dL_law_232 : decode cL_law 232 = .ok (.aload_n 1, 1) := by decide +kernel
theorem dL_law_233 : decode cL_law 233 = .ok (.invokevirtual 13, 3) := by decide +kernel
theorem dL_law_236 : decode cL_law 236 = .ok (.aload_n 2, 1) := by decide +kernel
theorem dL_law_237 : decode cL_law 237 = .ok (.invokevirtual 17, 3) := by decide +kernel
theorem dL_law_240 : decode cL_law 240 = .ok (.if_icmp .eq 1509, 3) := by decide +kernel
theorem dL_law_243 : decode cL_law 243 = .ok (.iconst 0, 1) := by decide +kernel
theorem dL_law_244 : decode cL_law 244 = .ok (.ireturn, 1) := by decide +kernel
theorem dL_law_245 : decode cL_law 245 = .ok (.aload_n 1, 1) := by decide +kernel
theorem dL_law_246 : decode cL_law 246 = .ok (.invokevirtual 18, 3) := by decide +kernel
theorem dL_law_249 : decode cL_law 249 = .ok (.aload_n 2, 1) := by decide +kernel
theorem dL_law_250 : decode cL_law 250 = .ok (.invokevirtual 22, 3) := by decide +kernel
theorem dL_law_253 : decode cL_law 253 = .ok (.lcmp, 1) := by decide +kernel
theorem dL_law_254 : decode cL_law 254 = .ok (.ifCond .eq 1495, 3) := by decide +kernel
theorem dL_law_257 : decode cL_law 257 = .ok (.iconst 0, 1) := by decide +kernel
theorem dL_law_258 : decode cL_law 258 = .ok (.ireturn, 1) := by decide +kernel
theorem dL_law_259 : decode cL_law 259 = .ok (.aload_n 1, 1) := by decide +kernel
theorem dL_law_260 : decode cL_law 260 = .ok (.invokevirtual 23, 3) := by decide +kernel
theorem dL_law_263 : decode cL_law 263 = .ok (.aload_n 2, 1) := by decide +kernel
theorem dL_law_264 : decode cL_law 264 = .ok (.invokevirtual 26, 3) := by decide +kernel
theorem dL_law_267 : decode cL_law 267 = .ok (.lcmp, 1) := by decide +kernel
theorem dL_law_268 : decode cL_law 268 = .ok (.ifCond .eq 1481, 3) := by decide +kernel
theorem dL_law_271 : decode cL_law 271 = .ok (.iconst 0, 1) := by decide +kernel
theorem dL_law_272 : decode cL_law 272 = .ok (.ireturn, 1) := by decide +kernel
theorem dL_law_273 : decode cL_law 273 = .ok (.aload_n 1, 1) := by decide +kernel
theorem dL_law_274 : decode cL_law 274 = .ok (.aload_n 0, 1) := by decide +kernel
theorem dL_law_275 : decode cL_law 275 = .ok (.iload_n 3, 1) := by decide +kernel
theorem dL_law_276 : decode cL_law 276 = .ok (.iconst 1, 1) := by decide +kernel
theorem dL_law_277 : decode cL_law 277 = .ok (.iadd, 1) := by decide +kernel
theorem dL_law_278 : decode cL_law 278 = .ok (.iaload, 1) := by decide +kernel
theorem dL_law_279 : decode cL_law 279 = .ok (.aload_n 0, 1) := by decide +kernel
theorem dL_law_280 : decode cL_law 280 = .ok (.iload_n 3, 1) := by decide +kernel
theorem dL_law_281 : decode cL_law 281 = .ok (.iconst 2, 1) := by decide +kernel
theorem dL_law_282 : decode cL_law 282 = .ok (.iadd, 1) := by decide +kernel
theorem dL_law_283 : decode cL_law 283 = .ok (.iaload, 1) := by decide +kernel
theorem dL_law_284 : decode cL_law 284 = .ok (.aload_n 0, 1) := by decide +kernel
theorem dL_law_285 : decode cL_law 285 = .ok (.iload_n 3, 1) := by decide +kernel
theorem dL_law_286 : decode cL_law 286 = .ok (.iconst 3, 1) := by decide +kernel
theorem dL_law_287 : decode cL_law 287 = .ok (.iadd, 1) := by decide +kernel
theorem dL_law_288 : decode cL_law 288 = .ok (.iaload, 1) := by decide +kernel
theorem dL_law_289 : decode cL_law 289 = .ok (.invokevirtual 27, 3) := by decide +kernel
theorem dL_law_292 : decode cL_law 292 = .ok (.aload_n 2, 1) := by decide +kernel
theorem dL_law_293 : decode cL_law 293 = .ok (.aload_n 0, 1) := by decide +kernel
theorem dL_law_294 : decode cL_law 294 = .ok (.iload_n 3, 1) := by decide +kernel
theorem dL_law_295 : decode cL_law 295 = .ok (.iconst 1, 1) := by decide +kernel
theorem dL_law_296 : decode cL_law 296 = .ok (.iadd, 1) := by decide +kernel
theorem dL_law_297 : decode cL_law 297 = .ok (.iaload, 1) := by decide +kernel
theorem dL_law_298 : decode cL_law 298 = .ok (.aload_n 0, 1) := by decide +kernel
theorem dL_law_299 : decode cL_law 299 = .ok (.iload_n 3, 1) := by decide +kernel
theorem dL_law_300 : decode cL_law 300 = .ok (.iconst 2, 1) := by decide +kernel
theorem dL_law_301 : decode cL_law 301 = .ok (.iadd, 1) := by decide +kernel
theorem dL_law_302 : decode cL_law 302 = .ok (.iaload, 1) := by decide +kernel
theorem dL_law_303 : decode cL_law 303 = .ok (.aload_n 0, 1) := by decide +kernel
theorem dL_law_304 : decode cL_law 304 = .ok (.iload_n 3, 1) := by decide +kernel
theorem dL_law_305 : decode cL_law 305 = .ok (.iconst 3, 1) := by decide +kernel
theorem dL_law_306 : decode cL_law 306 = .ok (.iadd, 1) := by decide +kernel
theorem dL_law_307 : decode cL_law 307 = .ok (.iaload, 1) := by decide +kernel
theorem dL_law_308 : decode cL_law 308 = .ok (.invokevirtual 31, 3) := by decide +kernel
theorem dL_law_311 : decode cL_law 311 = .ok (.if_icmp .eq 1438, 3) := by decide +kernel
theorem dL_law_314 : decode cL_law 314 = .ok (.iconst 0, 1) := by decide +kernel
theorem dL_law_315 : decode cL_law 315 = .ok (.ireturn, 1) := by decide +kernel
theorem dL_law_316 : decode cL_law 316 = .ok (.aload_n 1, 1) := by decide +kernel
theorem dL_law_317 : decode cL_law 317 = .ok (.aload_n 0, 1) := by decide +kernel
theorem dL_law_318 : decode cL_law 318 = .ok (.iload_n 3, 1) := by decide +kernel
theorem dL_law_319 : decode cL_law 319 = .ok (.iconst 1, 1) := by decide +kernel
theorem dL_law_320 : decode cL_law 320 = .ok (.iadd, 1) := by decide +kernel
theorem dL_law_321 : decode cL_law 321 = .ok (.iaload, 1) := by decide +kernel
theorem dL_law_322 : decode cL_law 322 = .ok (.aload_n 0, 1) := by decide +kernel
theorem dL_law_323 : decode cL_law 323 = .ok (.iload_n 3, 1) := by decide +kernel
theorem dL_law_324 : decode cL_law 324 = .ok (.iconst 2, 1) := by decide +kernel
theorem dL_law_325 : decode cL_law 325 = .ok (.iadd, 1) := by decide +kernel
theorem dL_law_326 : decode cL_law 326 = .ok (.iaload, 1) := by decide +kernel
theorem dL_law_327 : decode cL_law 327 = .ok (.aload_n 0, 1) := by decide +kernel
theorem dL_law_328 : decode cL_law 328 = .ok (.iload_n 3, 1) := by decide +kernel
theorem dL_law_329 : decode cL_law 329 = .ok (.iconst 3, 1) := by decide +kernel
theorem dL_law_330 : decode cL_law 330 = .ok (.iadd, 1) := by decide +kernel
theorem dL_law_331 : decode cL_law 331 = .ok (.iaload, 1) := by decide +kernel
theorem dL_law_332 : decode cL_law 332 = .ok (.i2l, 1) := by decide +kernel
theorem dL_law_333 : decode cL_law 333 = .ok (.bipush 32, 2) := by decide +kernel
theorem dL_law_335 : decode cL_law 335 = .ok (.lshl, 1) := by decide +kernel
theorem dL_law_336 : decode cL_law 336 = .ok (.aload_n 0, 1) := by decide +kernel
theorem dL_law_337 : decode cL_law 337 = .ok (.iload_n 3, 1) := by decide +kernel
theorem dL_law_338 : decode cL_law 338 = .ok (.iconst 4, 1) := by decide +kernel
theorem dL_law_339 : decode cL_law 339 = .ok (.iadd, 1) := by decide +kernel
theorem dL_law_340 : decode cL_law 340 = .ok (.iaload, 1) := by decide +kernel
theorem dL_law_341 : decode cL_law 341 = .ok (.i2l, 1) := by decide +kernel
theorem dL_law_342 : decode cL_law 342 = .ok (.ldc2_w 32, 3) := by decide +kernel
theorem dL_law_345 : decode cL_law 345 = .ok (.land, 1) := by decide +kernel
theorem dL_law_346 : decode cL_law 346 = .ok (.lor, 1) := by decide +kernel
theorem dL_law_347 : decode cL_law 347 = .ok (.invokevirtual 34, 3) := by decide +kernel
theorem dL_law_350 : decode cL_law 350 = .ok (.aload_n 2, 1) := by decide +kernel
theorem dL_law_351 : decode cL_law 351 = .ok (.aload_n 0, 1) := by decide +kernel
theorem dL_law_352 : decode cL_law 352 = .ok (.iload_n 3, 1) := by decide +kernel
theorem dL_law_353 : decode cL_law 353 = .ok (.iconst 1, 1) := by decide +kernel
theorem dL_law_354 : decode cL_law 354 = .ok (.iadd, 1) := by decide +kernel
theorem dL_law_355 : decode cL_law 355 = .ok (.iaload, 1) := by decide +kernel
theorem dL_law_356 : decode cL_law 356 = .ok (.aload_n 0, 1) := by decide +kernel
theorem dL_law_357 : decode cL_law 357 = .ok (.iload_n 3, 1) := by decide +kernel
theorem dL_law_358 : decode cL_law 358 = .ok (.iconst 2, 1) := by decide +kernel
theorem dL_law_359 : decode cL_law 359 = .ok (.iadd, 1) := by decide +kernel
theorem dL_law_360 : decode cL_law 360 = .ok (.iaload, 1) := by decide +kernel
theorem dL_law_361 : decode cL_law 361 = .ok (.aload_n 0, 1) := by decide +kernel
theorem dL_law_362 : decode cL_law 362 = .ok (.iload_n 3, 1) := by decide +kernel
theorem dL_law_363 : decode cL_law 363 = .ok (.iconst 3, 1) := by decide +kernel
theorem dL_law_364 : decode cL_law 364 = .ok (.iadd, 1) := by decide +kernel
theorem dL_law_365 : decode cL_law 365 = .ok (.iaload, 1) := by decide +kernel
theorem dL_law_366 : decode cL_law 366 = .ok (.i2l, 1) := by decide +kernel
theorem dL_law_367 : decode cL_law 367 = .ok (.bipush 32, 2) := by decide +kernel
theorem dL_law_369 : decode cL_law 369 = .ok (.lshl, 1) := by decide +kernel
theorem dL_law_370 : decode cL_law 370 = .ok (.aload_n 0, 1) := by decide +kernel
theorem dL_law_371 : decode cL_law 371 = .ok (.iload_n 3, 1) := by decide +kernel
theorem dL_law_372 : decode cL_law 372 = .ok (.iconst 4, 1) := by decide +kernel
theorem dL_law_373 : decode cL_law 373 = .ok (.iadd, 1) := by decide +kernel
theorem dL_law_374 : decode cL_law 374 = .ok (.iaload, 1) := by decide +kernel
theorem dL_law_375 : decode cL_law 375 = .ok (.i2l, 1) := by decide +kernel
theorem dL_law_376 : decode cL_law 376 = .ok (.ldc2_w 32, 3) := by decide +kernel
theorem dL_law_379 : decode cL_law 379 = .ok (.land, 1) := by decide +kernel
theorem dL_law_380 : decode cL_law 380 = .ok (.lor, 1) := by decide +kernel
theorem dL_law_381 : decode cL_law 381 = .ok (.invokevirtual 38, 3) := by decide +kernel
theorem dL_law_384 : decode cL_law 384 = .ok (.if_icmp .eq 1365, 3) := by decide +kernel
theorem dL_law_387 : decode cL_law 387 = .ok (.iconst 0, 1) := by decide +kernel
theorem dL_law_388 : decode cL_law 388 = .ok (.ireturn, 1) := by decide +kernel
theorem dL_law_389 : decode cL_law 389 = .ok (.aload_n 1, 1) := by decide +kernel
theorem dL_law_390 : decode cL_law 390 = .ok (.aload_n 0, 1) := by decide +kernel
theorem dL_law_391 : decode cL_law 391 = .ok (.iload_n 3, 1) := by decide +kernel
theorem dL_law_392 : decode cL_law 392 = .ok (.iconst 1, 1) := by decide +kernel
theorem dL_law_393 : decode cL_law 393 = .ok (.iadd, 1) := by decide +kernel
theorem dL_law_394 : decode cL_law 394 = .ok (.iaload, 1) := by decide +kernel
theorem dL_law_395 : decode cL_law 395 = .ok (.aload_n 0, 1) := by decide +kernel
theorem dL_law_396 : decode cL_law 396 = .ok (.iload_n 3, 1) := by decide +kernel
theorem dL_law_397 : decode cL_law 397 = .ok (.iconst 2, 1) := by decide +kernel
theorem dL_law_398 : decode cL_law 398 = .ok (.iadd, 1) := by decide +kernel
theorem dL_law_399 : decode cL_law 399 = .ok (.iaload, 1) := by decide +kernel
theorem dL_law_400 : decode cL_law 400 = .ok (.invokevirtual 39, 3) := by decide +kernel
theorem dL_law_403 : decode cL_law 403 = .ok (.aload_n 2, 1) := by decide +kernel
theorem dL_law_404 : decode cL_law 404 = .ok (.aload_n 0, 1) := by decide +kernel
theorem dL_law_405 : decode cL_law 405 = .ok (.iload_n 3, 1) := by decide +kernel
theorem dL_law_406 : decode cL_law 406 = .ok (.iconst 1, 1) := by decide +kernel
theorem dL_law_407 : decode cL_law 407 = .ok (.iadd, 1) := by decide +kernel
theorem dL_law_408 : decode cL_law 408 = .ok (.iaload, 1) := by decide +kernel
theorem dL_law_409 : decode cL_law 409 = .ok (.aload_n 0, 1) := by decide +kernel
theorem dL_law_410 : decode cL_law 410 = .ok (.iload_n 3, 1) := by decide +kernel
theorem dL_law_411 : decode cL_law 411 = .ok (.iconst 2, 1) := by decide +kernel
theorem dL_law_412 : decode cL_law 412 = .ok (.iadd, 1) := by decide +kernel
theorem dL_law_413 : decode cL_law 413 = .ok (.iaload, 1) := by decide +kernel
theorem dL_law_414 : decode cL_law 414 = .ok (.invokevirtual 43, 3) := by decide +kernel
theorem dL_law_417 : decode cL_law 417 = .ok (.lcmp, 1) := by decide +kernel
theorem dL_law_418 : decode cL_law 418 = .ok (.ifCond .eq 1331, 3) := by decide +kernel
theorem dL_law_421 : decode cL_law 421 = .ok (.iconst 0, 1) := by decide +kernel
theorem dL_law_422 : decode cL_law 422 = .ok (.ireturn, 1) := by decide +kernel
theorem dL_law_423 : decode cL_law 423 = .ok (.aload_n 1, 1) := by decide +kernel
theorem dL_law_424 : decode cL_law 424 = .ok (.aload_n 0, 1) := by decide +kernel
theorem dL_law_425 : decode cL_law 425 = .ok (.iload_n 3, 1) := by decide +kernel
theorem dL_law_426 : decode cL_law 426 = .ok (.iconst 1, 1) := by decide +kernel
theorem dL_law_427 : decode cL_law 427 = .ok (.iadd, 1) := by decide +kernel
theorem dL_law_428 : decode cL_law 428 = .ok (.iaload, 1) := by decide +kernel
theorem dL_law_429 : decode cL_law 429 = .ok (.aload_n 0, 1) := by decide +kernel
theorem dL_law_430 : decode cL_law 430 = .ok (.iload_n 3, 1) := by decide +kernel
theorem dL_law_431 : decode cL_law 431 = .ok (.iconst 2, 1) := by decide +kernel
theorem dL_law_432 : decode cL_law 432 = .ok (.iadd, 1) := by decide +kernel
theorem dL_law_433 : decode cL_law 433 = .ok (.iaload, 1) := by decide +kernel
theorem dL_law_434 : decode cL_law 434 = .ok (.aload_n 0, 1) := by decide +kernel
theorem dL_law_435 : decode cL_law 435 = .ok (.iload_n 3, 1) := by decide +kernel
theorem dL_law_436 : decode cL_law 436 = .ok (.iconst 3, 1) := by decide +kernel
theorem dL_law_437 : decode cL_law 437 = .ok (.iadd, 1) := by decide +kernel
theorem dL_law_438 : decode cL_law 438 = .ok (.iaload, 1) := by decide +kernel
theorem dL_law_439 : decode cL_law 439 = .ok (.aload_n 0, 1) := by decide +kernel
theorem dL_law_440 : decode cL_law 440 = .ok (.iload_n 3, 1) := by decide +kernel
theorem dL_law_441 : decode cL_law 441 = .ok (.iconst 4, 1) := by decide +kernel
theorem dL_law_442 : decode cL_law 442 = .ok (.iadd, 1) := by decide +kernel
theorem dL_law_443 : decode cL_law 443 = .ok (.iaload, 1) := by decide +kernel
theorem dL_law_444 : decode cL_law 444 = .ok (.aload_n 0, 1) := by decide +kernel
theorem dL_law_445 : decode cL_law 445 = .ok (.iload_n 3, 1) := by decide +kernel
theorem dL_law_446 : decode cL_law 446 = .ok (.iconst 5, 1) := by decide +kernel
theorem dL_law_447 : decode cL_law 447 = .ok (.iadd, 1) := by decide +kernel
theorem dL_law_448 : decode cL_law 448 = .ok (.iaload, 1) := by decide +kernel
theorem dL_law_449 : decode cL_law 449 = .ok (.invokevirtual 44, 3) := by decide +kernel
theorem dL_law_452 : decode cL_law 452 = .ok (.aload_n 2, 1) := by decide +kernel
theorem dL_law_453 : decode cL_law 453 = .ok (.aload_n 0, 1) := by decide +kernel
theorem dL_law_454 : decode cL_law 454 = .ok (.iload_n 3, 1) := by decide +kernel
theorem dL_law_455 : decode cL_law 455 = .ok (.iconst 1, 1) := by decide +kernel
theorem dL_law_456 : decode cL_law 456 = .ok (.iadd, 1) := by decide +kernel
theorem dL_law_457 : decode cL_law 457 = .ok (.iaload, 1) := by decide +kernel
theorem dL_law_458 : decode cL_law 458 = .ok (.aload_n 0, 1) := by decide +kernel
theorem dL_law_459 : decode cL_law 459 = .ok (.iload_n 3, 1) := by decide +kernel
theorem dL_law_460 : decode cL_law 460 = .ok (.iconst 2, 1) := by decide +kernel
theorem dL_law_461 : decode cL_law 461 = .ok (.iadd, 1) := by decide +kernel
theorem dL_law_462 : decode cL_law 462 = .ok (.iaload, 1) := by decide +kernel
theorem dL_law_463 : decode cL_law 463 = .ok (.aload_n 0, 1) := by decide +kernel
theorem dL_law_464 : decode cL_law 464 = .ok (.iload_n 3, 1) := by decide +kernel
theorem dL_law_465 : decode cL_law 465 = .ok (.iconst 3, 1) := by decide +kernel
theorem dL_law_466 : decode cL_law 466 = .ok (.iadd, 1) := by decide +kernel
theorem dL_law_467 : decode cL_law 467 = .ok (.iaload, 1) := by decide +kernel
theorem dL_law_468 : decode cL_law 468 = .ok (.aload_n 0, 1) := by decide +kernel
theorem dL_law_469 : decode cL_law 469 = .ok (.iload_n 3, 1) := by decide +kernel
theorem dL_law_470 : decode cL_law 470 = .ok (.iconst 4, 1) := by decide +kernel
theorem dL_law_471 : decode cL_law 471 = .ok (.iadd, 1) := by decide +kernel
theorem dL_law_472 : decode cL_law 472 = .ok (.iaload, 1) := by decide +kernel
theorem dL_law_473 : decode cL_law 473 = .ok (.aload_n 0, 1) := by decide +kernel
theorem dL_law_474 : decode cL_law 474 = .ok (.iload_n 3, 1) := by decide +kernel
theorem dL_law_475 : decode cL_law 475 = .ok (.iconst 5, 1) := by decide +kernel
theorem dL_law_476 : decode cL_law 476 = .ok (.iadd, 1) := by decide +kernel
theorem dL_law_477 : decode cL_law 477 = .ok (.iaload, 1) := by decide +kernel
theorem dL_law_478 : decode cL_law 478 = .ok (.invokevirtual 48, 3) := by decide +kernel
theorem dL_law_481 : decode cL_law 481 = .ok (.if_icmp .eq 1268, 3) := by decide +kernel
theorem dL_law_484 : decode cL_law 484 = .ok (.iconst 0, 1) := by decide +kernel
theorem dL_law_485 : decode cL_law 485 = .ok (.ireturn, 1) := by decide +kernel
theorem dL_law_486 : decode cL_law 486 = .ok (.aload_n 1, 1) := by decide +kernel
theorem dL_law_487 : decode cL_law 487 = .ok (.aload_n 0, 1) := by decide +kernel
theorem dL_law_488 : decode cL_law 488 = .ok (.iload_n 3, 1) := by decide +kernel
theorem dL_law_489 : decode cL_law 489 = .ok (.iconst 1, 1) := by decide +kernel
theorem dL_law_490 : decode cL_law 490 = .ok (.iadd, 1) := by decide +kernel
theorem dL_law_491 : decode cL_law 491 = .ok (.iaload, 1) := by decide +kernel
theorem dL_law_492 : decode cL_law 492 = .ok (.aload_n 0, 1) := by decide +kernel
theorem dL_law_493 : decode cL_law 493 = .ok (.iload_n 3, 1) := by decide +kernel
theorem dL_law_494 : decode cL_law 494 = .ok (.iconst 2, 1) := by decide +kernel
theorem dL_law_495 : decode cL_law 495 = .ok (.iadd, 1) := by decide +kernel
theorem dL_law_496 : decode cL_law 496 = .ok (.iaload, 1) := by decide +kernel
theorem dL_law_497 : decode cL_law 497 = .ok (.aload_n 0, 1) := by decide +kernel
theorem dL_law_498 : decode cL_law 498 = .ok (.iload_n 3, 1) := by decide +kernel
theorem dL_law_499 : decode cL_law 499 = .ok (.iconst 3, 1) := by decide +kernel
theorem dL_law_500 : decode cL_law 500 = .ok (.iadd, 1) := by decide +kernel
theorem dL_law_501 : decode cL_law 501 = .ok (.iaload, 1) := by decide +kernel
theorem dL_law_502 : decode cL_law 502 = .ok (.aload_n 0, 1) := by decide +kernel
theorem dL_law_503 : decode cL_law 503 = .ok (.iload_n 3, 1) := by decide +kernel
theorem dL_law_504 : decode cL_law 504 = .ok (.iconst 4, 1) := by decide +kernel
theorem dL_law_505 : decode cL_law 505 = .ok (.iadd, 1) := by decide +kernel
theorem dL_law_506 : decode cL_law 506 = .ok (.iaload, 1) := by decide +kernel
theorem dL_law_507 : decode cL_law 507 = .ok (.aload_n 0, 1) := by decide +kernel
theorem dL_law_508 : decode cL_law 508 = .ok (.iload_n 3, 1) := by decide +kernel
theorem dL_law_509 : decode cL_law 509 = .ok (.iconst 5, 1) := by decide +kernel
theorem dL_law_510 : decode cL_law 510 = .ok (.iadd, 1) := by decide +kernel
theorem dL_law_511 : decode cL_law 511 = .ok (.iaload, 1) := by decide +kernel
theorem dL_law_512 : decode cL_law 512 = .ok (.invokevirtual 49, 3) := by decide +kernel
theorem dL_law_515 : decode cL_law 515 = .ok (.aload_n 2, 1) := by decide +kernel
theorem dL_law_516 : decode cL_law 516 = .ok (.aload_n 0, 1) := by decide +kernel
theorem dL_law_517 : decode cL_law 517 = .ok (.iload_n 3, 1) := by decide +kernel
theorem dL_law_518 : decode cL_law 518 = .ok (.iconst 1, 1) := by decide +kernel
theorem dL_law_519 : decode cL_law 519 = .ok (.iadd, 1) := by decide +kernel
theorem dL_law_520 : decode cL_law 520 = .ok (.iaload, 1) := by decide +kernel
theorem dL_law_521 : decode cL_law 521 = .ok (.aload_n 0, 1) := by decide +kernel
theorem dL_law_522 : decode cL_law 522 = .ok (.iload_n 3, 1) := by decide +kernel
theorem dL_law_523 : decode cL_law 523 = .ok (.iconst 2, 1) := by decide +kernel
theorem dL_law_524 : decode cL_law 524 = .ok (.iadd, 1) := by decide +kernel
theorem dL_law_525 : decode cL_law 525 = .ok (.iaload, 1) := by decide +kernel
theorem dL_law_526 : decode cL_law 526 = .ok (.aload_n 0, 1) := by decide +kernel
theorem dL_law_527 : decode cL_law 527 = .ok (.iload_n 3, 1) := by decide +kernel
theorem dL_law_528 : decode cL_law 528 = .ok (.iconst 3, 1) := by decide +kernel
theorem dL_law_529 : decode cL_law 529 = .ok (.iadd, 1) := by decide +kernel
theorem dL_law_530 : decode cL_law 530 = .ok (.iaload, 1) := by decide +kernel
theorem dL_law_531 : decode cL_law 531 = .ok (.aload_n 0, 1) := by decide +kernel
theorem dL_law_532 : decode cL_law 532 = .ok (.iload_n 3, 1) := by decide +kernel
theorem dL_law_533 : decode cL_law 533 = .ok (.iconst 4, 1) := by decide +kernel
theorem dL_law_534 : decode cL_law 534 = .ok (.iadd, 1) := by decide +kernel
theorem dL_law_535 : decode cL_law 535 = .ok (.iaload, 1) := by decide +kernel
theorem dL_law_536 : decode cL_law 536 = .ok (.aload_n 0, 1) := by decide +kernel
theorem dL_law_537 : decode cL_law 537 = .ok (.iload_n 3, 1) := by decide +kernel
theorem dL_law_538 : decode cL_law 538 = .ok (.iconst 5, 1) := by decide +kernel
theorem dL_law_539 : decode cL_law 539 = .ok (.iadd, 1) := by decide +kernel
theorem dL_law_540 : decode cL_law 540 = .ok (.iaload, 1) := by decide +kernel
theorem dL_law_541 : decode cL_law 541 = .ok (.invokevirtual 53, 3) := by decide +kernel
theorem dL_law_544 : decode cL_law 544 = .ok (.if_icmp .eq 1205, 3) := by decide +kernel
theorem dL_law_547 : decode cL_law 547 = .ok (.iconst 0, 1) := by decide +kernel
theorem dL_law_548 : decode cL_law 548 = .ok (.ireturn, 1) := by decide +kernel
theorem dL_law_549 : decode cL_law 549 = .ok (.aload_n 1, 1) := by decide +kernel
theorem dL_law_550 : decode cL_law 550 = .ok (.aload_n 0, 1) := by decide +kernel
theorem dL_law_551 : decode cL_law 551 = .ok (.iload_n 3, 1) := by decide +kernel
theorem dL_law_552 : decode cL_law 552 = .ok (.iconst 1, 1) := by decide +kernel
theorem dL_law_553 : decode cL_law 553 = .ok (.iadd, 1) := by decide +kernel
theorem dL_law_554 : decode cL_law 554 = .ok (.iaload, 1) := by decide +kernel
theorem dL_law_555 : decode cL_law 555 = .ok (.invokevirtual 54, 3) := by decide +kernel
theorem dL_law_558 : decode cL_law 558 = .ok (.aload_n 2, 1) := by decide +kernel
theorem dL_law_559 : decode cL_law 559 = .ok (.aload_n 0, 1) := by decide +kernel
theorem dL_law_560 : decode cL_law 560 = .ok (.iload_n 3, 1) := by decide +kernel
theorem dL_law_561 : decode cL_law 561 = .ok (.iconst 1, 1) := by decide +kernel
theorem dL_law_562 : decode cL_law 562 = .ok (.iadd, 1) := by decide +kernel
theorem dL_law_563 : decode cL_law 563 = .ok (.iaload, 1) := by decide +kernel
theorem dL_law_564 : decode cL_law 564 = .ok (.invokevirtual 58, 3) := by decide +kernel
theorem dL_law_567 : decode cL_law 567 = .ok (.if_icmp .eq 1182, 3) := by decide +kernel
theorem dL_law_570 : decode cL_law 570 = .ok (.iconst 0, 1) := by decide +kernel
theorem dL_law_571 : decode cL_law 571 = .ok (.ireturn, 1) := by decide +kernel
theorem dL_law_572 : decode cL_law 572 = .ok (.aload_n 1, 1) := by decide +kernel
theorem dL_law_573 : decode cL_law 573 = .ok (.aload_n 0, 1) := by decide +kernel
theorem dL_law_574 : decode cL_law 574 = .ok (.iload_n 3, 1) := by decide +kernel
theorem dL_law_575 : decode cL_law 575 = .ok (.iconst 1, 1) := by decide +kernel
theorem dL_law_576 : decode cL_law 576 = .ok (.iadd, 1) := by decide +kernel
theorem dL_law_577 : decode cL_law 577 = .ok (.iaload, 1) := by decide +kernel
theorem dL_law_578 : decode cL_law 578 = .ok (.invokevirtual 59, 3) := by decide +kernel
theorem dL_law_581 : decode cL_law 581 = .ok (.aload_n 2, 1) := by decide +kernel
theorem dL_law_582 : decode cL_law 582 = .ok (.aload_n 0, 1) := by decide +kernel
theorem dL_law_583 : decode cL_law 583 = .ok (.iload_n 3, 1) := by decide +kernel
theorem dL_law_584 : decode cL_law 584 = .ok (.iconst 1, 1) := by decide +kernel
theorem dL_law_585 : decode cL_law 585 = .ok (.iadd, 1) := by decide +kernel
theorem dL_law_586 : decode cL_law 586 = .ok (.iaload, 1) := by decide +kernel
theorem dL_law_587 : decode cL_law 587 = .ok (.invokevirtual 62, 3) := by decide +kernel
theorem dL_law_590 : decode cL_law 590 = .ok (.if_icmp .eq 1159, 3) := by decide +kernel
theorem dL_law_593 : decode cL_law 593 = .ok (.iconst 0, 1) := by decide +kernel
theorem dL_law_594 : decode cL_law 594 = .ok (.ireturn, 1) := by decide +kernel
theorem dL_law_595 : decode cL_law 595 = .ok (.aload_n 1, 1) := by decide +kernel
theorem dL_law_596 : decode cL_law 596 = .ok (.aload_n 0, 1) := by decide +kernel
theorem dL_law_597 : decode cL_law 597 = .ok (.iload_n 3, 1) := by decide +kernel
theorem dL_law_598 : decode cL_law 598 = .ok (.iconst 1, 1) := by decide +kernel
theorem dL_law_599 : decode cL_law 599 = .ok (.iadd, 1) := by decide +kernel
theorem dL_law_600 : decode cL_law 600 = .ok (.iaload, 1) := by decide +kernel
theorem dL_law_601 : decode cL_law 601 = .ok (.invokevirtual 63, 3) := by decide +kernel
theorem dL_law_604 : decode cL_law 604 = .ok (.aload_n 2, 1) := by decide +kernel
theorem dL_law_605 : decode cL_law 605 = .ok (.aload_n 0, 1) := by decide +kernel
theorem dL_law_606 : decode cL_law 606 = .ok (.iload_n 3, 1) := by decide +kernel
theorem dL_law_607 : decode cL_law 607 = .ok (.iconst 1, 1) := by decide +kernel
theorem dL_law_608 : decode cL_law 608 = .ok (.iadd, 1) := by decide +kernel
theorem dL_law_609 : decode cL_law 609 = .ok (.iaload, 1) := by decide +kernel
theorem dL_law_610 : decode cL_law 610 = .ok (.invokevirtual 66, 3) := by decide +kernel
theorem dL_law_613 : decode cL_law 613 = .ok (.if_icmp .eq 1136, 3) := by decide +kernel
theorem dL_law_616 : decode cL_law 616 = .ok (.iconst 0, 1) := by decide +kernel
theorem dL_law_617 : decode cL_law 617 = .ok (.ireturn, 1) := by decide +kernel
theorem dL_law_618 : decode cL_law 618 = .ok (.aload_n 1, 1) := by decide +kernel
theorem dL_law_619 : decode cL_law 619 = .ok (.aload_n 0, 1) := by decide +kernel
theorem dL_law_620 : decode cL_law 620 = .ok (.iload_n 3, 1) := by decide +kernel
theorem dL_law_621 : decode cL_law 621 = .ok (.iconst 1, 1) := by decide +kernel
theorem dL_law_622 : decode cL_law 622 = .ok (.iadd, 1) := by decide +kernel
theorem dL_law_623 : decode cL_law 623 = .ok (.iaload, 1) := by decide +kernel
theorem dL_law_624 : decode cL_law 624 = .ok (.invokevirtual 67, 3) := by decide +kernel
theorem dL_law_627 : decode cL_law 627 = .ok (.aload_n 2, 1) := by decide +kernel
theorem dL_law_628 : decode cL_law 628 = .ok (.aload_n 0, 1) := by decide +kernel
theorem dL_law_629 : decode cL_law 629 = .ok (.iload_n 3, 1) := by decide +kernel
theorem dL_law_630 : decode cL_law 630 = .ok (.iconst 1, 1) := by decide +kernel
theorem dL_law_631 : decode cL_law 631 = .ok (.iadd, 1) := by decide +kernel
theorem dL_law_632 : decode cL_law 632 = .ok (.iaload, 1) := by decide +kernel
theorem dL_law_633 : decode cL_law 633 = .ok (.invokevirtual 70, 3) := by decide +kernel
theorem dL_law_636 : decode cL_law 636 = .ok (.if_icmp .eq 1113, 3) := by decide +kernel
theorem dL_law_639 : decode cL_law 639 = .ok (.iconst 0, 1) := by decide +kernel
theorem dL_law_640 : decode cL_law 640 = .ok (.ireturn, 1) := by decide +kernel
theorem dL_law_641 : decode cL_law 641 = .ok (.aload_n 1, 1) := by decide +kernel
theorem dL_law_642 : decode cL_law 642 = .ok (.aload_n 0, 1) := by decide +kernel
theorem dL_law_643 : decode cL_law 643 = .ok (.iload_n 3, 1) := by decide +kernel
theorem dL_law_644 : decode cL_law 644 = .ok (.iconst 1, 1) := by decide +kernel
theorem dL_law_645 : decode cL_law 645 = .ok (.iadd, 1) := by decide +kernel
theorem dL_law_646 : decode cL_law 646 = .ok (.iaload, 1) := by decide +kernel
theorem dL_law_647 : decode cL_law 647 = .ok (.aload_n 0, 1) := by decide +kernel
theorem dL_law_648 : decode cL_law 648 = .ok (.iload_n 3, 1) := by decide +kernel
theorem dL_law_649 : decode cL_law 649 = .ok (.iconst 2, 1) := by decide +kernel
theorem dL_law_650 : decode cL_law 650 = .ok (.iadd, 1) := by decide +kernel
theorem dL_law_651 : decode cL_law 651 = .ok (.iaload, 1) := by decide +kernel
theorem dL_law_652 : decode cL_law 652 = .ok (.invokevirtual 71, 3) := by decide +kernel
theorem dL_law_655 : decode cL_law 655 = .ok (.aload_n 2, 1) := by decide +kernel
theorem dL_law_656 : decode cL_law 656 = .ok (.aload_n 0, 1) := by decide +kernel
theorem dL_law_657 : decode cL_law 657 = .ok (.iload_n 3, 1) := by decide +kernel
theorem dL_law_658 : decode cL_law 658 = .ok (.iconst 1, 1) := by decide +kernel
theorem dL_law_659 : decode cL_law 659 = .ok (.iadd, 1) := by decide +kernel
theorem dL_law_660 : decode cL_law 660 = .ok (.iaload, 1) := by decide +kernel
theorem dL_law_661 : decode cL_law 661 = .ok (.aload_n 0, 1) := by decide +kernel
theorem dL_law_662 : decode cL_law 662 = .ok (.iload_n 3, 1) := by decide +kernel
theorem dL_law_663 : decode cL_law 663 = .ok (.iconst 2, 1) := by decide +kernel
theorem dL_law_664 : decode cL_law 664 = .ok (.iadd, 1) := by decide +kernel
theorem dL_law_665 : decode cL_law 665 = .ok (.iaload, 1) := by decide +kernel
theorem dL_law_666 : decode cL_law 666 = .ok (.invokevirtual 75, 3) := by decide +kernel
theorem dL_law_669 : decode cL_law 669 = .ok (.if_icmp .eq 1080, 3) := by decide +kernel
theorem dL_law_672 : decode cL_law 672 = .ok (.iconst 0, 1) := by decide +kernel
theorem dL_law_673 : decode cL_law 673 = .ok (.ireturn, 1) := by decide +kernel
theorem dL_law_674 : decode cL_law 674 = .ok (.aload_n 1, 1) := by decide +kernel
theorem dL_law_675 : decode cL_law 675 = .ok (.aload_n 0, 1) := by decide +kernel
theorem dL_law_676 : decode cL_law 676 = .ok (.iload_n 3, 1) := by decide +kernel
theorem dL_law_677 : decode cL_law 677 = .ok (.iconst 1, 1) := by decide +kernel
theorem dL_law_678 : decode cL_law 678 = .ok (.iadd, 1) := by decide +kernel
theorem dL_law_679 : decode cL_law 679 = .ok (.iaload, 1) := by decide +kernel
theorem dL_law_680 : decode cL_law 680 = .ok (.invokevirtual 76, 3) := by decide +kernel
theorem dL_law_683 : decode cL_law 683 = .ok (.aload_n 2, 1) := by decide +kernel
theorem dL_law_684 : decode cL_law 684 = .ok (.aload_n 0, 1) := by decide +kernel
theorem dL_law_685 : decode cL_law 685 = .ok (.iload_n 3, 1) := by decide +kernel
theorem dL_law_686 : decode cL_law 686 = .ok (.iconst 1, 1) := by decide +kernel
theorem dL_law_687 : decode cL_law 687 = .ok (.iadd, 1) := by decide +kernel
theorem dL_law_688 : decode cL_law 688 = .ok (.iaload, 1) := by decide +kernel
theorem dL_law_689 : decode cL_law 689 = .ok (.invokevirtual 79, 3) := by decide +kernel
theorem dL_law_692 : decode cL_law 692 = .ok (.if_icmp .eq 1057, 3) := by decide +kernel
theorem dL_law_695 : decode cL_law 695 = .ok (.iconst 0, 1) := by decide +kernel
theorem dL_law_696 : decode cL_law 696 = .ok (.ireturn, 1) := by decide +kernel
theorem dL_law_697 : decode cL_law 697 = .ok (.aload_n 1, 1) := by decide +kernel
theorem dL_law_698 : decode cL_law 698 = .ok (.aload_n 0, 1) := by decide +kernel
theorem dL_law_699 : decode cL_law 699 = .ok (.iload_n 3, 1) := by decide +kernel
theorem dL_law_700 : decode cL_law 700 = .ok (.iconst 1, 1) := by decide +kernel
theorem dL_law_701 : decode cL_law 701 = .ok (.iadd, 1) := by decide +kernel
theorem dL_law_702 : decode cL_law 702 = .ok (.iaload, 1) := by decide +kernel
theorem dL_law_703 : decode cL_law 703 = .ok (.invokevirtual 80, 3) := by decide +kernel
theorem dL_law_706 : decode cL_law 706 = .ok (.aload_n 2, 1) := by decide +kernel
theorem dL_law_707 : decode cL_law 707 = .ok (.aload_n 0, 1) := by decide +kernel
theorem dL_law_708 : decode cL_law 708 = .ok (.iload_n 3, 1) := by decide +kernel
theorem dL_law_709 : decode cL_law 709 = .ok (.iconst 1, 1) := by decide +kernel
theorem dL_law_710 : decode cL_law 710 = .ok (.iadd, 1) := by decide +kernel
theorem dL_law_711 : decode cL_law 711 = .ok (.iaload, 1) := by decide +kernel
theorem dL_law_712 : decode cL_law 712 = .ok (.invokevirtual 83, 3) := by decide +kernel
theorem dL_law_715 : decode cL_law 715 = .ok (.if_icmp .eq 1034, 3) := by decide +kernel
theorem dL_law_718 : decode cL_law 718 = .ok (.iconst 0, 1) := by decide +kernel
theorem dL_law_719 : decode cL_law 719 = .ok (.ireturn, 1) := by decide +kernel
theorem dL_law_720 : decode cL_law 720 = .ok (.aload_n 1, 1) := by decide +kernel
theorem dL_law_721 : decode cL_law 721 = .ok (.aload_n 0, 1) := by decide +kernel
theorem dL_law_722 : decode cL_law 722 = .ok (.iload_n 3, 1) := by decide +kernel
theorem dL_law_723 : decode cL_law 723 = .ok (.iconst 1, 1) := by decide +kernel
theorem dL_law_724 : decode cL_law 724 = .ok (.iadd, 1) := by decide +kernel
theorem dL_law_725 : decode cL_law 725 = .ok (.iaload, 1) := by decide +kernel
theorem dL_law_726 : decode cL_law 726 = .ok (.aload_n 0, 1) := by decide +kernel
theorem dL_law_727 : decode cL_law 727 = .ok (.iload_n 3, 1) := by decide +kernel
theorem dL_law_728 : decode cL_law 728 = .ok (.iconst 2, 1) := by decide +kernel
theorem dL_law_729 : decode cL_law 729 = .ok (.iadd, 1) := by decide +kernel
theorem dL_law_730 : decode cL_law 730 = .ok (.iaload, 1) := by decide +kernel
theorem dL_law_731 : decode cL_law 731 = .ok (.invokevirtual 84, 3) := by decide +kernel
theorem dL_law_734 : decode cL_law 734 = .ok (.aload_n 2, 1) := by decide +kernel
theorem dL_law_735 : decode cL_law 735 = .ok (.aload_n 0, 1) := by decide +kernel
theorem dL_law_736 : decode cL_law 736 = .ok (.iload_n 3, 1) := by decide +kernel
theorem dL_law_737 : decode cL_law 737 = .ok (.iconst 1, 1) := by decide +kernel
theorem dL_law_738 : decode cL_law 738 = .ok (.iadd, 1) := by decide +kernel
theorem dL_law_739 : decode cL_law 739 = .ok (.iaload, 1) := by decide +kernel
theorem dL_law_740 : decode cL_law 740 = .ok (.aload_n 0, 1) := by decide +kernel
theorem dL_law_741 : decode cL_law 741 = .ok (.iload_n 3, 1) := by decide +kernel
theorem dL_law_742 : decode cL_law 742 = .ok (.iconst 2, 1) := by decide +kernel
theorem dL_law_743 : decode cL_law 743 = .ok (.iadd, 1) := by decide +kernel
theorem dL_law_744 : decode cL_law 744 = .ok (.iaload, 1) := by decide +kernel
theorem dL_law_745 : decode cL_law 745 = .ok (.invokevirtual 87, 3) := by decide +kernel
theorem dL_law_748 : decode cL_law 748 = .ok (.if_icmp .eq 1001, 3) := by decide +kernel
theorem dL_law_751 : decode cL_law 751 = .ok (.iconst 0, 1) := by decide +kernel
theorem dL_law_752 : decode cL_law 752 = .ok (.ireturn, 1) := by decide +kernel
theorem dL_law_753 : decode cL_law 753 = .ok (.aload_n 1, 1) := by decide +kernel
theorem dL_law_754 : decode cL_law 754 = .ok (.aload_n 0, 1) := by decide +kernel
theorem dL_law_755 : decode cL_law 755 = .ok (.iload_n 3, 1) := by decide +kernel
theorem dL_law_756 : decode cL_law 756 = .ok (.iconst 1, 1) := by decide +kernel
theorem dL_law_757 : decode cL_law 757 = .ok (.iadd, 1) := by decide +kernel
theorem dL_law_758 : decode cL_law 758 = .ok (.iaload, 1) := by decide +kernel
theorem dL_law_759 : decode cL_law 759 = .ok (.invokevirtual 88, 3) := by decide +kernel
theorem dL_law_762 : decode cL_law 762 = .ok (.aload_n 2, 1) := by decide +kernel
theorem dL_law_763 : decode cL_law 763 = .ok (.aload_n 0, 1) := by decide +kernel
theorem dL_law_764 : decode cL_law 764 = .ok (.iload_n 3, 1) := by decide +kernel
theorem dL_law_765 : decode cL_law 765 = .ok (.iconst 1, 1) := by decide +kernel
theorem dL_law_766 : decode cL_law 766 = .ok (.iadd, 1) := by decide +kernel
theorem dL_law_767 : decode cL_law 767 = .ok (.iaload, 1) := by decide +kernel
theorem dL_law_768 : decode cL_law 768 = .ok (.invokevirtual 91, 3) := by decide +kernel
theorem dL_law_771 : decode cL_law 771 = .ok (.if_icmp .eq 978, 3) := by decide +kernel
theorem dL_law_774 : decode cL_law 774 = .ok (.iconst 0, 1) := by decide +kernel
theorem dL_law_775 : decode cL_law 775 = .ok (.ireturn, 1) := by decide +kernel
theorem dL_law_776 : decode cL_law 776 = .ok (.aload_n 1, 1) := by decide +kernel
theorem dL_law_777 : decode cL_law 777 = .ok (.aload_n 0, 1) := by decide +kernel
theorem dL_law_778 : decode cL_law 778 = .ok (.iload_n 3, 1) := by decide +kernel
theorem dL_law_779 : decode cL_law 779 = .ok (.iconst 1, 1) := by decide +kernel
theorem dL_law_780 : decode cL_law 780 = .ok (.iadd, 1) := by decide +kernel
theorem dL_law_781 : decode cL_law 781 = .ok (.iaload, 1) := by decide +kernel
theorem dL_law_782 : decode cL_law 782 = .ok (.invokevirtual 92, 3) := by decide +kernel
theorem dL_law_785 : decode cL_law 785 = .ok (.aload_n 2, 1) := by decide +kernel
theorem dL_law_786 : decode cL_law 786 = .ok (.aload_n 0, 1) := by decide +kernel
theorem dL_law_787 : decode cL_law 787 = .ok (.iload_n 3, 1) := by decide +kernel
theorem dL_law_788 : decode cL_law 788 = .ok (.iconst 1, 1) := by decide +kernel
theorem dL_law_789 : decode cL_law 789 = .ok (.iadd, 1) := by decide +kernel
theorem dL_law_790 : decode cL_law 790 = .ok (.iaload, 1) := by decide +kernel
theorem dL_law_791 : decode cL_law 791 = .ok (.invokevirtual 95, 3) := by decide +kernel
theorem dL_law_794 : decode cL_law 794 = .ok (.if_icmp .eq 955, 3) := by decide +kernel
theorem dL_law_797 : decode cL_law 797 = .ok (.iconst 0, 1) := by decide +kernel
theorem dL_law_798 : decode cL_law 798 = .ok (.ireturn, 1) := by decide +kernel
theorem dL_law_799 : decode cL_law 799 = .ok (.aload_n 1, 1) := by decide +kernel
theorem dL_law_800 : decode cL_law 800 = .ok (.aload_n 0, 1) := by decide +kernel
theorem dL_law_801 : decode cL_law 801 = .ok (.iload_n 3, 1) := by decide +kernel
theorem dL_law_802 : decode cL_law 802 = .ok (.iconst 1, 1) := by decide +kernel
theorem dL_law_803 : decode cL_law 803 = .ok (.iadd, 1) := by decide +kernel
theorem dL_law_804 : decode cL_law 804 = .ok (.iaload, 1) := by decide +kernel
theorem dL_law_805 : decode cL_law 805 = .ok (.invokevirtual 96, 3) := by decide +kernel
theorem dL_law_808 : decode cL_law 808 = .ok (.aload_n 2, 1) := by decide +kernel
theorem dL_law_809 : decode cL_law 809 = .ok (.aload_n 0, 1) := by decide +kernel
theorem dL_law_810 : decode cL_law 810 = .ok (.iload_n 3, 1) := by decide +kernel
theorem dL_law_811 : decode cL_law 811 = .ok (.iconst 1, 1) := by decide +kernel
theorem dL_law_812 : decode cL_law 812 = .ok (.iadd, 1) := by decide +kernel
theorem dL_law_813 : decode cL_law 813 = .ok (.iaload, 1) := by decide +kernel
theorem dL_law_814 : decode cL_law 814 = .ok (.invokevirtual 100, 3) := by decide +kernel
theorem dL_law_817 : decode cL_law 817 = .ok (.if_icmp .eq 932, 3) := by decide +kernel
theorem dL_law_820 : decode cL_law 820 = .ok (.iconst 0, 1) := by decide +kernel
theorem dL_law_821 : decode cL_law 821 = .ok (.ireturn, 1) := by decide +kernel
theorem dL_law_822 : decode cL_law 822 = .ok (.aload_n 1, 1) := by decide +kernel
theorem dL_law_823 : decode cL_law 823 = .ok (.aload_n 0, 1) := by decide +kernel
theorem dL_law_824 : decode cL_law 824 = .ok (.iload_n 3, 1) := by decide +kernel
theorem dL_law_825 : decode cL_law 825 = .ok (.iconst 1, 1) := by decide +kernel
theorem dL_law_826 : decode cL_law 826 = .ok (.iadd, 1) := by decide +kernel
theorem dL_law_827 : decode cL_law 827 = .ok (.iaload, 1) := by decide +kernel
theorem dL_law_828 : decode cL_law 828 = .ok (.invokevirtual 101, 3) := by decide +kernel
theorem dL_law_831 : decode cL_law 831 = .ok (.aload_n 2, 1) := by decide +kernel
theorem dL_law_832 : decode cL_law 832 = .ok (.aload_n 0, 1) := by decide +kernel
theorem dL_law_833 : decode cL_law 833 = .ok (.iload_n 3, 1) := by decide +kernel
theorem dL_law_834 : decode cL_law 834 = .ok (.iconst 1, 1) := by decide +kernel
theorem dL_law_835 : decode cL_law 835 = .ok (.iadd, 1) := by decide +kernel
theorem dL_law_836 : decode cL_law 836 = .ok (.iaload, 1) := by decide +kernel
theorem dL_law_837 : decode cL_law 837 = .ok (.invokevirtual 104, 3) := by decide +kernel
theorem dL_law_840 : decode cL_law 840 = .ok (.if_icmp .eq 909, 3) := by decide +kernel
theorem dL_law_843 : decode cL_law 843 = .ok (.iconst 0, 1) := by decide +kernel
theorem dL_law_844 : decode cL_law 844 = .ok (.ireturn, 1) := by decide +kernel
theorem dL_law_845 : decode cL_law 845 = .ok (.aload_n 1, 1) := by decide +kernel
theorem dL_law_846 : decode cL_law 846 = .ok (.aload_n 0, 1) := by decide +kernel
theorem dL_law_847 : decode cL_law 847 = .ok (.iload_n 3, 1) := by decide +kernel
theorem dL_law_848 : decode cL_law 848 = .ok (.iconst 1, 1) := by decide +kernel
theorem dL_law_849 : decode cL_law 849 = .ok (.iadd, 1) := by decide +kernel
theorem dL_law_850 : decode cL_law 850 = .ok (.iaload, 1) := by decide +kernel
theorem dL_law_851 : decode cL_law 851 = .ok (.invokevirtual 105, 3) := by decide +kernel
theorem dL_law_854 : decode cL_law 854 = .ok (.aload_n 2, 1) := by decide +kernel
theorem dL_law_855 : decode cL_law 855 = .ok (.aload_n 0, 1) := by decide +kernel
theorem dL_law_856 : decode cL_law 856 = .ok (.iload_n 3, 1) := by decide +kernel
theorem dL_law_857 : decode cL_law 857 = .ok (.iconst 1, 1) := by decide +kernel
theorem dL_law_858 : decode cL_law 858 = .ok (.iadd, 1) := by decide +kernel
theorem dL_law_859 : decode cL_law 859 = .ok (.iaload, 1) := by decide +kernel
theorem dL_law_860 : decode cL_law 860 = .ok (.invokevirtual 108, 3) := by decide +kernel
theorem dL_law_863 : decode cL_law 863 = .ok (.if_icmp .eq 886, 3) := by decide +kernel
theorem dL_law_866 : decode cL_law 866 = .ok (.iconst 0, 1) := by decide +kernel
theorem dL_law_867 : decode cL_law 867 = .ok (.ireturn, 1) := by decide +kernel
theorem dL_law_868 : decode cL_law 868 = .ok (.aload_n 1, 1) := by decide +kernel
theorem dL_law_869 : decode cL_law 869 = .ok (.aload_n 0, 1) := by decide +kernel
theorem dL_law_870 : decode cL_law 870 = .ok (.iload_n 3, 1) := by decide +kernel
theorem dL_law_871 : decode cL_law 871 = .ok (.iconst 1, 1) := by decide +kernel
theorem dL_law_872 : decode cL_law 872 = .ok (.iadd, 1) := by decide +kernel
theorem dL_law_873 : decode cL_law 873 = .ok (.iaload, 1) := by decide +kernel
theorem dL_law_874 : decode cL_law 874 = .ok (.aload_n 0, 1) := by decide +kernel
theorem dL_law_875 : decode cL_law 875 = .ok (.iload_n 3, 1) := by decide +kernel
theorem dL_law_876 : decode cL_law 876 = .ok (.iconst 2, 1) := by decide +kernel
theorem dL_law_877 : decode cL_law 877 = .ok (.iadd, 1) := by decide +kernel
theorem dL_law_878 : decode cL_law 878 = .ok (.iaload, 1) := by decide +kernel
theorem dL_law_879 : decode cL_law 879 = .ok (.invokevirtual 109, 3) := by decide +kernel
theorem dL_law_882 : decode cL_law 882 = .ok (.aload_n 2, 1) := by decide +kernel
theorem dL_law_883 : decode cL_law 883 = .ok (.aload_n 0, 1) := by decide +kernel
theorem dL_law_884 : decode cL_law 884 = .ok (.iload_n 3, 1) := by decide +kernel
theorem dL_law_885 : decode cL_law 885 = .ok (.iconst 1, 1) := by decide +kernel
theorem dL_law_886 : decode cL_law 886 = .ok (.iadd, 1) := by decide +kernel
theorem dL_law_887 : decode cL_law 887 = .ok (.iaload, 1) := by decide +kernel
theorem dL_law_888 : decode cL_law 888 = .ok (.aload_n 0, 1) := by decide +kernel
theorem dL_law_889 : decode cL_law 889 = .ok (.iload_n 3, 1) := by decide +kernel
theorem dL_law_890 : decode cL_law 890 = .ok (.iconst 2, 1) := by decide +kernel
theorem dL_law_891 : decode cL_law 891 = .ok (.iadd, 1) := by decide +kernel
theorem dL_law_892 : decode cL_law 892 = .ok (.iaload, 1) := by decide +kernel
theorem dL_law_893 : decode cL_law 893 = .ok (.invokevirtual 113, 3) := by decide +kernel
theorem dL_law_896 : decode cL_law 896 = .ok (.if_icmp .eq 853, 3) := by decide +kernel
theorem dL_law_899 : decode cL_law 899 = .ok (.iconst 0, 1) := by decide +kernel
theorem dL_law_900 : decode cL_law 900 = .ok (.ireturn, 1) := by decide +kernel
theorem dL_law_901 : decode cL_law 901 = .ok (.aload_n 1, 1) := by decide +kernel
theorem dL_law_902 : decode cL_law 902 = .ok (.aload_n 0, 1) := by decide +kernel
theorem dL_law_903 : decode cL_law 903 = .ok (.iload_n 3, 1) := by decide +kernel
theorem dL_law_904 : decode cL_law 904 = .ok (.iconst 1, 1) := by decide +kernel
theorem dL_law_905 : decode cL_law 905 = .ok (.iadd, 1) := by decide +kernel
theorem dL_law_906 : decode cL_law 906 = .ok (.iaload, 1) := by decide +kernel
theorem dL_law_907 : decode cL_law 907 = .ok (.aload_n 0, 1) := by decide +kernel
theorem dL_law_908 : decode cL_law 908 = .ok (.iload_n 3, 1) := by decide +kernel
theorem dL_law_909 : decode cL_law 909 = .ok (.iconst 2, 1) := by decide +kernel
theorem dL_law_910 : decode cL_law 910 = .ok (.iadd, 1) := by decide +kernel
theorem dL_law_911 : decode cL_law 911 = .ok (.iaload, 1) := by decide +kernel
theorem dL_law_912 : decode cL_law 912 = .ok (.ifCond .eq 7, 3) := by decide +kernel
theorem dL_law_915 : decode cL_law 915 = .ok (.iconst 1, 1) := by decide +kernel
theorem dL_law_916 : decode cL_law 916 = .ok (.goto 4, 3) := by decide +kernel
theorem dL_law_919 : decode cL_law 919 = .ok (.iconst 0, 1) := by decide +kernel
theorem dL_law_920 : decode cL_law 920 = .ok (.invokevirtual 114, 3) := by decide +kernel
theorem dL_law_923 : decode cL_law 923 = .ok (.aload_n 2, 1) := by decide +kernel
theorem dL_law_924 : decode cL_law 924 = .ok (.aload_n 0, 1) := by decide +kernel
theorem dL_law_925 : decode cL_law 925 = .ok (.iload_n 3, 1) := by decide +kernel
theorem dL_law_926 : decode cL_law 926 = .ok (.iconst 1, 1) := by decide +kernel
theorem dL_law_927 : decode cL_law 927 = .ok (.iadd, 1) := by decide +kernel
theorem dL_law_928 : decode cL_law 928 = .ok (.iaload, 1) := by decide +kernel
theorem dL_law_929 : decode cL_law 929 = .ok (.aload_n 0, 1) := by decide +kernel
theorem dL_law_930 : decode cL_law 930 = .ok (.iload_n 3, 1) := by decide +kernel
theorem dL_law_931 : decode cL_law 931 = .ok (.iconst 2, 1) := by decide +kernel
theorem dL_law_932 : decode cL_law 932 = .ok (.iadd, 1) := by decide +kernel
theorem dL_law_933 : decode cL_law 933 = .ok (.iaload, 1) := by decide +kernel
theorem dL_law_934 : decode cL_law 934 = .ok (.ifCond .eq 7, 3) := by decide +kernel
theorem dL_law_937 : decode cL_law 937 = .ok (.iconst 1, 1) := by decide +kernel
theorem dL_law_938 : decode cL_law 938 = .ok (.goto 4, 3) := by decide +kernel
theorem dL_law_941 : decode cL_law 941 = .ok (.iconst 0, 1) := by decide +kernel
theorem dL_law_942 : decode cL_law 942 = .ok (.invokevirtual 118, 3) := by decide +kernel
theorem dL_law_945 : decode cL_law 945 = .ok (.if_icmp .eq 804, 3) := by decide +kernel
theorem dL_law_948 : decode cL_law 948 = .ok (.iconst 0, 1) := by decide +kernel
theorem dL_law_949 : decode cL_law 949 = .ok (.ireturn, 1) := by decide +kernel
theorem dL_law_950 : decode cL_law 950 = .ok (.aload_n 1, 1) := by decide +kernel
theorem dL_law_951 : decode cL_law 951 = .ok (.aload_n 0, 1) := by decide +kernel
theorem dL_law_952 : decode cL_law 952 = .ok (.iload_n 3, 1) := by decide +kernel
theorem dL_law_953 : decode cL_law 953 = .ok (.iconst 1, 1) := by decide +kernel
theorem dL_law_954 : decode cL_law 954 = .ok (.iadd, 1) := by decide +kernel
theorem dL_law_955 : decode cL_law 955 = .ok (.iaload, 1) := by decide +kernel
theorem dL_law_956 : decode cL_law 956 = .ok (.invokevirtual 119, 3) := by decide +kernel
theorem dL_law_959 : decode cL_law 959 = .ok (.aload_n 2, 1) := by decide +kernel
theorem dL_law_960 : decode cL_law 960 = .ok (.aload_n 0, 1) := by decide +kernel
theorem dL_law_961 : decode cL_law 961 = .ok (.iload_n 3, 1) := by decide +kernel
theorem dL_law_962 : decode cL_law 962 = .ok (.iconst 1, 1) := by decide +kernel
theorem dL_law_963 : decode cL_law 963 = .ok (.iadd, 1) := by decide +kernel
theorem dL_law_964 : decode cL_law 964 = .ok (.iaload, 1) := by decide +kernel
theorem dL_law_965 : decode cL_law 965 = .ok (.invokevirtual 122, 3) := by decide +kernel
theorem dL_law_968 : decode cL_law 968 = .ok (.if_icmp .eq 781, 3) := by decide +kernel
theorem dL_law_971 : decode cL_law 971 = .ok (.iconst 0, 1) := by decide +kernel
theorem dL_law_972 : decode cL_law 972 = .ok (.ireturn, 1) := by decide +kernel
theorem dL_law_973 : decode cL_law 973 = .ok (.aload_n 1, 1) := by decide +kernel
theorem dL_law_974 : decode cL_law 974 = .ok (.invokevirtual 123, 3) := by decide +kernel
theorem dL_law_977 : decode cL_law 977 = .ok (.aload_n 2, 1) := by decide +kernel
theorem dL_law_978 : decode cL_law 978 = .ok (.invokevirtual 127, 3) := by decide +kernel
theorem dL_law_981 : decode cL_law 981 = .ok (.if_icmp .eq 768, 3) := by decide +kernel
theorem dL_law_984 : decode cL_law 984 = .ok (.iconst 0, 1) := by decide +kernel
theorem dL_law_985 : decode cL_law 985 = .ok (.ireturn, 1) := by decide +kernel
theorem dL_law_986 : decode cL_law 986 = .ok (.aload_n 1, 1) := by decide +kernel
theorem dL_law_987 : decode cL_law 987 = .ok (.aload_n 0, 1) := by decide +kernel
theorem dL_law_988 : decode cL_law 988 = .ok (.iload_n 3, 1) := by decide +kernel
theorem dL_law_989 : decode cL_law 989 = .ok (.iconst 1, 1) := by decide +kernel
theorem dL_law_990 : decode cL_law 990 = .ok (.iadd, 1) := by decide +kernel
theorem dL_law_991 : decode cL_law 991 = .ok (.iaload, 1) := by decide +kernel
theorem dL_law_992 : decode cL_law 992 = .ok (.aload_n 0, 1) := by decide +kernel
theorem dL_law_993 : decode cL_law 993 = .ok (.iload_n 3, 1) := by decide +kernel
theorem dL_law_994 : decode cL_law 994 = .ok (.iconst 2, 1) := by decide +kernel
theorem dL_law_995 : decode cL_law 995 = .ok (.iadd, 1) := by decide +kernel
theorem dL_law_996 : decode cL_law 996 = .ok (.iaload, 1) := by decide +kernel
theorem dL_law_997 : decode cL_law 997 = .ok (.invokevirtual 128, 3) := by decide +kernel
theorem dL_law_1000 : decode cL_law 1000 = .ok (.aload_n 2, 1) := by decide +kernel
theorem dL_law_1001 : decode cL_law 1001 = .ok (.aload_n 0, 1) := by decide +kernel
theorem dL_law_1002 : decode cL_law 1002 = .ok (.iload_n 3, 1) := by decide +kernel
theorem dL_law_1003 : decode cL_law 1003 = .ok (.iconst 1, 1) := by decide +kernel
theorem dL_law_1004 : decode cL_law 1004 = .ok (.iadd, 1) := by decide +kernel
theorem dL_law_1005 : decode cL_law 1005 = .ok (.iaload, 1) := by decide +kernel
theorem dL_law_1006 : decode cL_law 1006 = .ok (.aload_n 0, 1) := by decide +kernel
theorem dL_law_1007 : decode cL_law 1007 = .ok (.iload_n 3, 1) := by decide +kernel
theorem dL_law_1008 : decode cL_law 1008 = .ok (.iconst 2, 1) := by decide +kernel
theorem dL_law_1009 : decode cL_law 1009 = .ok (.iadd, 1) := by decide +kernel
theorem dL_law_1010 : decode cL_law 1010 = .ok (.iaload, 1) := by decide +kernel
theorem dL_law_1011 : decode cL_law 1011 = .ok (.invokevirtual 131, 3) := by decide +kernel
theorem dL_law_1014 : decode cL_law 1014 = .ok (.if_icmp .eq 735, 3) := by decide +kernel
theorem dL_law_1017 : decode cL_law 1017 = .ok (.iconst 0, 1) := by decide +kernel
theorem dL_law_1018 : decode cL_law 1018 = .ok (.ireturn, 1) := by decide +kernel
theorem dL_law_1019 : decode cL_law 1019 = .ok (.aload_n 1, 1) := by decide +kernel
theorem dL_law_1020 : decode cL_law 1020 = .ok (.aload_n 0, 1) := by decide +kernel
theorem dL_law_1021 : decode cL_law 1021 = .ok (.iload_n 3, 1) := by decide +kernel
theorem dL_law_1022 : decode cL_law 1022 = .ok (.iconst 1, 1) := by decide +kernel
theorem dL_law_1023 : decode cL_law 1023 = .ok (.iadd, 1) := by decide +kernel
theorem dL_law_1024 : decode cL_law 1024 = .ok (.iaload, 1) := by decide +kernel
theorem dL_law_1025 : decode cL_law 1025 = .ok (.aload_n 0, 1) := by decide +kernel
theorem dL_law_1026 : decode cL_law 1026 = .ok (.iload_n 3, 1) := by decide +kernel
theorem dL_law_1027 : decode cL_law 1027 = .ok (.iconst 2, 1) := by decide +kernel
theorem dL_law_1028 : decode cL_law 1028 = .ok (.iadd, 1) := by decide +kernel
theorem dL_law_1029 : decode cL_law 1029 = .ok (.iaload, 1) := by decide +kernel
theorem dL_law_1030 : decode cL_law 1030 = .ok (.aload_n 0, 1) := by decide +kernel
theorem dL_law_1031 : decode cL_law 1031 = .ok (.iload_n 3, 1) := by decide +kernel
theorem dL_law_1032 : decode cL_law 1032 = .ok (.iconst 3, 1) := by decide +kernel
theorem dL_law_1033 : decode cL_law 1033 = .ok (.iadd, 1) := by decide +kernel
theorem dL_law_1034 : decode cL_law 1034 = .ok (.iaload, 1) := by decide +kernel
theorem dL_law_1035 : decode cL_law 1035 = .ok (.invokevirtual 132, 3) := by decide +kernel
theorem dL_law_1038 : decode cL_law 1038 = .ok (.aload_n 2, 1) := by decide +kernel
theorem dL_law_1039 : decode cL_law 1039 = .ok (.aload_n 0, 1) := by decide +kernel
theorem dL_law_1040 : decode cL_law 1040 = .ok (.iload_n 3, 1) := by decide +kernel
theorem dL_law_1041 : decode cL_law 1041 = .ok (.iconst 1, 1) := by decide +kernel
theorem dL_law_1042 : decode cL_law 1042 = .ok (.iadd, 1) := by decide +kernel
theorem dL_law_1043 : decode cL_law 1043 = .ok (.iaload, 1) := by decide +kernel
theorem dL_law_1044 : decode cL_law 1044 = .ok (.aload_n 0, 1) := by decide +kernel
theorem dL_law_1045 : decode cL_law 1045 = .ok (.iload_n 3, 1) := by decide +kernel
theorem dL_law_1046 : decode cL_law 1046 = .ok (.iconst 2, 1) := by decide +kernel
theorem dL_law_1047 : decode cL_law 1047 = .ok (.iadd, 1) := by decide +kernel
theorem dL_law_1048 : decode cL_law 1048 = .ok (.iaload, 1) := by decide +kernel
theorem dL_law_1049 : decode cL_law 1049 = .ok (.aload_n 0, 1) := by decide +kernel
theorem dL_law_1050 : decode cL_law 1050 = .ok (.iload_n 3, 1) := by decide +kernel
theorem dL_law_1051 : decode cL_law 1051 = .ok (.iconst 3, 1) := by decide +kernel
theorem dL_law_1052 : decode cL_law 1052 = .ok (.iadd, 1) := by decide +kernel
theorem dL_law_1053 : decode cL_law 1053 = .ok (.iaload, 1) := by decide +kernel
theorem dL_law_1054 : decode cL_law 1054 = .ok (.invokevirtual 136, 3) := by decide +kernel
theorem dL_law_1057 : decode cL_law 1057 = .ok (.if_icmp .eq 692, 3) := by decide +kernel
theorem dL_law_1060 : decode cL_law 1060 = .ok (.iconst 0, 1) := by decide +kernel
theorem dL_law_1061 : decode cL_law 1061 = .ok (.ireturn, 1) := by decide +kernel
theorem dL_law_1062 : decode cL_law 1062 = .ok (.aload_n 1, 1) := by decide +kernel
theorem dL_law_1063 : decode cL_law 1063 = .ok (.aload_n 0, 1) := by decide +kernel
theorem dL_law_1064 : decode cL_law 1064 = .ok (.iload_n 3, 1) := by decide +kernel
theorem dL_law_1065 : decode cL_law 1065 = .ok (.iconst 1, 1) := by decide +kernel
theorem dL_law_1066 : decode cL_law 1066 = .ok (.iadd, 1) := by decide +kernel
theorem dL_law_1067 : decode cL_law 1067 = .ok (.iaload, 1) := by decide +kernel
theorem dL_law_1068 : decode cL_law 1068 = .ok (.aload_n 0, 1) := by decide +kernel
theorem dL_law_1069 : decode cL_law 1069 = .ok (.iload_n 3, 1) := by decide +kernel
theorem dL_law_1070 : decode cL_law 1070 = .ok (.iconst 2, 1) := by decide +kernel
theorem dL_law_1071 : decode cL_law 1071 = .ok (.iadd, 1) := by decide +kernel
theorem dL_law_1072 : decode cL_law 1072 = .ok (.iaload, 1) := by decide +kernel
theorem dL_law_1073 : decode cL_law 1073 = .ok (.invokevirtual 137, 3) := by decide +kernel
theorem dL_law_1076 : decode cL_law 1076 = .ok (.aload_n 2, 1) := by decide +kernel
theorem dL_law_1077 : decode cL_law 1077 = .ok (.aload_n 0, 1) := by decide +kernel
theorem dL_law_1078 : decode cL_law 1078 = .ok (.iload_n 3, 1) := by decide +kernel
theorem dL_law_1079 : decode cL_law 1079 = .ok (.iconst 1, 1) := by decide +kernel
theorem dL_law_1080 : decode cL_law 1080 = .ok (.iadd, 1) := by decide +kernel
theorem dL_law_1081 : decode cL_law 1081 = .ok (.iaload, 1) := by decide +kernel
theorem dL_law_1082 : decode cL_law 1082 = .ok (.aload_n 0, 1) := by decide +kernel
theorem dL_law_1083 : decode cL_law 1083 = .ok (.iload_n 3, 1) := by decide +kernel
theorem dL_law_1084 : decode cL_law 1084 = .ok (.iconst 2, 1) := by decide +kernel
theorem dL_law_1085 : decode cL_law 1085 = .ok (.iadd, 1) := by decide +kernel
theorem dL_law_1086 : decode cL_law 1086 = .ok (.iaload, 1) := by decide +kernel
theorem dL_law_1087 : decode cL_law 1087 = .ok (.invokevirtual 140, 3) := by decide +kernel
theorem dL_law_1090 : decode cL_law 1090 = .ok (.if_icmp .eq 659, 3) := by decide +kernel
theorem dL_law_1093 : decode cL_law 1093 = .ok (.iconst 0, 1) := by decide +kernel
theorem dL_law_1094 : decode cL_law 1094 = .ok (.ireturn, 1) := by decide +kernel
theorem dL_law_1095 : decode cL_law 1095 = .ok (.aload_n 1, 1) := by decide +kernel
theorem dL_law_1096 : decode cL_law 1096 = .ok (.aload_n 0, 1) := by decide +kernel
theorem dL_law_1097 : decode cL_law 1097 = .ok (.iload_n 3, 1) := by decide +kernel
theorem dL_law_1098 : decode cL_law 1098 = .ok (.iconst 1, 1) := by decide +kernel
theorem dL_law_1099 : decode cL_law 1099 = .ok (.iadd, 1) := by decide +kernel
theorem dL_law_1100 : decode cL_law 1100 = .ok (.iaload, 1) := by decide +kernel
theorem dL_law_1101 : decode cL_law 1101 = .ok (.aload_n 0, 1) := by decide +kernel
theorem dL_law_1102 : decode cL_law 1102 = .ok (.iload_n 3, 1) := by decide +kernel
theorem dL_law_1103 : decode cL_law 1103 = .ok (.iconst 2, 1) := by decide +kernel
theorem dL_law_1104 : decode cL_law 1104 = .ok (.iadd, 1) := by decide +kernel
theorem dL_law_1105 : decode cL_law 1105 = .ok (.iaload, 1) := by decide +kernel
theorem dL_law_1106 : decode cL_law 1106 = .ok (.aload_n 0, 1) := by decide +kernel
theorem dL_law_1107 : decode cL_law 1107 = .ok (.iload_n 3, 1) := by decide +kernel
theorem dL_law_1108 : decode cL_law 1108 = .ok (.iconst 3, 1) := by decide +kernel
theorem dL_law_1109 : decode cL_law 1109 = .ok (.iadd, 1) := by decide +kernel
theorem dL_law_1110 : decode cL_law 1110 = .ok (.iaload, 1) := by decide +kernel
theorem dL_law_1111 : decode cL_law 1111 = .ok (.invokevirtual 141, 3) := by decide +kernel
theorem dL_law_1114 : decode cL_law 1114 = .ok (.aload_n 2, 1) := by decide +kernel
theorem dL_law_1115 : decode cL_law 1115 = .ok (.aload_n 0, 1) := by decide +kernel
theorem dL_law_1116 : decode cL_law 1116 = .ok (.iload_n 3, 1) := by decide +kernel
theorem dL_law_1117 : decode cL_law 1117 = .ok (.iconst 1, 1) := by decide +kernel
theorem dL_law_1118 : decode cL_law 1118 = .ok (.iadd, 1) := by decide +kernel
theorem dL_law_1119 : decode cL_law 1119 = .ok (.iaload, 1) := by decide +kernel
theorem dL_law_1120 : decode cL_law 1120 = .ok (.aload_n 0, 1) := by decide +kernel
theorem dL_law_1121 : decode cL_law 1121 = .ok (.iload_n 3, 1) := by decide +kernel
theorem dL_law_1122 : decode cL_law 1122 = .ok (.iconst 2, 1) := by decide +kernel
theorem dL_law_1123 : decode cL_law 1123 = .ok (.iadd, 1) := by decide +kernel
theorem dL_law_1124 : decode cL_law 1124 = .ok (.iaload, 1) := by decide +kernel
theorem dL_law_1125 : decode cL_law 1125 = .ok (.aload_n 0, 1) := by decide +kernel
theorem dL_law_1126 : decode cL_law 1126 = .ok (.iload_n 3, 1) := by decide +kernel
theorem dL_law_1127 : decode cL_law 1127 = .ok (.iconst 3, 1) := by decide +kernel
theorem dL_law_1128 : decode cL_law 1128 = .ok (.iadd, 1) := by decide +kernel
theorem dL_law_1129 : decode cL_law 1129 = .ok (.iaload, 1) := by decide +kernel
theorem dL_law_1130 : decode cL_law 1130 = .ok (.invokevirtual 144, 3) := by decide +kernel
theorem dL_law_1133 : decode cL_law 1133 = .ok (.if_icmp .eq 616, 3) := by decide +kernel
theorem dL_law_1136 : decode cL_law 1136 = .ok (.iconst 0, 1) := by decide +kernel
theorem dL_law_1137 : decode cL_law 1137 = .ok (.ireturn, 1) := by decide +kernel
theorem dL_law_1138 : decode cL_law 1138 = .ok (.aload_n 1, 1) := by decide +kernel
theorem dL_law_1139 : decode cL_law 1139 = .ok (.aload_n 0, 1) := by decide +kernel
theorem dL_law_1140 : decode cL_law 1140 = .ok (.iload_n 3, 1) := by decide +kernel
theorem dL_law_1141 : decode cL_law 1141 = .ok (.iconst 1, 1) := by decide +kernel
theorem dL_law_1142 : decode cL_law 1142 = .ok (.iadd, 1) := by decide +kernel
theorem dL_law_1143 : decode cL_law 1143 = .ok (.iaload, 1) := by decide +kernel
theorem dL_law_1144 : decode cL_law 1144 = .ok (.aload_n 0, 1) := by decide +kernel
theorem dL_law_1145 : decode cL_law 1145 = .ok (.iload_n 3, 1) := by decide +kernel
theorem dL_law_1146 : decode cL_law 1146 = .ok (.iconst 2, 1) := by decide +kernel
theorem dL_law_1147 : decode cL_law 1147 = .ok (.iadd, 1) := by decide +kernel
theorem dL_law_1148 : decode cL_law 1148 = .ok (.iaload, 1) := by decide +kernel
theorem dL_law_1149 : decode cL_law 1149 = .ok (.invokevirtual 145, 3) := by decide +kernel
theorem dL_law_1152 : decode cL_law 1152 = .ok (.aload_n 2, 1) := by decide +kernel
theorem dL_law_1153 : decode cL_law 1153 = .ok (.aload_n 0, 1) := by decide +kernel
theorem dL_law_1154 : decode cL_law 1154 = .ok (.iload_n 3, 1) := by decide +kernel
theorem dL_law_1155 : decode cL_law 1155 = .ok (.iconst 1, 1) := by decide +kernel
theorem dL_law_1156 : decode cL_law 1156 = .ok (.iadd, 1) := by decide +kernel
theorem dL_law_1157 : decode cL_law 1157 = .ok (.iaload, 1) := by decide +kernel
theorem dL_law_1158 : decode cL_law 1158 = .ok (.aload_n 0, 1) := by decide +kernel
theorem dL_law_1159 : decode cL_law 1159 = .ok (.iload_n 3, 1) := by decide +kernel
theorem dL_law_1160 : decode cL_law 1160 = .ok (.iconst 2, 1) := by decide +kernel
theorem dL_law_1161 : decode cL_law 1161 = .ok (.iadd, 1) := by decide +kernel
theorem dL_law_1162 : decode cL_law 1162 = .ok (.iaload, 1) := by decide +kernel
theorem dL_law_1163 : decode cL_law 1163 = .ok (.invokevirtual 148, 3) := by decide +kernel
theorem dL_law_1166 : decode cL_law 1166 = .ok (.if_icmp .eq 583, 3) := by decide +kernel
theorem dL_law_1169 : decode cL_law 1169 = .ok (.iconst 0, 1) := by decide +kernel
theorem dL_law_1170 : decode cL_law 1170 = .ok (.ireturn, 1) := by decide +kernel
theorem dL_law_1171 : decode cL_law 1171 = .ok (.aload_n 1, 1) := by decide +kernel
theorem dL_law_1172 : decode cL_law 1172 = .ok (.aload_n 0, 1) := by decide +kernel
theorem dL_law_1173 : decode cL_law 1173 = .ok (.iload_n 3, 1) := by decide +kernel
theorem dL_law_1174 : decode cL_law 1174 = .ok (.iconst 1, 1) := by decide +kernel
theorem dL_law_1175 : decode cL_law 1175 = .ok (.iadd, 1) := by decide +kernel
theorem dL_law_1176 : decode cL_law 1176 = .ok (.iaload, 1) := by decide +kernel
theorem dL_law_1177 : decode cL_law 1177 = .ok (.aload_n 0, 1) := by decide +kernel
theorem dL_law_1178 : decode cL_law 1178 = .ok (.iload_n 3, 1) := by decide +kernel
theorem dL_law_1179 : decode cL_law 1179 = .ok (.iconst 2, 1) := by decide +kernel
theorem dL_law_1180 : decode cL_law 1180 = .ok (.iadd, 1) := by decide +kernel
theorem dL_law_1181 : decode cL_law 1181 = .ok (.iaload, 1) := by decide +kernel
theorem dL_law_1182 : decode cL_law 1182 = .ok (.invokevirtual 149, 3) := by decide +kernel
theorem dL_law_1185 : decode cL_law 1185 = .ok (.aload_n 2, 1) := by decide +kernel
theorem dL_law_1186 : decode cL_law 1186 = .ok (.aload_n 0, 1) := by decide +kernel
theorem dL_law_1187 : decode cL_law 1187 = .ok (.iload_n 3, 1) := by decide +kernel
theorem dL_law_1188 : decode cL_law 1188 = .ok (.iconst 1, 1) := by decide +kernel
theorem dL_law_1189 : decode cL_law 1189 = .ok (.iadd, 1) := by decide +kernel
theorem dL_law_1190 : decode cL_law 1190 = .ok (.iaload, 1) := by decide +kernel
theorem dL_law_1191 : decode cL_law 1191 = .ok (.aload_n 0, 1) := by decide +kernel
theorem dL_law_1192 : decode cL_law 1192 = .ok (.iload_n 3, 1) := by decide +kernel
theorem dL_law_1193 : decode cL_law 1193 = .ok (.iconst 2, 1) := by decide +kernel
theorem dL_law_1194 : decode cL_law 1194 = .ok (.iadd, 1) := by decide +kernel
theorem dL_law_1195 : decode cL_law 1195 = .ok (.iaload, 1) := by decide +kernel
theorem dL_law_1196 : decode cL_law 1196 = .ok (.invokevirtual 152, 3) := by decide +kernel
theorem dL_law_1199 : decode cL_law 1199 = .ok (.if_icmp .eq 550, 3) := by decide +kernel
theorem dL_law_1202 : decode cL_law 1202 = .ok (.iconst 0, 1) := by decide +kernel
theorem dL_law_1203 : decode cL_law 1203 = .ok (.ireturn, 1) := by decide +kernel
theorem dL_law_1204 : decode cL_law 1204 = .ok (.aload_n 1, 1) := by decide +kernel
theorem dL_law_1205 : decode cL_law 1205 = .ok (.invokevirtual 153, 3) := by decide +kernel
theorem dL_law_1208 : decode cL_law 1208 = .ok (.aload_n 2, 1) := by decide +kernel
theorem dL_law_1209 : decode cL_law 1209 = .ok (.invokevirtual 156, 3) := by decide +kernel
theorem dL_law_1212 : decode cL_law 1212 = .ok (.if_icmp .eq 537, 3) := by decide +kernel
theorem dL_law_1215 : decode cL_law 1215 = .ok (.iconst 0, 1) := by decide +kernel
theorem dL_law_1216 : decode cL_law 1216 = .ok (.ireturn, 1) := by decide +kernel
theorem dL_law_1217 : decode cL_law 1217 = .ok (.aload_n 1, 1) := by decide +kernel
theorem dL_law_1218 : decode cL_law 1218 = .ok (.aload_n 0, 1) := by decide +kernel
theorem dL_law_1219 : decode cL_law 1219 = .ok (.iload_n 3, 1) := by decide +kernel
theorem dL_law_1220 : decode cL_law 1220 = .ok (.iconst 1, 1) := by decide +kernel
theorem dL_law_1221 : decode cL_law 1221 = .ok (.iadd, 1) := by decide +kernel
theorem dL_law_1222 : decode cL_law 1222 = .ok (.iaload, 1) := by decide +kernel
theorem dL_law_1223 : decode cL_law 1223 = .ok (.invokevirtual 157, 3) := by decide +kernel
theorem dL_law_1226 : decode cL_law 1226 = .ok (.aload_n 2, 1) := by decide +kernel
theorem dL_law_1227 : decode cL_law 1227 = .ok (.aload_n 0, 1) := by decide +kernel
theorem dL_law_1228 : decode cL_law 1228 = .ok (.iload_n 3, 1) := by decide +kernel
theorem dL_law_1229 : decode cL_law 1229 = .ok (.iconst 1, 1) := by decide +kernel
theorem dL_law_1230 : decode cL_law 1230 = .ok (.iadd, 1) := by decide +kernel
theorem dL_law_1231 : decode cL_law 1231 = .ok (.iaload, 1) := by decide +kernel
theorem dL_law_1232 : decode cL_law 1232 = .ok (.invokevirtual 160, 3) := by decide +kernel
theorem dL_law_1235 : decode cL_law 1235 = .ok (.if_icmp .eq 514, 3) := by decide +kernel
theorem dL_law_1238 : decode cL_law 1238 = .ok (.iconst 0, 1) := by decide +kernel
theorem dL_law_1239 : decode cL_law 1239 = .ok (.ireturn, 1) := by decide +kernel
theorem dL_law_1240 : decode cL_law 1240 = .ok (.aload_n 1, 1) := by decide +kernel
theorem dL_law_1241 : decode cL_law 1241 = .ok (.aload_n 0, 1) := by decide +kernel
theorem dL_law_1242 : decode cL_law 1242 = .ok (.iload_n 3, 1) := by decide +kernel
theorem dL_law_1243 : decode cL_law 1243 = .ok (.iconst 1, 1) := by decide +kernel
theorem dL_law_1244 : decode cL_law 1244 = .ok (.iadd, 1) := by decide +kernel
theorem dL_law_1245 : decode cL_law 1245 = .ok (.iaload, 1) := by decide +kernel
theorem dL_law_1246 : decode cL_law 1246 = .ok (.aload_n 0, 1) := by decide +kernel
theorem dL_law_1247 : decode cL_law 1247 = .ok (.iload_n 3, 1) := by decide +kernel
theorem dL_law_1248 : decode cL_law 1248 = .ok (.iconst 2, 1) := by decide +kernel
theorem dL_law_1249 : decode cL_law 1249 = .ok (.iadd, 1) := by decide +kernel
theorem dL_law_1250 : decode cL_law 1250 = .ok (.iaload, 1) := by decide +kernel
theorem dL_law_1251 : decode cL_law 1251 = .ok (.aload_n 0, 1) := by decide +kernel
theorem dL_law_1252 : decode cL_law 1252 = .ok (.iload_n 3, 1) := by decide +kernel
theorem dL_law_1253 : decode cL_law 1253 = .ok (.iconst 3, 1) := by decide +kernel
theorem dL_law_1254 : decode cL_law 1254 = .ok (.iadd, 1) := by decide +kernel
theorem dL_law_1255 : decode cL_law 1255 = .ok (.iaload, 1) := by decide +kernel
theorem dL_law_1256 : decode cL_law 1256 = .ok (.invokevirtual 161, 3) := by decide +kernel
theorem dL_law_1259 : decode cL_law 1259 = .ok (.aload_n 2, 1) := by decide +kernel
theorem dL_law_1260 : decode cL_law 1260 = .ok (.aload_n 0, 1) := by decide +kernel
theorem dL_law_1261 : decode cL_law 1261 = .ok (.iload_n 3, 1) := by decide +kernel
theorem dL_law_1262 : decode cL_law 1262 = .ok (.iconst 1, 1) := by decide +kernel
theorem dL_law_1263 : decode cL_law 1263 = .ok (.iadd, 1) := by decide +kernel
theorem dL_law_1264 : decode cL_law 1264 = .ok (.iaload, 1) := by decide +kernel
theorem dL_law_1265 : decode cL_law 1265 = .ok (.aload_n 0, 1) := by decide +kernel
theorem dL_law_1266 : decode cL_law 1266 = .ok (.iload_n 3, 1) := by decide +kernel
theorem dL_law_1267 : decode cL_law 1267 = .ok (.iconst 2, 1) := by decide +kernel
theorem dL_law_1268 : decode cL_law 1268 = .ok (.iadd, 1) := by decide +kernel
theorem dL_law_1269 : decode cL_law 1269 = .ok (.iaload, 1) := by decide +kernel
theorem dL_law_1270 : decode cL_law 1270 = .ok (.aload_n 0, 1) := by decide +kernel
theorem dL_law_1271 : decode cL_law 1271 = .ok (.iload_n 3, 1) := by decide +kernel
theorem dL_law_1272 : decode cL_law 1272 = .ok (.iconst 3, 1) := by decide +kernel
theorem dL_law_1273 : decode cL_law 1273 = .ok (.iadd, 1) := by decide +kernel
theorem dL_law_1274 : decode cL_law 1274 = .ok (.iaload, 1) := by decide +kernel
theorem dL_law_1275 : decode cL_law 1275 = .ok (.invokevirtual 164, 3) := by decide +kernel
theorem dL_law_1278 : decode cL_law 1278 = .ok (.if_icmp .eq 471, 3) := by decide +kernel
theorem dL_law_1281 : decode cL_law 1281 = .ok (.iconst 0, 1) := by decide +kernel
theorem dL_law_1282 : decode cL_law 1282 = .ok (.ireturn, 1) := by decide +kernel
theorem dL_law_1283 : decode cL_law 1283 = .ok (.aload_n 1, 1) := by decide +kernel
theorem dL_law_1284 : decode cL_law 1284 = .ok (.aload_n 0, 1) := by decide +kernel
theorem dL_law_1285 : decode cL_law 1285 = .ok (.iload_n 3, 1) := by decide +kernel
theorem dL_law_1286 : decode cL_law 1286 = .ok (.iconst 1, 1) := by decide +kernel
theorem dL_law_1287 : decode cL_law 1287 = .ok (.iadd, 1) := by decide +kernel
theorem dL_law_1288 : decode cL_law 1288 = .ok (.iaload, 1) := by decide +kernel
theorem dL_law_1289 : decode cL_law 1289 = .ok (.aload_n 0, 1) := by decide +kernel
theorem dL_law_1290 : decode cL_law 1290 = .ok (.iload_n 3, 1) := by decide +kernel
theorem dL_law_1291 : decode cL_law 1291 = .ok (.iconst 2, 1) := by decide +kernel
theorem dL_law_1292 : decode cL_law 1292 = .ok (.iadd, 1) := by decide +kernel
theorem dL_law_1293 : decode cL_law 1293 = .ok (.iaload, 1) := by decide +kernel
theorem dL_law_1294 : decode cL_law 1294 = .ok (.aload_n 0, 1) := by decide +kernel
theorem dL_law_1295 : decode cL_law 1295 = .ok (.iload_n 3, 1) := by decide +kernel
theorem dL_law_1296 : decode cL_law 1296 = .ok (.iconst 3, 1) := by decide +kernel
theorem dL_law_1297 : decode cL_law 1297 = .ok (.iadd, 1) := by decide +kernel
theorem dL_law_1298 : decode cL_law 1298 = .ok (.iaload, 1) := by decide +kernel
theorem dL_law_1299 : decode cL_law 1299 = .ok (.invokevirtual 165, 3) := by decide +kernel
theorem dL_law_1302 : decode cL_law 1302 = .ok (.aload_n 2, 1) := by decide +kernel
theorem dL_law_1303 : decode cL_law 1303 = .ok (.aload_n 0, 1) := by decide +kernel
theorem dL_law_1304 : decode cL_law 1304 = .ok (.iload_n 3, 1) := by decide +kernel
theorem dL_law_1305 : decode cL_law 1305 = .ok (.iconst 1, 1) := by decide +kernel
theorem dL_law_1306 : decode cL_law 1306 = .ok (.iadd, 1) := by decide +kernel
theorem dL_law_1307 : decode cL_law 1307 = .ok (.iaload, 1) := by decide +kernel
theorem dL_law_1308 : decode cL_law 1308 = .ok (.aload_n 0, 1) := by decide +kernel
theorem dL_law_1309 : decode cL_law 1309 = .ok (.iload_n 3, 1) := by decide +kernel
theorem dL_law_1310 : decode cL_law 1310 = .ok (.iconst 2, 1) := by decide +kernel
theorem dL_law_1311 : decode cL_law 1311 = .ok (.iadd, 1) := by decide +kernel
theorem dL_law_1312 : decode cL_law 1312 = .ok (.iaload, 1) := by decide +kernel
theorem dL_law_1313 : decode cL_law 1313 = .ok (.aload_n 0, 1) := by decide +kernel
theorem dL_law_1314 : decode cL_law 1314 = .ok (.iload_n 3, 1) := by decide +kernel
theorem dL_law_1315 : decode cL_law 1315 = .ok (.iconst 3, 1) := by decide +kernel
theorem dL_law_1316 : decode cL_law 1316 = .ok (.iadd, 1) := by decide +kernel
theorem dL_law_1317 : decode cL_law 1317 = .ok (.iaload, 1) := by decide +kernel
theorem dL_law_1318 : decode cL_law 1318 = .ok (.invokevirtual 168, 3) := by decide +kernel
theorem dL_law_1321 : decode cL_law 1321 = .ok (.if_icmp .eq 428, 3) := by decide +kernel
theorem dL_law_1324 : decode cL_law 1324 = .ok (.iconst 0, 1) := by decide +kernel
theorem dL_law_1325 : decode cL_law 1325 = .ok (.ireturn, 1) := by decide +kernel
theorem dL_law_1326 : decode cL_law 1326 = .ok (.aload_n 1, 1) := by decide +kernel
theorem dL_law_1327 : decode cL_law 1327 = .ok (.aload_n 0, 1) := by decide +kernel
theorem dL_law_1328 : decode cL_law 1328 = .ok (.iload_n 3, 1) := by decide +kernel
theorem dL_law_1329 : decode cL_law 1329 = .ok (.iconst 1, 1) := by decide +kernel
theorem dL_law_1330 : decode cL_law 1330 = .ok (.iadd, 1) := by decide +kernel
theorem dL_law_1331 : decode cL_law 1331 = .ok (.iaload, 1) := by decide +kernel
theorem dL_law_1332 : decode cL_law 1332 = .ok (.aload_n 0, 1) := by decide +kernel
theorem dL_law_1333 : decode cL_law 1333 = .ok (.iload_n 3, 1) := by decide +kernel
theorem dL_law_1334 : decode cL_law 1334 = .ok (.iconst 2, 1) := by decide +kernel
theorem dL_law_1335 : decode cL_law 1335 = .ok (.iadd, 1) := by decide +kernel
theorem dL_law_1336 : decode cL_law 1336 = .ok (.iaload, 1) := by decide +kernel
theorem dL_law_1337 : decode cL_law 1337 = .ok (.aload_n 0, 1) := by decide +kernel
theorem dL_law_1338 : decode cL_law 1338 = .ok (.iload_n 3, 1) := by decide +kernel
theorem dL_law_1339 : decode cL_law 1339 = .ok (.iconst 3, 1) := by decide +kernel
theorem dL_law_1340 : decode cL_law 1340 = .ok (.iadd, 1) := by decide +kernel
theorem dL_law_1341 : decode cL_law 1341 = .ok (.iaload, 1) := by decide +kernel
theorem dL_law_1342 : decode cL_law 1342 = .ok (.aload_n 0, 1) := by decide +kernel
theorem dL_law_1343 : decode cL_law 1343 = .ok (.iload_n 3, 1) := by decide +kernel
theorem dL_law_1344 : decode cL_law 1344 = .ok (.iconst 4, 1) := by decide +kernel
theorem dL_law_1345 : decode cL_law 1345 = .ok (.iadd, 1) := by decide +kernel
theorem dL_law_1346 : decode cL_law 1346 = .ok (.iaload, 1) := by decide +kernel
theorem dL_law_1347 : decode cL_law 1347 = .ok (.invokevirtual 169, 3) := by decide +kernel
theorem dL_law_1350 : decode cL_law 1350 = .ok (.aload_n 2, 1) := by decide +kernel
theorem dL_law_1351 : decode cL_law 1351 = .ok (.aload_n 0, 1) := by decide +kernel
theorem dL_law_1352 : decode cL_law 1352 = .ok (.iload_n 3, 1) := by decide +kernel
theorem dL_law_1353 : decode cL_law 1353 = .ok (.iconst 1, 1) := by decide +kernel
theorem dL_law_1354 : decode cL_law 1354 = .ok (.iadd, 1) := by decide +kernel
theorem dL_law_1355 : decode cL_law 1355 = .ok (.iaload, 1) := by decide +kernel
theorem dL_law_1356 : decode cL_law 1356 = .ok (.aload_n 0, 1) := by decide +kernel
theorem dL_law_1357 : decode cL_law 1357 = .ok (.iload_n 3, 1) := by decide +kernel
theorem dL_law_1358 : decode cL_law 1358 = .ok (.iconst 2, 1) := by decide +kernel
theorem dL_law_1359 : decode cL_law 1359 = .ok (.iadd, 1) := by decide +kernel
theorem dL_law_1360 : decode cL_law 1360 = .ok (.iaload, 1) := by decide +kernel
theorem dL_law_1361 : decode cL_law 1361 = .ok (.aload_n 0, 1) := by decide +kernel
theorem dL_law_1362 : decode cL_law 1362 = .ok (.iload_n 3, 1) := by decide +kernel
theorem dL_law_1363 : decode cL_law 1363 = .ok (.iconst 3, 1) := by decide +kernel
theorem dL_law_1364 : decode cL_law 1364 = .ok (.iadd, 1) := by decide +kernel
theorem dL_law_1365 : decode cL_law 1365 = .ok (.iaload, 1) := by decide +kernel
theorem dL_law_1366 : decode cL_law 1366 = .ok (.aload_n 0, 1) := by decide +kernel
theorem dL_law_1367 : decode cL_law 1367 = .ok (.iload_n 3, 1) := by decide +kernel
theorem dL_law_1368 : decode cL_law 1368 = .ok (.iconst 4, 1) := by decide +kernel
theorem dL_law_1369 : decode cL_law 1369 = .ok (.iadd, 1) := by decide +kernel
theorem dL_law_1370 : decode cL_law 1370 = .ok (.iaload, 1) := by decide +kernel
theorem dL_law_1371 : decode cL_law 1371 = .ok (.invokevirtual 173, 3) := by decide +kernel
theorem dL_law_1374 : decode cL_law 1374 = .ok (.if_icmp .eq 375, 3) := by decide +kernel
theorem dL_law_1377 : decode cL_law 1377 = .ok (.iconst 0, 1) := by decide +kernel
theorem dL_law_1378 : decode cL_law 1378 = .ok (.ireturn, 1) := by decide +kernel
theorem dL_law_1379 : decode cL_law 1379 = .ok (.aload_n 1, 1) := by decide +kernel
theorem dL_law_1380 : decode cL_law 1380 = .ok (.aload_n 0, 1) := by decide +kernel
theorem dL_law_1381 : decode cL_law 1381 = .ok (.iload_n 3, 1) := by decide +kernel
theorem dL_law_1382 : decode cL_law 1382 = .ok (.iconst 1, 1) := by decide +kernel
theorem dL_law_1383 : decode cL_law 1383 = .ok (.iadd, 1) := by decide +kernel
theorem dL_law_1384 : decode cL_law 1384 = .ok (.iaload, 1) := by decide +kernel
theorem dL_law_1385 : decode cL_law 1385 = .ok (.aload_n 0, 1) := by decide +kernel
theorem dL_law_1386 : decode cL_law 1386 = .ok (.iload_n 3, 1) := by decide +kernel
theorem dL_law_1387 : decode cL_law 1387 = .ok (.iconst 2, 1) := by decide +kernel
theorem dL_law_1388 : decode cL_law 1388 = .ok (.iadd, 1) := by decide +kernel
theorem dL_law_1389 : decode cL_law 1389 = .ok (.iaload, 1) := by decide +kernel
theorem dL_law_1390 : decode cL_law 1390 = .ok (.aload_n 0, 1) := by decide +kernel
theorem dL_law_1391 : decode cL_law 1391 = .ok (.iload_n 3, 1) := by decide +kernel
theorem dL_law_1392 : decode cL_law 1392 = .ok (.iconst 3, 1) := by decide +kernel
theorem dL_law_1393 : decode cL_law 1393 = .ok (.iadd, 1) := by decide +kernel
theorem dL_law_1394 : decode cL_law 1394 = .ok (.iaload, 1) := by decide +kernel
theorem dL_law_1395 : decode cL_law 1395 = .ok (.invokevirtual 174, 3) := by decide +kernel
theorem dL_law_1398 : decode cL_law 1398 = .ok (.aload_n 2, 1) := by decide +kernel
theorem dL_law_1399 : decode cL_law 1399 = .ok (.aload_n 0, 1) := by decide +kernel
theorem dL_law_1400 : decode cL_law 1400 = .ok (.iload_n 3, 1) := by decide +kernel
theorem dL_law_1401 : decode cL_law 1401 = .ok (.iconst 1, 1) := by decide +kernel
theorem dL_law_1402 : decode cL_law 1402 = .ok (.iadd, 1) := by decide +kernel
theorem dL_law_1403 : decode cL_law 1403 = .ok (.iaload, 1) := by decide +kernel
theorem dL_law_1404 : decode cL_law 1404 = .ok (.aload_n 0, 1) := by decide +kernel
theorem dL_law_1405 : decode cL_law 1405 = .ok (.iload_n 3, 1) := by decide +kernel
theorem dL_law_1406 : decode cL_law 1406 = .ok (.iconst 2, 1) := by decide +kernel
theorem dL_law_1407 : decode cL_law 1407 = .ok (.iadd, 1) := by decide +kernel
theorem dL_law_1408 : decode cL_law 1408 = .ok (.iaload, 1) := by decide +kernel
theorem dL_law_1409 : decode cL_law 1409 = .ok (.aload_n 0, 1) := by decide +kernel
theorem dL_law_1410 : decode cL_law 1410 = .ok (.iload_n 3, 1) := by decide +kernel
theorem dL_law_1411 : decode cL_law 1411 = .ok (.iconst 3, 1) := by decide +kernel
theorem dL_law_1412 : decode cL_law 1412 = .ok (.iadd, 1) := by decide +kernel
theorem dL_law_1413 : decode cL_law 1413 = .ok (.iaload, 1) := by decide +kernel
theorem dL_law_1414 : decode cL_law 1414 = .ok (.invokevirtual 177, 3) := by decide +kernel
theorem dL_law_1417 : decode cL_law 1417 = .ok (.if_icmp .eq 332, 3) := by decide +kernel
theorem dL_law_1420 : decode cL_law 1420 = .ok (.iconst 0, 1) := by decide +kernel
theorem dL_law_1421 : decode cL_law 1421 = .ok (.ireturn, 1) := by decide +kernel
theorem dL_law_1422 : decode cL_law 1422 = .ok (.aload_n 1, 1) := by decide +kernel
theorem dL_law_1423 : decode cL_law 1423 = .ok (.aload_n 0, 1) := by decide +kernel
theorem dL_law_1424 : decode cL_law 1424 = .ok (.iload_n 3, 1) := by decide +kernel
theorem dL_law_1425 : decode cL_law 1425 = .ok (.iconst 1, 1) := by decide +kernel
theorem dL_law_1426 : decode cL_law 1426 = .ok (.iadd, 1) := by decide +kernel
theorem dL_law_1427 : decode cL_law 1427 = .ok (.iaload, 1) := by decide +kernel
theorem dL_law_1428 : decode cL_law 1428 = .ok (.aload_n 0, 1) := by decide +kernel
theorem dL_law_1429 : decode cL_law 1429 = .ok (.iload_n 3, 1) := by decide +kernel
theorem dL_law_1430 : decode cL_law 1430 = .ok (.iconst 2, 1) := by decide +kernel
theorem dL_law_1431 : decode cL_law 1431 = .ok (.iadd, 1) := by decide +kernel
theorem dL_law_1432 : decode cL_law 1432 = .ok (.iaload, 1) := by decide +kernel
theorem dL_law_1433 : decode cL_law 1433 = .ok (.invokevirtual 178, 3) := by decide +kernel
theorem dL_law_1436 : decode cL_law 1436 = .ok (.aload_n 2, 1) := by decide +kernel
theorem dL_law_1437 : decode cL_law 1437 = .ok (.aload_n 0, 1) := by decide +kernel
theorem dL_law_1438 : decode cL_law 1438 = .ok (.iload_n 3, 1) := by decide +kernel
theorem dL_law_1439 : decode cL_law 1439 = .ok (.iconst 1, 1) := by decide +kernel
theorem dL_law_1440 : decode cL_law 1440 = .ok (.iadd, 1) := by decide +kernel
theorem dL_law_1441 : decode cL_law 1441 = .ok (.iaload, 1) := by decide +kernel
theorem dL_law_1442 : decode cL_law 1442 = .ok (.aload_n 0, 1) := by decide +kernel
theorem dL_law_1443 : decode cL_law 1443 = .ok (.iload_n 3, 1) := by decide +kernel
theorem dL_law_1444 : decode cL_law 1444 = .ok (.iconst 2, 1) := by decide +kernel
theorem dL_law_1445 : decode cL_law 1445 = .ok (.iadd, 1) := by decide +kernel
theorem dL_law_1446 : decode cL_law 1446 = .ok (.iaload, 1) := by decide +kernel
theorem dL_law_1447 : decode cL_law 1447 = .ok (.invokevirtual 181, 3) := by decide +kernel
theorem dL_law_1450 : decode cL_law 1450 = .ok (.if_icmp .eq 299, 3) := by decide +kernel
theorem dL_law_1453 : decode cL_law 1453 = .ok (.iconst 0, 1) := by decide +kernel
theorem dL_law_1454 : decode cL_law 1454 = .ok (.ireturn, 1) := by decide +kernel
theorem dL_law_1455 : decode cL_law 1455 = .ok (.aload_n 1, 1) := by decide +kernel
theorem dL_law_1456 : decode cL_law 1456 = .ok (.aload_n 0, 1) := by decide +kernel
theorem dL_law_1457 : decode cL_law 1457 = .ok (.iload_n 3, 1) := by decide +kernel
theorem dL_law_1458 : decode cL_law 1458 = .ok (.iconst 1, 1) := by decide +kernel
theorem dL_law_1459 : decode cL_law 1459 = .ok (.iadd, 1) := by decide +kernel
theorem dL_law_1460 : decode cL_law 1460 = .ok (.iaload, 1) := by decide +kernel
theorem dL_law_1461 : decode cL_law 1461 = .ok (.aload_n 0, 1) := by decide +kernel
theorem dL_law_1462 : decode cL_law 1462 = .ok (.iload_n 3, 1) := by decide +kernel
theorem dL_law_1463 : decode cL_law 1463 = .ok (.iconst 2, 1) := by decide +kernel
theorem dL_law_1464 : decode cL_law 1464 = .ok (.iadd, 1) := by decide +kernel
theorem dL_law_1465 : decode cL_law 1465 = .ok (.iaload, 1) := by decide +kernel
theorem dL_law_1466 : decode cL_law 1466 = .ok (.invokevirtual 182, 3) := by decide +kernel
theorem dL_law_1469 : decode cL_law 1469 = .ok (.aload_n 2, 1) := by decide +kernel
theorem dL_law_1470 : decode cL_law 1470 = .ok (.aload_n 0, 1) := by decide +kernel
theorem dL_law_1471 : decode cL_law 1471 = .ok (.iload_n 3, 1) := by decide +kernel
theorem dL_law_1472 : decode cL_law 1472 = .ok (.iconst 1, 1) := by decide +kernel
theorem dL_law_1473 : decode cL_law 1473 = .ok (.iadd, 1) := by decide +kernel
theorem dL_law_1474 : decode cL_law 1474 = .ok (.iaload, 1) := by decide +kernel
theorem dL_law_1475 : decode cL_law 1475 = .ok (.aload_n 0, 1) := by decide +kernel
theorem dL_law_1476 : decode cL_law 1476 = .ok (.iload_n 3, 1) := by decide +kernel
theorem dL_law_1477 : decode cL_law 1477 = .ok (.iconst 2, 1) := by decide +kernel
theorem dL_law_1478 : decode cL_law 1478 = .ok (.iadd, 1) := by decide +kernel
theorem dL_law_1479 : decode cL_law 1479 = .ok (.iaload, 1) := by decide +kernel
theorem dL_law_1480 : decode cL_law 1480 = .ok (.invokevirtual 185, 3) := by decide +kernel
theorem dL_law_1483 : decode cL_law 1483 = .ok (.if_icmp .eq 266, 3) := by decide +kernel
theorem dL_law_1486 : decode cL_law 1486 = .ok (.iconst 0, 1) := by decide +kernel
theorem dL_law_1487 : decode cL_law 1487 = .ok (.ireturn, 1) := by decide +kernel
theorem dL_law_1488 : decode cL_law 1488 = .ok (.aload_n 1, 1) := by decide +kernel
theorem dL_law_1489 : decode cL_law 1489 = .ok (.aload_n 0, 1) := by decide +kernel
theorem dL_law_1490 : decode cL_law 1490 = .ok (.iload_n 3, 1) := by decide +kernel
theorem dL_law_1491 : decode cL_law 1491 = .ok (.iconst 1, 1) := by decide +kernel
theorem dL_law_1492 : decode cL_law 1492 = .ok (.iadd, 1) := by decide +kernel
theorem dL_law_1493 : decode cL_law 1493 = .ok (.iaload, 1) := by decide +kernel
theorem dL_law_1494 : decode cL_law 1494 = .ok (.aload_n 0, 1) := by decide +kernel
theorem dL_law_1495 : decode cL_law 1495 = .ok (.iload_n 3, 1) := by decide +kernel
theorem dL_law_1496 : decode cL_law 1496 = .ok (.iconst 2, 1) := by decide +kernel
theorem dL_law_1497 : decode cL_law 1497 = .ok (.iadd, 1) := by decide +kernel
theorem dL_law_1498 : decode cL_law 1498 = .ok (.iaload, 1) := by decide +kernel
theorem dL_law_1499 : decode cL_law 1499 = .ok (.aload_n 0, 1) := by decide +kernel
theorem dL_law_1500 : decode cL_law 1500 = .ok (.iload_n 3, 1) := by decide +kernel
theorem dL_law_1501 : decode cL_law 1501 = .ok (.iconst 3, 1) := by decide +kernel
theorem dL_law_1502 : decode cL_law 1502 = .ok (.iadd, 1) := by decide +kernel
theorem dL_law_1503 : decode cL_law 1503 = .ok (.iaload, 1) := by decide +kernel
theorem dL_law_1504 : decode cL_law 1504 = .ok (.aload_n 0, 1) := by decide +kernel
theorem dL_law_1505 : decode cL_law 1505 = .ok (.iload_n 3, 1) := by decide +kernel
theorem dL_law_1506 : decode cL_law 1506 = .ok (.iconst 4, 1) := by decide +kernel
theorem dL_law_1507 : decode cL_law 1507 = .ok (.iadd, 1) := by decide +kernel
theorem dL_law_1508 : decode cL_law 1508 = .ok (.iaload, 1) := by decide +kernel
theorem dL_law_1509 : decode cL_law 1509 = .ok (.aload_n 0, 1) := by decide +kernel
theorem dL_law_1510 : decode cL_law 1510 = .ok (.iload_n 3, 1) := by decide +kernel
theorem dL_law_1511 : decode cL_law 1511 = .ok (.iconst 5, 1) := by decide +kernel
theorem dL_law_1512 : decode cL_law 1512 = .ok (.iadd, 1) := by decide +kernel
theorem dL_law_1513 : decode cL_law 1513 = .ok (.iaload, 1) := by decide +kernel
theorem dL_law_1514 : decode cL_law 1514 = .ok (.invokevirtual 186, 3) := by decide +kernel
theorem dL_law_1517 : decode cL_law 1517 = .ok (.aload_n 2, 1) := by decide +kernel
theorem dL_law_1518 : decode cL_law 1518 = .ok (.aload_n 0, 1) := by decide +kernel
theorem dL_law_1519 : decode cL_law 1519 = .ok (.iload_n 3, 1) := by decide +kernel
theorem dL_law_1520 : decode cL_law 1520 = .ok (.iconst 1, 1) := by decide +kernel
theorem dL_law_1521 : decode cL_law 1521 = .ok (.iadd, 1) := by decide +kernel
theorem dL_law_1522 : decode cL_law 1522 = .ok (.iaload, 1) := by decide +kernel
theorem dL_law_1523 : decode cL_law 1523 = .ok (.aload_n 0, 1) := by decide +kernel
theorem dL_law_1524 : decode cL_law 1524 = .ok (.iload_n 3, 1) := by decide +kernel
theorem dL_law_1525 : decode cL_law 1525 = .ok (.iconst 2, 1) := by decide +kernel
theorem dL_law_1526 : decode cL_law 1526 = .ok (.iadd, 1) := by decide +kernel
theorem dL_law_1527 : decode cL_law 1527 = .ok (.iaload, 1) := by decide +kernel
theorem dL_law_1528 : decode cL_law 1528 = .ok (.aload_n 0, 1) := by decide +kernel
theorem dL_law_1529 : decode cL_law 1529 = .ok (.iload_n 3, 1) := by decide +kernel
theorem dL_law_1530 : decode cL_law 1530 = .ok (.iconst 3, 1) := by decide +kernel
theorem dL_law_1531 : decode cL_law 1531 = .ok (.iadd, 1) := by decide +kernel
theorem dL_law_1532 : decode cL_law 1532 = .ok (.iaload, 1) := by decide +kernel
theorem dL_law_1533 : decode cL_law 1533 = .ok (.aload_n 0, 1) := by decide +kernel
theorem dL_law_1534 : decode cL_law 1534 = .ok (.iload_n 3, 1) := by decide +kernel
theorem dL_law_1535 : decode cL_law 1535 = .ok (.iconst 4, 1) := by decide +kernel
theorem dL_law_1536 : decode cL_law 1536 = .ok (.iadd, 1) := by decide +kernel
theorem dL_law_1537 : decode cL_law 1537 = .ok (.iaload, 1) := by decide +kernel
theorem dL_law_1538 : decode cL_law 1538 = .ok (.aload_n 0, 1) := by decide +kernel
theorem dL_law_1539 : decode cL_law 1539 = .ok (.iload_n 3, 1) := by decide +kernel
theorem dL_law_1540 : decode cL_law 1540 = .ok (.iconst 5, 1) := by decide +kernel
theorem dL_law_1541 : decode cL_law 1541 = .ok (.iadd, 1) := by decide +kernel
theorem dL_law_1542 : decode cL_law 1542 = .ok (.iaload, 1) := by decide +kernel
theorem dL_law_1543 : decode cL_law 1543 = .ok (.invokevirtual 189, 3) := by decide +kernel
theorem dL_law_1546 : decode cL_law 1546 = .ok (.if_icmp .eq 203, 3) := by decide +kernel
theorem dL_law_1549 : decode cL_law 1549 = .ok (.iconst 0, 1) := by decide +kernel
theorem dL_law_1550 : decode cL_law 1550 = .ok (.ireturn, 1) := by decide +kernel
theorem dL_law_1551 : decode cL_law 1551 = .ok (.aload_n 1, 1) := by decide +kernel
theorem dL_law_1552 : decode cL_law 1552 = .ok (.aload_n 0, 1) := by decide +kernel
theorem dL_law_1553 : decode cL_law 1553 = .ok (.iload_n 3, 1) := by decide +kernel
theorem dL_law_1554 : decode cL_law 1554 = .ok (.iconst 1, 1) := by decide +kernel
theorem dL_law_1555 : decode cL_law 1555 = .ok (.iadd, 1) := by decide +kernel
theorem dL_law_1556 : decode cL_law 1556 = .ok (.iaload, 1) := by decide +kernel
theorem dL_law_1557 : decode cL_law 1557 = .ok (.aload_n 0, 1) := by decide +kernel
theorem dL_law_1558 : decode cL_law 1558 = .ok (.iload_n 3, 1) := by decide +kernel
theorem dL_law_1559 : decode cL_law 1559 = .ok (.iconst 2, 1) := by decide +kernel
theorem dL_law_1560 : decode cL_law 1560 = .ok (.iadd, 1) := by decide +kernel
theorem dL_law_1561 : decode cL_law 1561 = .ok (.iaload, 1) := by decide +kernel
theorem dL_law_1562 : decode cL_law 1562 = .ok (.aload_n 0, 1) := by decide +kernel
theorem dL_law_1563 : decode cL_law 1563 = .ok (.iload_n 3, 1) := by decide +kernel
theorem dL_law_1564 : decode cL_law 1564 = .ok (.iconst 3, 1) := by decide +kernel
theorem dL_law_1565 : decode cL_law 1565 = .ok (.iadd, 1) := by decide +kernel
theorem dL_law_1566 : decode cL_law 1566 = .ok (.iaload, 1) := by decide +kernel
theorem dL_law_1567 : decode cL_law 1567 = .ok (.invokevirtual 190, 3) := by decide +kernel
theorem dL_law_1570 : decode cL_law 1570 = .ok (.aload_n 2, 1) := by decide +kernel
theorem dL_law_1571 : decode cL_law 1571 = .ok (.aload_n 0, 1) := by decide +kernel
theorem dL_law_1572 : decode cL_law 1572 = .ok (.iload_n 3, 1) := by decide +kernel
theorem dL_law_1573 : decode cL_law 1573 = .ok (.iconst 1, 1) := by decide +kernel
theorem dL_law_1574 : decode cL_law 1574 = .ok (.iadd, 1) := by decide +kernel
theorem dL_law_1575 : decode cL_law 1575 = .ok (.iaload, 1) := by decide +kernel
theorem dL_law_1576 : decode cL_law 1576 = .ok (.aload_n 0, 1) := by decide +kernel
theorem dL_law_1577 : decode cL_law 1577 = .ok (.iload_n 3, 1) := by decide +kernel
theorem dL_law_1578 : decode cL_law 1578 = .ok (.iconst 2, 1) := by decide +kernel
theorem dL_law_1579 : decode cL_law 1579 = .ok (.iadd, 1) := by decide +kernel
theorem dL_law_1580 : decode cL_law 1580 = .ok (.iaload, 1) := by decide +kernel
theorem dL_law_1581 : decode cL_law 1581 = .ok (.aload_n 0, 1) := by decide +kernel
theorem dL_law_1582 : decode cL_law 1582 = .ok (.iload_n 3, 1) := by decide +kernel
theorem dL_law_1583 : decode cL_law 1583 = .ok (.iconst 3, 1) := by decide +kernel
theorem dL_law_1584 : decode cL_law 1584 = .ok (.iadd, 1) := by decide +kernel
theorem dL_law_1585 : decode cL_law 1585 = .ok (.iaload, 1) := by decide +kernel
theorem dL_law_1586 : decode cL_law 1586 = .ok (.invokevirtual 193, 3) := by decide +kernel
theorem dL_law_1589 : decode cL_law 1589 = .ok (.if_icmp .eq 160, 3) := by decide +kernel
theorem dL_law_1592 : decode cL_law 1592 = .ok (.iconst 0, 1) := by decide +kernel
theorem dL_law_1593 : decode cL_law 1593 = .ok (.ireturn, 1) := by decide +kernel
theorem dL_law_1594 : decode cL_law 1594 = .ok (.aload_n 1, 1) := by decide +kernel
theorem dL_law_1595 : decode cL_law 1595 = .ok (.aload_n 0, 1) := by decide +kernel
theorem dL_law_1596 : decode cL_law 1596 = .ok (.iload_n 3, 1) := by decide +kernel
theorem dL_law_1597 : decode cL_law 1597 = .ok (.iconst 1, 1) := by decide +kernel
theorem dL_law_1598 : decode cL_law 1598 = .ok (.iadd, 1) := by decide +kernel
theorem dL_law_1599 : decode cL_law 1599 = .ok (.iaload, 1) := by decide +kernel
theorem dL_law_1600 : decode cL_law 1600 = .ok (.aload_n 0, 1) := by decide +kernel
theorem dL_law_1601 : decode cL_law 1601 = .ok (.iload_n 3, 1) := by decide +kernel
theorem dL_law_1602 : decode cL_law 1602 = .ok (.iconst 2, 1) := by decide +kernel
theorem dL_law_1603 : decode cL_law 1603 = .ok (.iadd, 1) := by decide +kernel
theorem dL_law_1604 : decode cL_law 1604 = .ok (.iaload, 1) := by decide +kernel
theorem dL_law_1605 : decode cL_law 1605 = .ok (.aload_n 0, 1) := by decide +kernel
theorem dL_law_1606 : decode cL_law 1606 = .ok (.iload_n 3, 1) := by decide +kernel
theorem dL_law_1607 : decode cL_law 1607 = .ok (.iconst 3, 1) := by decide +kernel
theorem dL_law_1608 : decode cL_law 1608 = .ok (.iadd, 1) := by decide +kernel
theorem dL_law_1609 : decode cL_law 1609 = .ok (.iaload, 1) := by decide +kernel
theorem dL_law_1610 : decode cL_law 1610 = .ok (.invokevirtual 194, 3) := by decide +kernel
theorem dL_law_1613 : decode cL_law 1613 = .ok (.aload_n 2, 1) := by decide +kernel
theorem dL_law_1614 : decode cL_law 1614 = .ok (.aload_n 0, 1) := by decide +kernel
theorem dL_law_1615 : decode cL_law 1615 = .ok (.iload_n 3, 1) := by decide +kernel
theorem dL_law_1616 : decode cL_law 1616 = .ok (.iconst 1, 1) := by decide +kernel
theorem dL_law_1617 : decode cL_law 1617 = .ok (.iadd, 1) := by decide +kernel
theorem dL_law_1618 : decode cL_law 1618 = .ok (.iaload, 1) := by decide +kernel
theorem dL_law_1619 : decode cL_law 1619 = .ok (.aload_n 0, 1) := by decide +kernel
theorem dL_law_1620 : decode cL_law 1620 = .ok (.iload_n 3, 1) := by decide +kernel
theorem dL_law_1621 : decode cL_law 1621 = .ok (.iconst 2, 1) := by decide +kernel
theorem dL_law_1622 : decode cL_law 1622 = .ok (.iadd, 1) := by decide +kernel
theorem dL_law_1623 : decode cL_law 1623 = .ok (.iaload, 1) := by decide +kernel
theorem dL_law_1624 : decode cL_law 1624 = .ok (.aload_n 0, 1) := by decide +kernel
theorem dL_law_1625 : decode cL_law 1625 = .ok (.iload_n 3, 1) := by decide +kernel
theorem dL_law_1626 : decode cL_law 1626 = .ok (.iconst 3, 1) := by decide +kernel
theorem dL_law_1627 : decode cL_law 1627 = .ok (.iadd, 1) := by decide +kernel
theorem dL_law_1628 : decode cL_law 1628 = .ok (.iaload, 1) := by decide +kernel
theorem dL_law_1629 : decode cL_law 1629 = .ok (.invokevirtual 197, 3) := by decide +kernel
theorem dL_law_1632 : decode cL_law 1632 = .ok (.if_icmp .eq 117, 3) := by decide +kernel
theorem dL_law_1635 : decode cL_law 1635 = .ok (.iconst 0, 1) := by decide +kernel
theorem dL_law_1636 : decode cL_law 1636 = .ok (.ireturn, 1) := by decide +kernel
theorem dL_law_1637 : decode cL_law 1637 = .ok (.aload_n 1, 1) := by decide +kernel
theorem dL_law_1638 : decode cL_law 1638 = .ok (.aload_n 0, 1) := by decide +kernel
theorem dL_law_1639 : decode cL_law 1639 = .ok (.iload_n 3, 1) := by decide +kernel
theorem dL_law_1640 : decode cL_law 1640 = .ok (.iconst 1, 1) := by decide +kernel
theorem dL_law_1641 : decode cL_law 1641 = .ok (.iadd, 1) := by decide +kernel
theorem dL_law_1642 : decode cL_law 1642 = .ok (.iaload, 1) := by decide +kernel
theorem dL_law_1643 : decode cL_law 1643 = .ok (.invokevirtual 198, 3) := by decide +kernel
theorem dL_law_1646 : decode cL_law 1646 = .ok (.aload_n 2, 1) := by decide +kernel
theorem dL_law_1647 : decode cL_law 1647 = .ok (.aload_n 0, 1) := by decide +kernel
theorem dL_law_1648 : decode cL_law 1648 = .ok (.iload_n 3, 1) := by decide +kernel
theorem dL_law_1649 : decode cL_law 1649 = .ok (.iconst 1, 1) := by decide +kernel
theorem dL_law_1650 : decode cL_law 1650 = .ok (.iadd, 1) := by decide +kernel
theorem dL_law_1651 : decode cL_law 1651 = .ok (.iaload, 1) := by decide +kernel
theorem dL_law_1652 : decode cL_law 1652 = .ok (.invokevirtual 201, 3) := by decide +kernel
theorem dL_law_1655 : decode cL_law 1655 = .ok (.if_icmp .eq 94, 3) := by decide +kernel
theorem dL_law_1658 : decode cL_law 1658 = .ok (.iconst 0, 1) := by decide +kernel
theorem dL_law_1659 : decode cL_law 1659 = .ok (.ireturn, 1) := by decide +kernel
theorem dL_law_1660 : decode cL_law 1660 = .ok (.aload_n 1, 1) := by decide +kernel
theorem dL_law_1661 : decode cL_law 1661 = .ok (.aload_n 0, 1) := by decide +kernel
theorem dL_law_1662 : decode cL_law 1662 = .ok (.iload_n 3, 1) := by decide +kernel
theorem dL_law_1663 : decode cL_law 1663 = .ok (.iconst 1, 1) := by decide +kernel
theorem dL_law_1664 : decode cL_law 1664 = .ok (.iadd, 1) := by decide +kernel
theorem dL_law_1665 : decode cL_law 1665 = .ok (.iaload, 1) := by decide +kernel
theorem dL_law_1666 : decode cL_law 1666 = .ok (.aload_n 0, 1) := by decide +kernel
theorem dL_law_1667 : decode cL_law 1667 = .ok (.iload_n 3, 1) := by decide +kernel
theorem dL_law_1668 : decode cL_law 1668 = .ok (.iconst 2, 1) := by decide +kernel
theorem dL_law_1669 : decode cL_law 1669 = .ok (.iadd, 1) := by decide +kernel
theorem dL_law_1670 : decode cL_law 1670 = .ok (.iaload, 1) := by decide +kernel
theorem dL_law_1671 : decode cL_law 1671 = .ok (.aload_n 0, 1) := by decide +kernel
theorem dL_law_1672 : decode cL_law 1672 = .ok (.iload_n 3, 1) := by decide +kernel
theorem dL_law_1673 : decode cL_law 1673 = .ok (.iconst 3, 1) := by decide +kernel
theorem dL_law_1674 : decode cL_law 1674 = .ok (.iadd, 1) := by decide +kernel
theorem dL_law_1675 : decode cL_law 1675 = .ok (.iaload, 1) := by decide +kernel
theorem dL_law_1676 : decode cL_law 1676 = .ok (.aload_n 0, 1) := by decide +kernel
theorem dL_law_1677 : decode cL_law 1677 = .ok (.iload_n 3, 1) := by decide +kernel
theorem dL_law_1678 : decode cL_law 1678 = .ok (.iconst 4, 1) := by decide +kernel
theorem dL_law_1679 : decode cL_law 1679 = .ok (.iadd, 1) := by decide +kernel
theorem dL_law_1680 : decode cL_law 1680 = .ok (.iaload, 1) := by decide +kernel
theorem dL_law_1681 : decode cL_law 1681 = .ok (.aload_n 0, 1) := by decide +kernel
theorem dL_law_1682 : decode cL_law 1682 = .ok (.iload_n 3, 1) := by decide +kernel
theorem dL_law_1683 : decode cL_law 1683 = .ok (.iconst 5, 1) := by decide +kernel
theorem dL_law_1684 : decode cL_law 1684 = .ok (.iadd, 1) := by decide +kernel
theorem dL_law_1685 : decode cL_law 1685 = .ok (.iaload, 1) := by decide +kernel
theorem dL_law_1686 : decode cL_law 1686 = .ok (.invokevirtual 202, 3) := by decide +kernel
theorem dL_law_1689 : decode cL_law 1689 = .ok (.aload_n 2, 1) := by decide +kernel
theorem dL_law_1690 : decode cL_law 1690 = .ok (.aload_n 0, 1) := by decide +kernel
theorem dL_law_1691 : decode cL_law 1691 = .ok (.iload_n 3, 1) := by decide +kernel
theorem dL_law_1692 : decode cL_law 1692 = .ok (.iconst 1, 1) := by decide +kernel
theorem dL_law_1693 : decode cL_law 1693 = .ok (.iadd, 1) := by decide +kernel
theorem dL_law_1694 : decode cL_law 1694 = .ok (.iaload, 1) := by decide +kernel
theorem dL_law_1695 : decode cL_law 1695 = .ok (.aload_n 0, 1) := by decide +kernel
theorem dL_law_1696 : decode cL_law 1696 = .ok (.iload_n 3, 1) := by decide +kernel
theorem dL_law_1697 : decode cL_law 1697 = .ok (.iconst 2, 1) := by decide +kernel
theorem dL_law_1698 : decode cL_law 1698 = .ok (.iadd, 1) := by decide +kernel
theorem dL_law_1699 : decode cL_law 1699 = .ok (.iaload, 1) := by decide +kernel
theorem dL_law_1700 : decode cL_law 1700 = .ok (.aload_n 0, 1) := by decide +kernel
theorem dL_law_1701 : decode cL_law 1701 = .ok (.iload_n 3, 1) := by decide +kernel
theorem dL_law_1702 : decode cL_law 1702 = .ok (.iconst 3, 1) := by decide +kernel
theorem dL_law_1703 : decode cL_law 1703 = .ok (.iadd, 1) := by decide +kernel
theorem dL_law_1704 : decode cL_law 1704 = .ok (.iaload, 1) := by decide +kernel
theorem dL_law_1705 : decode cL_law 1705 = .ok (.aload_n 0, 1) := by decide +kernel
theorem dL_law_1706 : decode cL_law 1706 = .ok (.iload_n 3, 1) := by decide +kernel
theorem dL_law_1707 : decode cL_law 1707 = .ok (.iconst 4, 1) := by decide +kernel
theorem dL_law_1708 : decode cL_law 1708 = .ok (.iadd, 1) := by decide +kernel
theorem dL_law_1709 : decode cL_law 1709 = .ok (.iaload, 1) := by decide +kernel
theorem dL_law_1710 : decode cL_law 1710 = .ok (.aload_n 0, 1) := by decide +kernel
theorem dL_law_1711 : decode cL_law 1711 = .ok (.iload_n 3, 1) := by decide +kernel
theorem dL_law_1712 : decode cL_law 1712 = .ok (.iconst 5, 1) := by decide +kernel
theorem dL_law_1713 : decode cL_law 1713 = .ok (.iadd, 1) := by decide +kernel
theorem dL_law_1714 : decode cL_law 1714 = .ok (.iaload, 1) := by decide +kernel
theorem dL_law_1715 : decode cL_law 1715 = .ok (.invokevirtual 205, 3) := by decide +kernel
theorem dL_law_1718 : decode cL_law 1718 = .ok (.if_icmp .eq 31, 3) := by decide +kernel
theorem dL_law_1721 : decode cL_law 1721 = .ok (.iconst 0, 1) := by decide +kernel
theorem dL_law_1722 : decode cL_law 1722 = .ok (.ireturn, 1) := by decide +kernel
theorem dL_law_1723 : decode cL_law 1723 = .ok (.aload_n 1, 1) := by decide +kernel
theorem dL_law_1724 : decode cL_law 1724 = .ok (.invokevirtual 206, 3) := by decide +kernel
theorem dL_law_1727 : decode cL_law 1727 = .ok (.aload_n 2, 1) := by decide +kernel
theorem dL_law_1728 : decode cL_law 1728 = .ok (.invokevirtual 209, 3) := by decide +kernel
theorem dL_law_1731 : decode cL_law 1731 = .ok (.if_icmp .eq 18, 3) := by decide +kernel
theorem dL_law_1734 : decode cL_law 1734 = .ok (.iconst 0, 1) := by decide +kernel
theorem dL_law_1735 : decode cL_law 1735 = .ok (.ireturn, 1) := by decide +kernel
theorem dL_law_1736 : decode cL_law 1736 = .ok (.aload_n 1, 1) := by decide +kernel
theorem dL_law_1737 : decode cL_law 1737 = .ok (.invokevirtual 210, 3) := by decide +kernel
theorem dL_law_1740 : decode cL_law 1740 = .ok (.aload_n 2, 1) := by decide +kernel
theorem dL_law_1741 : decode cL_law 1741 = .ok (.invokevirtual 213, 3) := by decide +kernel
theorem dL_law_1744 : decode cL_law 1744 = .ok (.if_icmp .eq 5, 3) := by decide +kernel
theorem dL_law_1747 : decode cL_law 1747 = .ok (.iconst 0, 1) := by decide +kernel
theorem dL_law_1748 : decode cL_law 1748 = .ok (.ireturn, 1) := by decide +kernel
theorem dL_law_1749 : decode cL_law 1749 = .ok (.iinc 3 6, 3) := by decide +kernel
theorem dL_law_1752 : decode cL_law 1752 = .ok (.goto (-1734), 3) := by decide +kernel
theorem dL_law_1755 : decode cL_law 1755 = .ok (.iconst 1, 1) := by decide +kernel
theorem dL_law_1756 : decode cL_law 1756 = .ok (.ireturn, 1) := by decide +kernel
